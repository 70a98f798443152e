/-! ===== signature, term, rule: the class ===== -/
theorem xcp_10 {β : Type} {f : Nat → Int32} {M : Nat → Nat → Int32} {a : Nat} {k : (Nat → Nat → Int32) → Option β} : xcp 10 10 f M a 0 0 10 k = k (mcp M a f 0 0 10) := by
  unfold xcp
  rw [if_pos (by decide)]; rfl
theorem xcp_5 {β : Type} {f : Nat → Int32} {M : Nat → Nat → Int32} {a : Nat} {k : (Nat → Nat → Int32) → Option β} : xcp 5 5 f M a 0 0 5 k = k (mcp M a f 0 0 5) := by
  unfold xcp
  rw [if_pos (by decide)]; rfl
theorem cpy_in {f g : Nat → Int32} {k i : Nat} (h : i < k) : va_cpy f g 0 0 k i = f i := by
  unfold va_cpy
  rw [if_pos (by omega)]
  exact congrArg f (by omega)
theorem fx_takeOver_c {n : Nat} {ga gc : Nat → Nat → Int32} {ops : List OpE} {vs : List (List Nat)} (h : SGW gc ops vs) : ∃ ga' : Nat → Nat → Int32, fx_X5_takeOver n ga gc = some ga' ∧ SGW ga' ops vs ∧ ga' 0 0 = gc 0 0 := by
  unfold fx_X5_takeOver
  rw [xcp_10, xcp_10, xcp_10, xcp_10, xcp_5, xl_eq, xl_eq, xl_eq]
  generalize hM : mcp (mcp (mcp (mcp (mcp ga 1 (gc 1) 0 0 10) 2 (gc 2) 0 0 10) 3 (gc 3) 0 0 10) 4 (gc 4) 0 0 10) 5 (gc 5) 0 0 5 = M
  have m1 : ∀ i : Nat, i < 10 → M 1 i = gc 1 i := fun i hi => by rw [← hM, mcp_ne (by decide), mcp_ne (by decide), mcp_ne (by decide), mcp_ne (by decide), mcp_eq, cpy_in hi]
  have m2 : ∀ i : Nat, i < 10 → M 2 i = gc 2 i := fun i hi => by rw [← hM, mcp_ne (by decide), mcp_ne (by decide), mcp_ne (by decide), mcp_eq, cpy_in hi]
  have m3 : ∀ i : Nat, i < 10 → M 3 i = gc 3 i := fun i hi => by rw [← hM, mcp_ne (by decide), mcp_ne (by decide), mcp_eq, cpy_in hi]
  have m4 : ∀ i : Nat, i < 10 → M 4 i = gc 4 i := fun i hi => by rw [← hM, mcp_ne (by decide), mcp_eq, cpy_in hi]
  have m5 : ∀ i : Nat, i < 5 → M 5 i = gc 5 i := fun i hi => by rw [← hM, mcp_eq, cpy_in hi]
  clear hM
  refine ⟨_, rfl, SGW_congr h (fun j hj => ?_) (fun a i ha1 ha4 hi => ?_) (fun i hi => ?_), by rw [mu0_ne (by decide), mu0_ne (by decide), mu0_eq]⟩
  · have : j = 0 ∨ j = 1 ∨ j = 2 := by omega
    rcases this with rfl | rfl | rfl
    · rw [mu0_ne (by decide), mu0_ne (by decide), mu0_eq]
    · rw [mu0_ne (by decide), mu0_eq]
    · rw [mu0_eq]
  · rw [mu_ne (by omega), mu_ne (by omega), mu_ne (by omega)]
    have : a = 1 ∨ a = 2 ∨ a = 3 ∨ a = 4 := by omega
    rcases this with rfl | rfl | rfl | rfl
    · exact m1 i hi
    · exact m2 i hi
    · exact m3 i hi
    · exact m4 i hi
  · rw [mu_ne (by decide), mu_ne (by decide), mu_ne (by decide)]
    exact m5 i hi
theorem TPC_nil {h : Nat → Nat → Int32} : TPC h [] := ⟨Nat.zero_le _, fun b hb9 => absurd hb9 List.not_mem_nil, trivial⟩
theorem fx_signature_c {n nv0 : Nat} {xx h ga gc rt rs sw rw0 : Nat → Nat → Int32} {L : List Nat} {so0 ma0 : Nat → Nat} {un0 : Nat → Option Nat} {nm0 : Nat → List Nat} (hn : 100000 ≤ n) (ht : TPC h L) (h0 : h 0 0 = nI L.length) :
    ∃ (x r : Int32) (xx' h' ga' gc' rt' rs' sw' rw' : Nat → Nat → Int32), fx_X9_signature n xx h ga gc rt rs sw rw0 = some (x, r, xx', h', ga', gc', rt', rs', sw', rw') ∧ h' 0 0 = nI 0 ∧ TPC h' [] ∧
      (((SGN L).1 = none ∧ x = 1 ∧ r = 0 ∧ xx' 0 1 = nI (SGN L).2.2 ∧ xx' 0 0 = xx 0 0 ∧ ga' = ga ∧ rt' = rt ∧ rs' = rs ∧ sw' = sw ∧ rw' = rw0) ∨
       (∃ (ops : List OpE) (vs : List (List Nat)), (SGN L).1 = some (ops, vs) ∧ x = 0 ∧ r = nI ops.length ∧ xx' 0 1 = -1 ∧ xx' 0 0 = 0 ∧ SGW ga' ops vs ∧ RWS 30 rt' [] ∧ RWS 16 rs' [] ∧ SHC sw' rw' so0 ma0 un0 nv0 nm0 none)) := by
  obtain ⟨h1, a1, a2, a3⟩ := fx_open_c (n := n) hn ht h0
  obtain ⟨r, gc', h2, b1, b2, b3⟩ := fx_read5_c (n := n) (ga := gc) hn a3
  have h20 : h2 0 0 = nI 0 := b2.2.1.trans a2
  unfold fx_X9_signature
  rw [a1, xb1_s, b1, xb3_s]
  rcases b3 with ⟨c1, c2, c3⟩ | ⟨c1, ops, vs, c2, c3⟩
  · rw [c1, if_pos rfl, xl_eq]
    exact ⟨_, _, _, _, _, _, _, _, _, _, rfl, h20, TPC_nil, Or.inl ⟨c2, rfl, rfl, by rw [mu0_eq]; exact c3, mu0_ne (by decide), rfl, rfl, rfl, rfl, rfl⟩⟩
  · obtain ⟨ga', d1, d2, d3⟩ := fx_takeOver_c (n := n) (ga := ga) c3
    obtain ⟨rt', e1, e2⟩ := fx_clear_c (n := n) (rn := 30) (v := rt)
    obtain ⟨rs', f1, f2⟩ := fx_clear_c (n := n) (rn := 16) (v := rs)
    obtain ⟨sw', rw', g1, g2⟩ := fx_clear4_c (n := n) (rw := rw0) (sw := sw) (so := so0) (ma := ma0) (un := un0) (nv := nv0) (nmL := nm0)
    rw [c1, if_neg (by decide), xl_eq, d1, xb1_s, e1, xb1_s, f1, xb1_s, g1, xb2_s, xl_eq]
    exact ⟨_, _, _, _, _, _, _, _, _, _, rfl, h20, TPC_nil, Or.inr ⟨ops, vs, c2, rfl, d2.1.2.2.1, by rw [mu0_ne (by decide), mu0_eq], mu0_eq, d2, e2, f2, g2⟩⟩
theorem fx_checkText_0 {n : Nat} {xx h : Nat → Nat → Int32} : fx_X9_checkText n xx h 0 = some (1, mu xx 0 1 (h 0 4)) := by
  unfold fx_X9_checkText
  rw [if_pos rfl, xl_eq, if_pos rfl]
theorem fx_checkText_1 {n : Nat} {xx h : Nat → Nat → Int32} : fx_X9_checkText n xx h 1 = some (0, mu xx 0 1 (-1)) := by
  unfold fx_X9_checkText
  rw [if_neg (by decide), xl_eq, if_neg (by decide)]
theorem VAL_ne2 {N : List (List Nat)} {so : Nat → Nat} {r : Int32} {t : List Nat} (h : VAL N so r t) (hN : N.length ≤ 1024) : ¬ r = -2 := by
  rcases h with ⟨_, h⟩ | ⟨_, i, i1, _, h⟩
  · rw [h]; decide
  · rw [h]
    intro e
    have := congrArg Int32.toInt e
    rw [nI_toInt (by omega)] at this
    have e2 : (-2 : Int32).toInt = -2 := rfl
    omega
/-- what a signature gives to the reader -/
theorem SGW_ma {ga : Nat → Nat → Int32} {ops : List OpE} {vs : List (List Nat)} (h : SGW ga ops vs) : ∀ q : Nat, soF ops q = 2 → maF ops q = 2 := fun q hq => by
  by_cases l : q < ops.length
  · rw [soF_lt l] at hq
    have em : maF ops q = (opN ops q).2.2.1 := if_pos l
    rw [em]
    exact ((h.2.2.2.1 q l).2.2.2 hq).1
  · rw [soF_ge l] at hq; exact absurd hq (by decide)
theorem fx_term_c {n : Nat} {xx h v ga rd rc rt : Nat → Nat → Int32} {w : Nat → Nat → Int64} {ops : List OpE} {vs : List (List Nat)} {L : List Nat} {Tm : List (List Nat)} {las0 : Nat → Bool} {N0 : List (List Nat)} (hn : 100000 ≤ n) (hg : SGW ga ops vs) (hpt : PTK (soF ops) (maF ops) (unF ops) vs.length L (ptm (soF ops) (maF ops) (unF ops) (nmF ops vs) ops.length vs.length L)) (ht : TPC h L) (h0 : h 0 0 = nI L.length) (hT : TB v w las0 N0) (hR : RWS 30 rt Tm) (hw : ∀ t ∈ Tm, wf 1 t) :
    ∃ (x r : Int32) (xx' h' v' : Nat → Nat → Int32) (w' : Nat → Nat → Int64) (rd' rc' rt' : Nat → Nat → Int32) (Tm' : List (List Nat)), fx_X9_term n xx h v w ga rd rc rt = some (x, r, xx', h', v', w', rd', rc', rt') ∧ h' 0 0 = nI 0 ∧ TPC h' [] ∧ xx' 0 0 = xx 0 0 ∧ RWS 30 rt' Tm' ∧ (∃ (las : Nat → Bool) (N : List (List Nat)), TB v' w' las N) ∧
      TRM (soF ops) L (ptm (soF ops) (maF ops) (unF ops) (nmF ops vs) ops.length vs.length L 401 0) Tm Tm' (xx' 0 1) x r := by
  have he := ENV_of hg
  obtain ⟨h1, a1, a2, a3⟩ := fx_open_c (n := n) hn ht h0
  obtain ⟨v1, b1, b2, b3⟩ := fx_clear8_c (n := n) hn hT
  have b2' := TB_las (las' := lasW (ga 0 2)) b2
  have hL4 := ht.1
  have rr := fx_read1_c (n := n) (p := 0) (rd := rd) (h := h1) (v := v1) (w := w) (N := []) hn he (SGW_ma hg) hg.2.2.1 hg.2.2.2.2.1 hpt (Nat.zero_le _) a3 a2 b2' b3 (Nat.zero_le _)
  unfold fx_X9_term
  rw [a1, xb1_s, b1, xb1_s]
  generalize ptm (soF ops) (maF ops) (unF ops) (nmF ops vs) ops.length vs.length L 401 0 = o at rr ⊢
  rcases rr with ⟨c1, rd2, h2, v2, w2, N2, c2, c3, c4, c5⟩ | ⟨t, c1, r, rd2, h2, v2, w2, N2, c2, c3, c4, c5, c6, c7, c8, c9⟩
  · rw [c2, xb5_s, if_pos rfl]
    unfold jx_X9_term_44
    rw [fx_checkText_0, xb2_s, if_neg (by decide)]
    exact ⟨_, _, _, _, _, _, _, _, _, Tm, rfl, c4, TPC_nil, mu0_ne (by decide), hR, ⟨_, _, c5⟩, Or.inl ⟨c1, rfl, by rw [mu0_eq]; exact c3.2.2.2.2.1, rfl, rfl⟩⟩
  · rw [c2, xb5_s, if_neg (VAL_ne2 c3 c6.1), c4.2.2.2.2.2.1]
    have hq2 := c4.2.1
    by_cases z : bk L o.2.1 = L.length
    · rw [tks_0.mpr (by omega), if_pos (show nI 0 = 0 by decide)]
      unfold jx_X9_term_44
      rw [fx_checkText_1, xb2_s, if_pos rfl]
      have third : ∀ (th r' : Int32) (Tm' : List (List Nat)), (((great (soF ops) t = true ∨ (t ∉ Tm ∧ Tm.length = 30)) ∧ th = 2 ∧ Tm' = Tm ∧ r' = 0) ∨
         (great (soF ops) t = false ∧ (∃ j : Nat, j < Tm.length ∧ nth Tm j = t ∧ r' = nI j) ∧ th = 0 ∧ Tm' = Tm) ∨
         (great (soF ops) t = false ∧ t ∉ Tm ∧ Tm.length < 30 ∧ r' = nI Tm.length ∧ th = 0 ∧ Tm' = Tm ++ [t])) → TRM (soF ops) L o Tm Tm' ((mu xx 0 1 (-1)) 0 1) th r' := fun th r' Tm' q => Or.inr (Or.inr ⟨t, c1, z, mu0_eq, q⟩)
      rcases c3 with ⟨g1, g2⟩ | ⟨g1, i, i1, i2, i3⟩
      · rw [g2, if_neg (by decide)]
        exact ⟨_, _, _, _, _, _, _, _, _, Tm, rfl, c5, TPC_nil, mu0_ne (by decide), hR, ⟨_, _, c6⟩, third _ _ _ (Or.inl ⟨Or.inl g1, rfl, rfl, rfl⟩)⟩
      · have lN := c6.1
        obtain ⟨rc1, d1, d2⟩ := fx_clear_c (n := n) (rn := 1) (v := rc)
        obtain ⟨v3, rc2, e1, e2, e3, e4⟩ := fx_write_c (n := n) (held := 0) hn (by decide) (by decide) d2 (by decide) c6 i1 c7
        rw [i2] at e2
        have tw : wf 1 t := by
          have := (TB_get c6 i1).1.1
          rw [i2] at this
          exact this
        rw [i3, if_pos (show (0 : Int32) ≤ nI i by rw [show (0 : Int32) = nI 0 from rfl, nI_le_iff (by decide) (by omega)]; omega), d1, xb1_s, e1, xb2_s]
        rcases fx_tell_c (n := n) hn hR e2 hw tw with ⟨j, j1, j2, j3⟩ | ⟨j1, j2, j3⟩ | ⟨j1, j2, rt', j3, j4⟩
        · rw [j3, xb3_s, if_pos rfl]
          exact ⟨_, _, _, _, _, _, _, _, _, Tm, rfl, c5, TPC_nil, mu0_ne (by decide), hR, ⟨_, _, TB_FRS c6 e3⟩, third _ _ _ (Or.inr (Or.inl ⟨g1, ⟨j, j1, j2, rfl⟩, rfl, rfl⟩))⟩
        · rw [j3, xb3_s, if_neg (by decide)]
          exact ⟨_, _, _, _, _, _, _, _, _, Tm, rfl, c5, TPC_nil, mu0_ne (by decide), hR, ⟨_, _, TB_FRS c6 e3⟩, third _ _ _ (Or.inl ⟨Or.inr ⟨j1, j2⟩, rfl, rfl, rfl⟩)⟩
        · rw [j3, xb3_s, if_pos rfl]
          exact ⟨_, _, _, _, _, _, _, _, _, Tm ++ [t], rfl, c5, TPC_nil, mu0_ne (by decide), j4, ⟨_, _, TB_FRS c6 e3⟩, third _ _ _ (Or.inr (Or.inr ⟨g1, j1, j2, rfl, rfl, rfl⟩))⟩
    · rw [if_neg (show ¬ nI (tks L (bk L o.2.1)) = 0 from fun g => z (by have := tks_0.mp ((nI_inj (by have := tks_le (L := L) (q := bk L o.2.1); omega) (by decide)).mp g); omega))]
      unfold jx_X9_term_44
      rw [fx_checkText_0, xb2_s, if_neg (by decide)]
      exact ⟨_, _, _, _, _, _, _, _, _, Tm, rfl, c5, TPC_nil, mu0_ne (by decide), hR, ⟨_, _, c6⟩, Or.inr (Or.inl ⟨⟨t, c1⟩, z, rfl, by rw [mu0_eq]; exact c4.2.2.2.2.1, rfl, rfl⟩)⟩
