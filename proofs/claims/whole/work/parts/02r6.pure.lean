/-! ===== bound ===== -/
theorem var_row {so ma : Nat → Nat} {un : Nat → Option Nat} {nv v : Nat} (h5 : nv ≤ 5) (hv : v < nv) : okt so [v] ∧ sS so ma nv [v] := by
  have ha : ar v = 0 := by unfold ar; rw [if_pos (by omega)]
  refine ⟨⟨wf_mk (by rw [ha]; rfl), col_cons.mpr ⟨Or.inl (by omega), col_nil⟩, fun d hd h9 => ?_⟩, fun d hd => ?_⟩
  · rw [List.mem_singleton.mp hd] at h9; omega
  · rw [List.mem_singleton.mp hd]; exact Or.inl hv
theorem split_at {F : List (List Nat)} {i : Nat} (h : i < F.length) : ∃ A B : List (List Nat), F = A ++ nth F i :: B ∧ A.length = i := by
  refine ⟨F.take i, F.drop (i + 1), ?_, by rw [List.length_take]; omega⟩
  have e : nth F i = F[i] := by
    unfold nth
    rw [List.getD_eq_getElem?_getD, List.getElem?_eq_getElem h]; rfl
  rw [e]
  simp
theorem fx_bound_ok {n : Nat} {nm nmm fs fu fk fp fsp fgp fgt fb fw ff shr tx : Nat → Int32} {so ma : Nat → Nat} {un : Nat → Option Nat} {nv : Nat} {nmL : Nat → List Nat} {th top wt fm pv tm iss shn x y k z : Int32} {Tm : List (List Nat)} (hn : 100000 ≤ n) (hsg : SG fs fu so un) (hsv : SV so un ma nv) (hnm : NMs so nv nm nmm nmL) (h : KT so un ma nv fk Tm) :
    ∃ (r th' : Int32) (fp' : Nat → Int32) (top' : Int32) (fsp' fgp' fgt' fb' fw' : Nat → Int32) (wt' fm' pv' : Int32) (ff' : Nat → Int32) (tm' : Int32) (shr' tx' : Nat → Int32) (iss' shn' : Int32), fx_bound n th nm nmm fs fu (nI nv) fp top fsp fk (nI Tm.length) fgp fgt fb fw wt fm pv ff tm shr tx iss shn x y k z = some (r, th', fp', top', fsp', fgp', fgt', fb', fw', wt', fm', pv', ff', tm', shr', tx', iss', shn') ∧
      ((∃ (i j v : Nat), (i < Tm.length ∧ x = nI i) ∧ (j < Tm.length ∧ y = nI j) ∧ (v < nv ∧ z = nI v) ∧
          ((∃ (pv1 : Int32) (F : List (List Nat)), MatL so un (nth Tm i) (nth Tm j) pv1 F ∧
              ((∃ (q : Nat) (sg : Nat → List Nat), q < F.length ∧ k = nI q ∧ v ∈ nth Tm i ∧ von so un sg (nth Tm i) ∧ fil so un sg (nth Tm i) = nth Tm j ∧ nth F q = key pv1 sg ∧ th' = 0 ∧ r = nI (txt nmL (sg v)).length ∧ SHW so un ma nv nmL (some (sg v)) shr' tx' iss' shn') ∨
               (¬ (isn k F.length ∧ v ∈ nth Tm i) ∧ th' = 2 ∧ r = 0 ∧ shr' = shr ∧ tx' = tx ∧ iss' = iss ∧ shn' = shn))) ∨
           (TMm so un (nth Tm i) (nth Tm j) ∧ th' = 3 ∧ r = 0 ∧ shr' = shr ∧ tx' = tx ∧ iss' = iss ∧ shn' = shn))) ∨
       (¬ (isn x Tm.length ∧ isn y Tm.length ∧ isn z nv) ∧ th' = 1 ∧ r = 0 ∧ shr' = shr ∧ tx' = tx ∧ iss' = iss ∧ shn' = shn)) := by
  have hl := h.1
  have hsu := SV_SU hsv
  have h5 := hsv.1
  unfold fx_bound
  rcases fx_noTerm_ok (n := n) (th := 0) (x := x) (k := Tm.length) (by omega) with ⟨h1, e1⟩ | ⟨h1, e1⟩
  · rw [e1, xb2_s, if_pos rfl]
    rcases fx_noTerm_ok (n := n) (th := 0) (x := y) (k := Tm.length) (by omega) with ⟨h2, e2⟩ | ⟨h2, e2⟩
    · rw [e2, xb2_s, if_pos rfl]
      rcases fx_noVariable_ok (n := n) (th := 0) (x := z) (k := nv) (by omega) with ⟨h3, e3⟩ | ⟨h3, e3⟩
      · rw [e3, xb2_s, if_pos rfl]
        obtain ⟨i, i1, i2⟩ := isn_of (by omega) h1
        obtain ⟨j, j1, j2⟩ := isn_of (by omega) h2
        obtain ⟨v, v1, v2⟩ := isn_of (by omega) h3
        obtain ⟨a1, a2, a3, a4⟩ := KT_get h i1
        obtain ⟨b1, b2, b3, b4⟩ := KT_get h j1
        obtain ⟨c1, c2⟩ := two_terms (fp := fp) hn hsv h i1 j1
        obtain ⟨f2, gp2, gt2, b2', w2, fm2, pv2, ff2, tm2, m1, m2, m3, m4⟩ := fx_laysMatches_ok (fgp := fgp) (fgt := fgt) (fb := fb) (fw := fw) (ff := ff) (wt := wt) (fm := fm) (pv := pv) hn hsg hsu c2 (by omega)
        unfold fx_rowOfTerm
        rw [i2, j2, v2, fx_termAt_ok hn h i1, xb4_s, xb1_s, c1, xb3_s, show (0 : Int32) = nI 0 from rfl]
        rw [show nI 0 = (0 : Int32) from rfl] at m1 ⊢
        rw [m1, xb11_s]
        rcases m4 with ⟨t0, F, d1, d2, d3, d4, d5⟩ | ⟨t1, L, d1, d2, d3⟩
        · have hML : MatL so un (nth Tm i) (nth Tm j) pv2 F := ⟨m3, d1, d2, d5⟩
          subst t0 d3
          rw [fx_tooMuch_ok (Or.inl rfl), xb2_s, if_pos rfl, if_pos rfl, xl_eq]
          have bad : ∀ (T9 : Int32), ¬ (isn k F.length ∧ v ∈ nth Tm i) → ∃ (r th' : Int32) (fp' : Nat → Int32) (top' : Int32) (fsp' fgp' fgt' fb' fw' : Nat → Int32) (wt' fm' pv' : Int32) (ff' : Nat → Int32) (tm' : Int32) (shr' tx' : Nat → Int32) (iss' shn' : Int32), jx_bound_94 n nm nmm fs fu (nI nv) fk (nI Tm.length) (nI i) (nI j) k (nI v) 0 1 0 f2 T9 fsp gp2 gt2 b2' w2 0 (nI F.length) pv2 ff2 0 shr tx iss shn = some (r, th', fp', top', fsp', fgp', fgt', fb', fw', wt', fm', pv', ff', tm', shr', tx', iss', shn') ∧ (th' = 2 ∧ r = 0 ∧ shr' = shr ∧ tx' = tx ∧ iss' = iss ∧ shn' = shn) := fun T9 _ => by
            unfold jx_bound_94
            rw [fx_throwsIf_1, xb2_s, if_neg (by decide)]
            exact ⟨_, _, _, _, _, _, _, _, _, _, _, _, _, _, _, _, _, _, rfl, rfl, rfl, rfl, rfl, rfl, rfl⟩
          rcases in_isn (n := n) (x := k) (k := F.length) (by omega) with ⟨g1, g2⟩ | ⟨g1, g2⟩
          · rw [g2, xb1_s, if_neg (by decide), fx_holds_ok (by omega), xb1_s]
            by_cases hvm : v ∈ nth Tm i
            · obtain ⟨q, q1, q2⟩ := isn_of (by omega) g1
              obtain ⟨A, B, s1, s2⟩ := split_at q1
              obtain ⟨sg, r1, r2, r3⟩ := (d5 (nth F q)).mp (nth_mem q1)
              have hrow := found_row (f := ff2) (pv := pv2) (sg := sg) (A := A) (B := B) (fun w hw hww => (r1 w ((m3 w hw).mp hww) (by omega)).2) (fun w hw => d1.1 w (by rw [s1]; exact List.mem_append_left _ hw)) (by rw [← r3, ← s1]; exact d4)
              have hv5 : v < 5 := by omega
              have hrow' := hrow v hv5 ((m3 v hv5).mpr hvm)
              rw [s2] at hrow'
              obtain ⟨w1, w2'⟩ := var_row (so := so) (ma := ma) (un := un) h5 v1
              have htk := match_tok hsv a1.1 a3 r1 b1 r2 v hvm (by omega)
              obtain ⟨f5, sp5, g5, g6, g7⟩ := fx_fills_ok (ff := ff2) (sg := sg) (m := q) hsg hsu hn (by omega) 21 [v] 0 1 (upd f2 0 (nI v)) fsp ⟨upd_eq _ _ _, trivial⟩ w1 (by simp) (by simp) (by simp) (fun c hc hc5 => by rw [List.mem_singleton.mp hc]; exact hrow') (fun c hc hc5 => by rw [List.mem_singleton.mp hc]; exact ⟨htk.1.1, tok_len htk⟩) (by simp)
              have ef : filT so un sg 21 [v] = sg v := by
                show filT so un sg (20 + 1) [v] = sg v
                rw [filT_s, if_pos (by omega)]
              rw [ef] at g5 g6
              obtain ⟨shr', tx', y1, y2⟩ := shows_SHW (shr := shr) (tx := tx) (iss := iss) (shn := shn) (fp := f5) (a := 1) hn hnm h5 g6 htk (by decide)
              rw [if_pos ((m3 v hv5).mpr hvm), if_neg (by decide)]
              unfold jx_bound_94
              rw [fx_throwsIf_0, xb2_s, if_pos rfl, show (0 : Int32) = nI 0 from rfl, xw_n (by decide) (by decide), show (1 : Int32) = nI 1 from rfl, q2, g5, xb4_s, y1, xb5_s]
              exact ⟨_, _, _, _, _, _, _, _, _, _, _, _, _, _, _, _, _, _, rfl, Or.inl ⟨i, j, v, ⟨i1, rfl⟩, ⟨j1, rfl⟩, ⟨v1, rfl⟩, Or.inl ⟨pv2, F, hML, Or.inl ⟨q, sg, q1, rfl, hvm, r1, r2, r3, rfl, rfl, y2⟩⟩⟩⟩
            · have hb0 : ¬ hb pv2 v = true := fun q => hvm ((m3 v (by omega)).mp q)
              rw [if_neg hb0, if_pos rfl]
              obtain ⟨r, th', fp', top', fsp', fgp', fgt', fb', fw', wt', fm', pv', ff', tm', shr', tx', iss', shn', z1, z2⟩ := bad (nI ((nth Tm i).length + (nth Tm j).length)) (fun q => hvm q.2)
              exact ⟨r, th', fp', top', fsp', fgp', fgt', fb', fw', wt', fm', pv', ff', tm', shr', tx', iss', shn', z1, Or.inl ⟨i, j, v, ⟨i1, rfl⟩, ⟨j1, rfl⟩, ⟨v1, rfl⟩, Or.inl ⟨pv2, F, hML, Or.inr ⟨fun q => hvm q.2, z2⟩⟩⟩⟩
          · rw [g2, xb1_s, if_pos rfl]
            obtain ⟨r, th', fp', top', fsp', fgp', fgt', fb', fw', wt', fm', pv', ff', tm', shr', tx', iss', shn', z1, z2⟩ := bad (nI ((nth Tm i).length + (nth Tm j).length)) (fun q => g1 q.1)
            exact ⟨r, th', fp', top', fsp', fgp', fgt', fb', fw', wt', fm', pv', ff', tm', shr', tx', iss', shn', z1, Or.inl ⟨i, j, v, ⟨i1, rfl⟩, ⟨j1, rfl⟩, ⟨v1, rfl⟩, Or.inl ⟨pv2, F, hML, Or.inr ⟨fun q => g1 q.1, z2⟩⟩⟩⟩
        · rw [t1, fx_tooMuch_ok (Or.inr rfl), xb2_s, if_neg (by decide), if_neg (by decide)]
          exact ⟨_, _, _, _, _, _, _, _, _, _, _, _, _, _, _, _, _, _, rfl, Or.inl ⟨i, j, v, ⟨i1, rfl⟩, ⟨j1, rfl⟩, ⟨v1, rfl⟩, Or.inr ⟨⟨pv2, L, m3, d1, d2, d3⟩, rfl, rfl, rfl, rfl, rfl, rfl⟩⟩⟩
      · rw [e3, xb2_s, if_neg (by decide)]
        exact ⟨_, _, _, _, _, _, _, _, _, _, _, _, _, _, _, _, _, _, rfl, Or.inr ⟨fun q => h3 q.2.2, rfl, rfl, rfl, rfl, rfl, rfl⟩⟩
    · rw [e2, xb2_s, if_neg (by decide)]
      exact ⟨_, _, _, _, _, _, _, _, _, _, _, _, _, _, _, _, _, _, rfl, Or.inr ⟨fun q => h2 q.2.1, rfl, rfl, rfl, rfl, rfl, rfl⟩⟩
  · rw [e1, xb2_s, if_neg (by decide)]
    exact ⟨_, _, _, _, _, _, _, _, _, _, _, _, _, _, _, _, _, _, rfl, Or.inr ⟨fun q => h1 q.1, rfl, rfl, rfl, rfl, rfl, rfl⟩⟩
/-! ===== fill ===== -/
abbrev LRes := Option (Int32 × Int32 × (Nat → Int32) × Int32 × (Nat → Int32) × Int32 × (Nat → Int32) × Int32 × (Nat → Int32) × (Nat → Int32) × Int32 × Int32)
theorem lx_fill_95_ok {n : Nat} {nm nmm fs fu kp fp fsp shr tx : Nat → Int32} {nv9 terms p0 p2 x4 th top fm tm iss shn : Int32} {v a E : Nat} (hv : v < 5) : ∀ (r : List Nat) (j m : Nat) (ff : Nat → Int32), la fp (a + j) r → j + r.length ≤ 21 → a + 21 ≤ 60000 → E = a + j + r.length →
    lx_fill_95 n nm nmm fs fu nv9 kp terms p0 (nI v) p2 (r.length + m) x4 (nI a) (nI E) (nI (a + j)) th fp top fsp fm ff tm shr tx iss shn = lx_fill_95 n nm nmm fs fu nv9 kp terms p0 (nI v) p2 m x4 (nI a) (nI E) (nI E) th fp top fsp fm (put ff (21 * v + j) r) tm shr tx iss shn
  | [], j, m, ff, _, _, _, hE => by
    simp only [List.length_nil, Nat.zero_add, Nat.add_zero] at hE ⊢
    rw [hE]; rfl
  | c :: r, j, m, ff, hl, hj, ha, hE => by
    simp only [List.length_cons] at hj hE
    have ih := lx_fill_95_ok (n := n) (nm := nm) (nmm := nmm) (fs := fs) (fu := fu) (kp := kp) (fsp := fsp) (shr := shr) (tx := tx) (nv9 := nv9) (terms := terms) (p0 := p0) (p2 := p2) (x4 := x4) (th := th) (top := top) (fm := fm) (tm := tm) (iss := iss) (shn := shn) (E := E) hv r (j + 1) m (upd ff (21 * v + j) (nI c)) (by rw [show a + (j + 1) = a + j + 1 by omega]; exact hl.2) (by omega) ha (by omega)
    rw [show (c :: r).length + m = (r.length + m) + 1 by simp only [List.length_cons]; omega]
    show bx_fill_95 n nm nmm fs fu nv9 kp terms p0 (nI v) p2 (lx_fill_95 n nm nmm fs fu nv9 kp terms p0 (nI v) p2 (r.length + m)) x4 (nI a) (nI E) (nI (a + j)) th fp top fsp fm ff tm shr tx iss shn = _
    unfold bx_fill_95
    rw [if_neg (by rw [nI_le_iff (by omega) (by omega)]; omega), show (0 : Int32) = nI 0 from rfl, fx_foundAt_ok (by decide) (by omega), xb1_s, xl_eq, nI_add, xl_eq, nI_sub (by omega), show 21 * (5 * 0 + v) + (a + j) - a = 21 * v + j by omega, xr_n (by omega) (by decide), hl.1, xw_n (by omega) (by decide), xl_eq, nI_1, show a + j + 1 = a + (j + 1) by omega, ih]; rfl
theorem lx_fill_57_ok {n : Nat} {nm nmm fs fu kp fp fsp shr tx : Nat → Int32} {nv9 terms p0 p1 p2 x4 th top fm tm iss shn : Int32} {a : Nat} {b : List Nat} (hn : 100000 ≤ n) (hb' : la fp a b) (hw : wf 1 b) (hc : col b) (ha : a + b.length ≤ 60000) : ∀ (d v m : Nat) (ff : Nat → Int32), v + d = 5 → (∀ u : Nat, u < v → ff (21 * u) = nI u) → d < m →
    ∃ ff' : Nat → Int32, (∀ u : Nat, u < 5 → ff' (21 * u) = nI u) ∧ lx_fill_57 n nm nmm fs fu nv9 kp terms p0 p1 p2 m x4 (nI a) (nI v) th fp top fsp fm ff tm shr tx iss shn = lx_fill_95 n nm nmm fs fu nv9 kp terms p0 p1 p2 n x4 (nI a) (nI (a + b.length)) (nI a) th fp top fsp fm ff' tm shr tx iss shn
  | 0, v, m + 1, ff, hv, hf, _ => by
    refine ⟨ff, fun u hu => hf u (by omega), ?_⟩
    show bx_fill_57 n nm nmm fs fu nv9 kp terms p0 p1 p2 (lx_fill_57 n nm nmm fs fu nv9 kp terms p0 p1 p2 m) x4 (nI a) (nI v) th fp top fsp fm ff tm shr tx iss shn = _
    unfold bx_fill_57
    rw [show v = 5 by omega, if_pos (by decide), fx_behind_ok hb' hw hc ha hn, xb1_s]
  | d + 1, v, m + 1, ff, hv, hf, hm => by
    obtain ⟨ff', g1, g2⟩ := lx_fill_57_ok (nm := nm) (nmm := nmm) (fs := fs) (fu := fu) (kp := kp) (fsp := fsp) (shr := shr) (tx := tx) (nv9 := nv9) (terms := terms) (p0 := p0) (p1 := p1) (p2 := p2) (x4 := x4) (th := th) (top := top) (fm := fm) (tm := tm) (iss := iss) (shn := shn) hn hb' hw hc ha d (v + 1) m (upd ff (21 * v) (nI v)) (by omega) (fun u hu => by
      by_cases q : u = v
      · rw [q, upd_eq]
      · rw [upd_ne (by omega)]; exact hf u (by omega)) (by omega)
    refine ⟨ff', g1, ?_⟩
    show bx_fill_57 n nm nmm fs fu nv9 kp terms p0 p1 p2 (lx_fill_57 n nm nmm fs fu nv9 kp terms p0 p1 p2 m) x4 (nI a) (nI v) th fp top fsp fm ff tm shr tx iss shn = _
    unfold bx_fill_57
    rw [if_neg (by rw [show (5 : Int32) = nI 5 from rfl, nI_le_iff (by decide) (by omega)]; omega), show (0 : Int32) = nI 0 from rfl, fx_foundAt_ok (by decide) (by omega), xb1_s, show 21 * (5 * 0 + v) = 21 * v by omega, xw_n (by omega) (by decide), xl_eq, nI_1]
    exact g2
/-- a term with a variable put in as another one -/
def putv (so : Nat → Nat) (un : Nat → Option Nat) (v : Nat) (b t : List Nat) : List Nat := fil so un (fun c => if c = v then b else [c]) t
theorem fx_fill_ok {n : Nat} {nm nmm fs fu fk fp fsp ff shr tx : Nat → Int32} {so ma : Nat → Nat} {un : Nat → Option Nat} {nv : Nat} {nmL : Nat → List Nat} {th top fm tm iss shn x z y : Int32} {Tm : List (List Nat)} (hn : 100000 ≤ n) (hsg : SG fs fu so un) (hsv : SV so un ma nv) (hnm : NMs so nv nm nmm nmL) (h : KT so un ma nv fk Tm) :
    ∃ (r th' : Int32) (fp' : Nat → Int32) (top' : Int32) (fsp' : Nat → Int32) (fm' : Int32) (ff' : Nat → Int32) (tm' : Int32) (shr' tx' : Nat → Int32) (iss' shn' : Int32), fx_fill n th nm nmm fs fu (nI nv) fp top fsp fk (nI Tm.length) fm ff tm shr tx iss shn x z y = some (r, th', fp', top', fsp', fm', ff', tm', shr', tx', iss', shn') ∧
      ((∃ (i v j : Nat), (i < Tm.length ∧ x = nI i) ∧ (v < nv ∧ z = nI v) ∧ (j < Tm.length ∧ y = nI j) ∧
          ((great so (putv so un v (nth Tm j) (nth Tm i)) = false ∧ th' = 0 ∧ r = nI (txt nmL (putv so un v (nth Tm j) (nth Tm i))).length ∧ SHW so un ma nv nmL (some (putv so un v (nth Tm j) (nth Tm i))) shr' tx' iss' shn') ∨
           (great so (putv so un v (nth Tm j) (nth Tm i)) = true ∧ th' = 2 ∧ r = 0 ∧ shr' = shr ∧ tx' = tx ∧ iss' = iss ∧ shn' = shn))) ∨
       (¬ (isn x Tm.length ∧ isn z nv ∧ isn y Tm.length) ∧ th' = 1 ∧ r = 0 ∧ shr' = shr ∧ tx' = tx ∧ iss' = iss ∧ shn' = shn)) := by
  have hl := h.1
  have hsu := SV_SU hsv
  have h5 := hsv.1
  unfold fx_fill
  rcases fx_noTerm_ok (n := n) (th := 0) (x := x) (k := Tm.length) (by omega) with ⟨h1, e1⟩ | ⟨h1, e1⟩
  · rw [e1, xb2_s, if_pos rfl]
    rcases fx_noVariable_ok (n := n) (th := 0) (x := z) (k := nv) (by omega) with ⟨h3, e3⟩ | ⟨h3, e3⟩
    · rw [e3, xb2_s, if_pos rfl]
      rcases fx_noTerm_ok (n := n) (th := 0) (x := y) (k := Tm.length) (by omega) with ⟨h2, e2⟩ | ⟨h2, e2⟩
      · rw [e2, xb2_s, if_pos rfl]
        obtain ⟨i, i1, i2⟩ := isn_of (by omega) h1
        obtain ⟨j, j1, j2⟩ := isn_of (by omega) h2
        obtain ⟨v, v1, v2⟩ := isn_of (by omega) h3
        obtain ⟨a1, a2, a3, a4⟩ := KT_get h i1
        obtain ⟨b1, b2, b3, b4⟩ := KT_get h j1
        obtain ⟨c1, c2⟩ := two_terms (fp := fp) hn hsv h i1 j1
        have lt1 : la (put (put fp 0 (nth Tm i)) (nth Tm i).length (nth Tm j)) 0 (nth Tm i) := la_put (Or.inl (by omega)) put_la
        have lt2 : la (put (put fp 0 (nth Tm i)) (nth Tm i).length (nth Tm j)) (nth Tm i).length (nth Tm j) := put_la
        have hj0 := wf_pos b1.1.1.1
        unfold fx_rowOfTerm
        rw [i2, j2, v2, fx_termAt_ok hn h i1, xb4_s, xb1_s, c1, xb3_s]
        obtain ⟨ff1, g1, g2⟩ := lx_fill_57_ok (n := n) (nm := nm) (nmm := nmm) (fs := fs) (fu := fu) (kp := fk) (fsp := fsp) (shr := shr) (tx := tx) (nv9 := nI nv) (terms := nI Tm.length) (p0 := nI i) (p1 := nI v) (p2 := nI j) (x4 := 0) (th := 0) (top := nI ((nth Tm i).length + (nth Tm j).length)) (fm := 1) (tm := 0) (iss := iss) (shn := shn) hn lt2 b1.1.1.1 b1.1.1.2.1 (by omega) 5 0 n ff (by omega) (fun u hu => absurd hu (Nat.not_lt_zero _)) (by omega)
        rw [show nI 0 = (0 : Int32) from rfl] at g2
        rw [g2]
        have g3 := lx_fill_95_ok (n := n) (nm := nm) (nmm := nmm) (fs := fs) (fu := fu) (kp := fk) (fp := put (put fp 0 (nth Tm i)) (nth Tm i).length (nth Tm j)) (fsp := fsp) (shr := shr) (tx := tx) (nv9 := nI nv) (terms := nI Tm.length) (p0 := nI i) (p2 := nI j) (x4 := 0) (th := 0) (top := nI ((nth Tm i).length + (nth Tm j).length)) (fm := 1) (tm := 0) (iss := iss) (shn := shn) (v := v) (a := (nth Tm i).length) (E := (nth Tm i).length + (nth Tm j).length) (by omega) (nth Tm j) 0 (n - (nth Tm j).length) ff1 (by rw [Nat.add_zero]; exact lt2) (by omega) (by omega) (by omega)
        rw [show (nth Tm j).length + (n - (nth Tm j).length) = n by omega, Nat.add_zero, Nat.add_zero] at g3
        rw [g3]
        obtain ⟨hv1, hv2⟩ := von_id (so := so) (un := un) (v := v) (t := nth Tm i) hsv b1 a1.2.2
        have hvok := von_vok hv1
        have hrows : ∀ c ∈ nth Tm i, c < 512 → la (put ff1 (21 * v) (nth Tm j)) (21 * (5 * 0 + c)) (if c = v then nth Tm j else [c]) := fun c hc q => by
          have hc5 : c < nv := by
            rcases a1.2.2 c hc with g | ⟨g, _⟩
            · exact g
            · omega
          rw [show 21 * (5 * 0 + c) = 21 * c by omega]
          by_cases e : c = v
          · rw [if_pos e, e]; exact put_la
          · rw [if_neg e]
            refine ⟨?_, trivial⟩
            rw [put_out (by omega)]
            exact g1 c (by omega)
        obtain ⟨f5, sp5, k1, k2, k3⟩ := fx_fills_ok (ff := put ff1 (21 * v) (nth Tm j)) (sg := fun c => if c = v then nth Tm j else [c]) (m := 0) hsg hsu hn (by decide) 21 (nth Tm i) 0 ((nth Tm i).length + (nth Tm j).length) (put (put fp 0 (nth Tm i)) (nth Tm i).length (nth Tm j)) fsp lt1 a1.1.1 (by omega) a3 (by omega) hrows hvok (by omega)
        have ef : filT so un (fun c => if c = v then nth Tm j else [c]) 21 (nth Tm i) = putv so un v (nth Tm j) (nth Tm i) := rfl
        rw [ef] at k1 k2
        obtain ⟨n1, n2⟩ := fil_nok2 (un := un) hsu a1.1.1 a3 hv1
        have n1' : nok so un (putv so un v (nth Tm j) (nth Tm i)) := n1
        have n2' : (putv so un v (nth Tm j) (nth Tm i)).length ≤ 420 := n2
        have nS : sS so ma nv (putv so un v (nth Tm j) (nth Tm i)) := filT_S hsv 21 (nth Tm i) a1.1.1 (by omega) (by omega) hvok a1.2.2 hv2
        obtain ⟨m, hm⟩ : ∃ m, n - (nth Tm j).length = m + 1 := ⟨n - (nth Tm j).length - 1, by omega⟩
        rw [hm]
        have fin : lx_fill_95 n nm nmm fs fu (nI nv) fk (nI Tm.length) (nI i) (nI v) (nI j) (m + 1) 0 (nI (nth Tm i).length) (nI ((nth Tm i).length + (nth Tm j).length)) (nI ((nth Tm i).length + (nth Tm j).length)) 0 (put (put fp 0 (nth Tm i)) (nth Tm i).length (nth Tm j)) (nI ((nth Tm i).length + (nth Tm j).length)) fsp 1 (put ff1 (21 * v) (nth Tm j)) 0 shr tx iss shn = (xb2 (fx_throwsIf n 0 (if great so (putv so un v (nth Tm j) (nth Tm i)) then 1 else 0) ((2 : Int32))) fun r_22 th_23 => if r_22 = (0 : Int32) then (xb5 (fx_shows n nm nmm f5 shr tx iss shn (nI ((nth Tm i).length + (nth Tm j).length))) fun r_33 shr_34 tx_35 iss_36 shn_37 => some (r_33, th_23, f5, nI ((nth Tm i).length + (nth Tm j).length + (putv so un v (nth Tm j) (nth Tm i)).length), sp5, 1, put ff1 (21 * v) (nth Tm j), 0, shr_34, tx_35, iss_36, shn_37)) else (some ((0 : Int32), th_23, f5, nI ((nth Tm i).length + (nth Tm j).length + (putv so un v (nth Tm j) (nth Tm i)).length), sp5, 1, put ff1 (21 * v) (nth Tm j), 0, shr, tx, iss, shn))) := by
          show bx_fill_95 n nm nmm fs fu (nI nv) fk (nI Tm.length) (nI i) (nI v) (nI j) (lx_fill_95 n nm nmm fs fu (nI nv) fk (nI Tm.length) (nI i) (nI v) (nI j) m) _ _ _ _ _ _ _ _ _ _ _ _ _ _ _ = _
          unfold bx_fill_95
          rw [if_pos (Int32.le_refl _)]
          rw [show nI 0 = (0 : Int32) from rfl] at k1
          rw [k1, xb4_s, fx_isGreat_ok hsg k2 n1'.1.1 n1'.1.2 (by omega) hn, xb1_s]
        rw [fin]
        by_cases g : great so (putv so un v (nth Tm j) (nth Tm i)) = true
        · rw [if_pos g, fx_throwsIf_1, xb2_s, if_neg (by decide)]
          exact ⟨_, _, _, _, _, _, _, _, _, _, _, _, rfl, Or.inl ⟨i, v, j, ⟨i1, rfl⟩, ⟨v1, rfl⟩, ⟨j1, rfl⟩, Or.inr ⟨g, rfl, rfl, rfl, rfl, rfl, rfl⟩⟩⟩
        · have g' : great so (putv so un v (nth Tm j) (nth Tm i)) = false := by simpa using g
          obtain ⟨shr', tx', w1, w2⟩ := shows_SHW (shr := shr) (tx := tx) (iss := iss) (shn := shn) (fp := f5) (a := (nth Tm i).length + (nth Tm j).length) hn hnm h5 k2 (un := un) (ma := ma) ⟨n1', g', nS⟩ (by omega)
          rw [if_neg g, fx_throwsIf_0, xb2_s, if_pos rfl, w1, xb5_s]
          exact ⟨_, _, _, _, _, _, _, _, _, _, _, _, rfl, Or.inl ⟨i, v, j, ⟨i1, rfl⟩, ⟨v1, rfl⟩, ⟨j1, rfl⟩, Or.inl ⟨g', rfl, rfl, w2⟩⟩⟩
      · rw [e2, xb2_s, if_neg (by decide)]
        exact ⟨_, _, _, _, _, _, _, _, _, _, _, _, rfl, Or.inr ⟨fun q => h2 q.2.2, rfl, rfl, rfl, rfl, rfl, rfl⟩⟩
    · rw [e3, xb2_s, if_neg (by decide)]
      exact ⟨_, _, _, _, _, _, _, _, _, _, _, _, rfl, Or.inr ⟨fun q => h3 q.2.1, rfl, rfl, rfl, rfl, rfl, rfl⟩⟩
  · rw [e1, xb2_s, if_neg (by decide)]
    exact ⟨_, _, _, _, _, _, _, _, _, _, _, _, rfl, Or.inr ⟨fun q => h1 q.1, rfl, rfl, rfl, rfl, rfl, rfl⟩⟩
