/-! ===== the matcher: the part with the fewest ways ===== -/
theorem pw32 : ∀ k : Fin 7, (1 : Int32) <<< (nI k.val &&& 31) = nI (2 ^ k.val) := by decide +kernel
theorem wth_rng {so : Nat → Nat} {un : Nat → Option Nat} {las : Nat → Bool} {P q : List Nat} (h : P.length ≤ 20) : 1 ≤ wth so un las P q ∧ wth so un las P q ≤ 22 := by
  unfold wth
  have := Nat.le_trans (fld_le (las := las) (l := P) (h := hd0 q)) h
  split
  · omega
  · split
    · omega
    · split <;> omega
theorem fx_worthOf_c {n x wp no nv : Nat} {ga u vt : Nat → Nat → Int32} {w : Nat → Nat → Int64} {las : Nat → Bool} {N : List (List Nat)} {so ma : Nat → Nat} {un : Nat → Option Nat} {nmL : Nat → List Nat} (he : ENV ga las so ma un no nv nmL) (hT : TBK vt w las so ma un nv N) (hx : x < N.length) (hwp : wp < N.length) (hw0 : u 0 0 = nI wp) : fx_X0_worthOf n u vt w ga (nI x) = some (nI (wth so un las (nth N wp) (nth N x))) := by
  have tx := hT.2 _ (nth_mem hx)
  have tw := hT.2 _ (nth_mem hwp)
  have lw := tok_len tw
  have nd := (TB_get hT.1 hx).1
  have hc := nd.2.1 _ (hd0_mem nd.1)
  unfold fx_X0_worthOf wth
  rw [fx_sortOf_c he hT hx, xb1_s]
  have s2 : sto so un (nth N x) ≤ 2 := by unfold sto; split; omega; split <;> omega
  by_cases q2 : sto so un (nth N x) = 2
  · rw [if_pos (by rw [q2]; rfl), if_pos q2]; rfl
  · rw [if_neg (by rw [show (2 : Int32) = nI 2 from rfl, nI_inj (by omega) (by decide)]; exact q2), if_neg q2]
    by_cases q1 : sto so un (nth N x) = 1
    · rw [if_pos (by rw [q1]; rfl), if_pos q1]; rfl
    · rw [if_neg (by rw [show (1 : Int32) = nI 1 from rfl, nI_inj (by omega) (by decide)]; exact q1), if_neg q1]
      have hv : hd0 (nth N x) < 512 := by
        apply Classical.byContradiction
        intro g
        unfold sto at q1 q2
        rw [if_neg g] at q1 q2
        split at q1
        · exact q1 rfl
        · rename_i z; rw [if_neg z] at q2; exact q2 rfl
      have h5 : hd0 (nth N x) < 5 := by rcases tx.1.1.2.1 _ (hd0_mem tx.1.1.1) with g | g <;> omega
      have f32 : ∀ h : Nat, fld las (nth N wp) h < 32 := fun h => Nat.lt_of_le_of_lt (Nat.le_trans fld_le lw) (by decide)
      have tm := times_c (D := fld las (nth N wp)) (v := hd0 (nth N x)) f32 h5
      have lo9 : cnt (loC las) (nth N wp) = pkf (fld las (nth N wp)) 0 10 := loC_pk
      have f9 := f32 (hd0 (nth N x))
      rw [hw0, fx_lowOf_c hT.1 hwp, xb1_s, fx_codeOf_c hT.1 hx, xb1_s, cc_v hv, xl_eq, xl_eq, xl_eq, xl_eq, lo9, tm]
      by_cases z : fld las (nth N wp) (hd0 (nth N x)) ≤ 1
      · rw [if_pos (by rw [show (1 : Int32) = nI 1 from rfl, nI_le_iff (by omega) (by decide)]; exact z), if_pos z]; rfl
      · rw [if_neg (by rw [show (1 : Int32) = nI 1 from rfl, nI_le_iff (by omega) (by decide)]; exact z), if_neg z, xl_eq, nI_1]
theorem lx_brOver_c {n gi a b wp no nv left : Nat} {ga u vt : Nat → Nat → Int32} {w : Nat → Nat → Int64} {las : Nat → Bool} {N : List (List Nat)} {so ma : Nat → Nat} {un : Nat → Option Nat} {nmL : Nat → List Nat} {p t : List Nat} (hn : 100000 ≤ n) (he : ENV ga las so ma un no nv nmL) (hT : TBK vt w las so ma un nv N) (hwp : wp < N.length) (hw0 : u 0 0 = nI wp) (hi : gi < 256) (ha : a < N.length) (ha2 : nth N a = p) (hb9 : b < N.length) (hb2 : nth N b = t) (eb : u 3 gi = nI b) (hk : kd so p = 2) (hl : left < 64) (hlb : ∀ j : Nat, (pts p).length ≤ j → left.testBit j = false) (h0 : left ≠ 0) :
    ∀ (d i m : Nat) (x4 x5 : Int32), i + d = 6 → d < m → ((x4 = -1 ∧ x5 = 0 ∧ ∀ z : Nat, z < i → left.testBit z = false) ∨ ∃ bp : Nat, bp < i ∧ left.testBit bp = true ∧ x4 = nI bp ∧ x5 = nI (wth so un las (nth N wp) (nth (pts p) bp)) ∧ ∀ z : Nat, z < i → left.testBit z = true → wth so un las (nth N wp) (nth (pts p) z) ≤ wth so un las (nth N wp) (nth (pts p) bp)) →
      ∃ bp : Nat, left.testBit bp = true ∧ (∀ z : Nat, left.testBit z = true → wth so un las (nth N wp) (nth (pts p) z) ≤ wth so un las (nth N wp) (nth (pts p) bp)) ∧
        lx_X0_branchOverSum_35 n vt w ga (nI gi) m (nI a) (nI left) x4 x5 (nI i) u = xb1 (fx_X0_addBranch n u (nI gi) (nI bp) (nI (if sto so un (nth (pts p) bp) = 2 then (flat1 so un (opn p) t).length else 2 ^ (flat1 so un (opn p) t).length))) fun v => some v
  | 0, i, m + 1, x4, x5, hid, _, hst => by
    have ei : i = 6 := by omega
    subst ei
    have hsv := he.2.1
    have hs2 := fun (o : Nat) (h : so o ≠ 3) => (ENV_op he h).2.2
    have tp := hT.2 _ (nth_mem ha)
    rw [ha2] at tp
    obtain ⟨s1, s2, s3, s4⟩ := sum_ar tp hk
    rcases hst with ⟨_, _, z⟩ | ⟨bp, b1, b2, b3, b4, b5⟩
    · exfalso
      have t2 := (fx_tz_c (n := n) hl h0).2
      rw [z _ t2.2] at t2
      exact nomatch t2.1
    · have bl : bp < (pts p).length := by
        apply Classical.byContradiction
        intro g
        rw [hlb _ (by omega)] at b2; exact nomatch b2
      refine ⟨bp, b2, fun z hz => ?_, ?_⟩
      · by_cases g : z < 6
        · exact b5 z g hz
        · rw [bit_hi hl (by omega)] at hz; exact nomatch hz
      · have nda := (TB_get hT.1 ha).1
        have hcp := nda.2.1 _ (hd0_mem nda.1)
        rw [ha2] at hcp
        have co := fx_codeOf_c (n := n) hT.1 ha
        rw [ha2] at co
        obtain ⟨c1, c2, c3⟩ := asSum_c (n := n) (ga := ga) (un := un) he hT.1 hb9 s2
        rw [hb2] at c1 c2
        obtain ⟨q, q1, q2, q3⟩ := fx_partOf_c (n := n) hT.1 ha (j := bp) (by rw [ha2, ← pts_len tp.1.1.1]; exact bl)
        rw [ha2] at q2
        have so9 := fx_sortOf_c (n := n) he hT (show q < N.length by omega)
        rw [q2] at so9
        have s3 : sto so un (nth (pts p) bp) ≤ 2 := by unfold sto; split; omega; split <;> omega
        have pw9 : (1 : Int32) <<< (nI (flat1 so un (opn p) t).length &&& 31) = nI (2 ^ (flat1 so un (opn p) t).length) := pw32 ⟨(flat1 so un (opn p) t).length, by omega⟩
        show bx_X0_branchOverSum_35 n vt w ga (nI gi) (lx_X0_branchOverSum_35 n vt w ga (nI gi) m) (nI a) (nI left) x4 x5 (nI 6) u = _
        unfold bx_X0_branchOverSum_35
        rw [if_pos (by decide), xr_n hi (by decide), eb, co, xb1_s, fx_operatorIn_c hcp, xb1_s, opI_op s1]
        show xb1 (fx_X8_partsAsSum n vt ga (nI b) (nI (opn p))) _ = _
        rw [c1, xb1_s, b3, q3, xb1_s, so9, xb1_s]
        by_cases y : sto so un (nth (pts p) bp) = 2
        · rw [if_pos (by rw [y]; rfl), if_pos y]
          unfold jx_X0_branchOverSum_144
          rw [if_neg (by decide)]
        · rw [if_neg (by rw [show (2 : Int32) = nI 2 from rfl, nI_inj (by omega) (by decide)]; exact y), if_neg y]
          unfold jx_X0_branchOverSum_144
          rw [if_pos rfl, xl_eq, pw9]
  | d + 1, i, m + 1, x4, x5, hid, hm, hst => by
    have tp := hT.2 _ (nth_mem ha)
    rw [ha2] at tp
    have tw := hT.2 _ (nth_mem hwp)
    have hsh : lx_X0_branchOverSum_35 n vt w ga (nI gi) (m + 1) (nI a) (nI left) x4 x5 (nI i) u = bx_X0_branchOverSum_35 n vt w ga (nI gi) (lx_X0_branchOverSum_35 n vt w ga (nI gi) m) (nI a) (nI left) x4 x5 (nI i) u := rfl
    rw [hsh]
    unfold bx_X0_branchOverSum_35
    have x5n : (0 : Int32) ≤ x5 := by
      rcases hst with ⟨_, z, _⟩ | ⟨bp, _, _, _, z, _⟩
      · rw [z]; decide
      · have := wth_rng (so := so) (un := un) (las := las) (P := nth N wp) (q := nth (pts p) bp) (tok_len tw)
        rw [z, show (0 : Int32) = nI 0 from rfl, nI_le_iff (by decide) (by omega)]; omega
    rw [if_neg (by rw [show (6 : Int32) = nI 6 from rfl, nI_le_iff (by decide) (by omega)]; omega), xl_eq, xl_eq]
    cases hb : left.testBit i with
    | false =>
      rw [if_pos ((bit0 hl (by omega)).mpr hb), if_pos x5n, xl_eq, nI_1]
      refine lx_brOver_c hn he hT hwp hw0 hi ha ha2 hb9 hb2 eb hk hl hlb h0 d (i + 1) m x4 x5 (by omega) (by omega) ?_
      rcases hst with ⟨a1, a2, a3⟩ | ⟨bp, b1, b2, b3, b4, b5⟩
      · refine Or.inl ⟨a1, a2, fun z hz => ?_⟩
        by_cases e : z = i
        · rw [e]; exact hb
        · exact a3 z (by omega)
      · refine Or.inr ⟨bp, by omega, b2, b3, b4, fun z hz hz2 => ?_⟩
        by_cases e : z = i
        · rw [e, hb] at hz2; exact nomatch hz2
        · exact b5 z (by omega) hz2
    | true =>
      have il : i < (pts p).length := by
        apply Classical.byContradiction
        intro g
        rw [hlb _ (by omega)] at hb; exact nomatch hb
      obtain ⟨q, q1, q2, q3⟩ := fx_partOf_c (n := n) hT.1 ha (j := i) (by rw [ha2, ← pts_len tp.1.1.1]; exact il)
      rw [ha2] at q2
      have wo := fx_worthOf_c (n := n) (ga := ga) (un := un) he hT (show q < N.length by omega) hwp hw0
      rw [q2] at wo
      have rg := wth_rng (so := so) (un := un) (las := las) (P := nth N wp) (q := nth (pts p) i) (tok_len tw)
      rw [if_neg (fun z => by rw [(bit0 hl (by omega)).mp z] at hb; exact nomatch hb), q3, xb1_s, wo, xb1_s]
      rcases hst with ⟨a1, a2, a3⟩ | ⟨bp, b1, b2, b3, b4, b5⟩
      · rw [a2, if_neg (by rw [show (0 : Int32) = nI 0 from rfl, nI_le_iff (by omega) (by decide)]; omega), xl_eq, nI_1]
        refine lx_brOver_c hn he hT hwp hw0 hi ha ha2 hb9 hb2 eb hk hl hlb h0 d (i + 1) m (nI i) _ (by omega) (by omega) (Or.inr ⟨i, by omega, hb, rfl, rfl, fun z hz hz2 => ?_⟩)
        by_cases e : z = i
        · rw [e]; exact Nat.le_refl _
        · rw [a3 z (by omega)] at hz2; exact nomatch hz2
      · have rb := wth_rng (so := so) (un := un) (las := las) (P := nth N wp) (q := nth (pts p) bp) (tok_len tw)
        rw [b4]
        by_cases y : wth so un las (nth N wp) (nth (pts p) i) ≤ wth so un las (nth N wp) (nth (pts p) bp)
        · rw [if_pos (by rw [nI_le_iff (by omega) (by omega)]; exact y), xl_eq, nI_1]
          refine lx_brOver_c hn he hT hwp hw0 hi ha ha2 hb9 hb2 eb hk hl hlb h0 d (i + 1) m x4 _ (by omega) (by omega) (Or.inr ⟨bp, by omega, b2, b3, rfl, fun z hz hz2 => ?_⟩)
          by_cases e : z = i
          · rw [e]; exact y
          · exact b5 z (by omega) hz2
        · rw [if_neg (by rw [nI_le_iff (by omega) (by omega)]; exact y), xl_eq, nI_1]
          refine lx_brOver_c hn he hT hwp hw0 hi ha ha2 hb9 hb2 eb hk hl hlb h0 d (i + 1) m (nI i) _ (by omega) (by omega) (Or.inr ⟨i, by omega, hb, rfl, rfl, fun z hz hz2 => ?_⟩)
          by_cases e : z = i
          · rw [e]; exact Nat.le_refl _
          · exact Nat.le_trans (b5 z (by omega) hz2) (by omega)
theorem fx_brOver_c {n gi a b wp no nv left : Nat} {ga u vt : Nat → Nat → Int32} {w : Nat → Nat → Int64} {las : Nat → Bool} {N : List (List Nat)} {so ma : Nat → Nat} {un : Nat → Option Nat} {nmL : Nat → List Nat} {p t : List Nat} (hn : 100000 ≤ n) (he : ENV ga las so ma un no nv nmL) (hT : TBK vt w las so ma un nv N) (hwp : wp < N.length) (hw0 : u 0 0 = nI wp) (hi : gi < 256) (ha : a < N.length) (ha2 : nth N a = p) (ea : u 1 gi = nI a) (el : u 2 gi = nI left) (hb9 : b < N.length) (hb2 : nth N b = t) (eb : u 3 gi = nI b) (hk : kd so p = 2) (hl : left < 64) (hlb : ∀ j : Nat, (pts p).length ≤ j → left.testBit j = false) (h0 : left ≠ 0) :
    ∃ bp : Nat, left.testBit bp = true ∧ (∀ z : Nat, left.testBit z = true → wth so un las (nth N wp) (nth (pts p) z) ≤ wth so un las (nth N wp) (nth (pts p) bp)) ∧
      fx_X0_branchOverSum n u vt w ga (nI gi) = xb1 (fx_X0_addBranch n u (nI gi) (nI bp) (nI (if sto so un (nth (pts p) bp) = 2 then (flat1 so un (opn p) t).length else 2 ^ (flat1 so un (opn p) t).length))) fun v => some v := by
  obtain ⟨bp, b1, b2, b3⟩ := lx_brOver_c (n := n) (u := u) hn he hT hwp hw0 hi ha ha2 hb9 hb2 eb hk hl hlb h0 6 0 n (-1) 0 rfl (by omega) (Or.inl ⟨rfl, rfl, fun z hz => absurd hz (Nat.not_lt_zero _)⟩)
  refine ⟨bp, b1, b2, ?_⟩
  rw [← b3]
  unfold fx_X0_branchOverSum
  rw [if_neg (by rw [show (0 : Int32) = nI 0 from rfl, nI_lt_iff (by omega) (by decide)]; omega), if_pos (by rw [show (256 : Int32) = nI 256 from rfl, nI_lt_iff (by omega) (by decide)]; exact hi), xr_n hi (by decide), ea, xr_n hi (by decide), el]; rfl
