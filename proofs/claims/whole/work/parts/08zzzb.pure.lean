/-! ===== words, names, lasting bits: the class ===== -/
theorem wnu_nil : wnu [] = 0 := rfl
theorem wnu_inj : ∀ (k : Nat) (a b : List Nat), a.length ≤ k → (∀ c ∈ a, 97 ≤ c ∧ c ≤ 122) → (∀ c ∈ b, 97 ≤ c ∧ c ≤ 122) → wnu a = wnu b → a = b := by
  intro k
  induction k with
  | zero =>
    intro a b hl ha hb9 e
    have a0 := List.eq_nil_of_length_eq_zero (l := a) (by omega)
    subst a0
    by_cases hb0 : b = []
    · exact hb0.symm
    · have e2 := List.dropLast_concat_getLast hb0
      obtain ⟨c1, c2⟩ := hb9 _ (List.getLast_mem hb0)
      rw [← e2, wnu_snoc, wnu_nil] at e
      omega
  | succ k ih =>
    intro a b hl ha hb9 e
    by_cases ha0 : a = []
    · subst ha0
      by_cases hb0 : b = []
      · exact hb0.symm
      · have e2 := List.dropLast_concat_getLast hb0
        obtain ⟨c1, c2⟩ := hb9 _ (List.getLast_mem hb0)
        rw [← e2, wnu_snoc, wnu_nil] at e
        omega
    · have e1 := List.dropLast_concat_getLast ha0
      obtain ⟨d1, d2⟩ := ha _ (List.getLast_mem ha0)
      by_cases hb0 : b = []
      · subst hb0
        rw [← e1, wnu_snoc, wnu_nil] at e
        omega
      · have e2 := List.dropLast_concat_getLast hb0
        obtain ⟨c1, c2⟩ := hb9 _ (List.getLast_mem hb0)
        rw [← e1, ← e2, wnu_snoc, wnu_snoc] at e
        have g1 : wnu a.dropLast = wnu b.dropLast := by omega
        have g2 : a.getLast ha0 = b.getLast hb0 := by omega
        have g3 := ih a.dropLast b.dropLast (by rw [List.length_dropLast]; omega) (fun c hc => ha c ((List.dropLast_sublist _).subset hc)) (fun c hc => hb9 c ((List.dropLast_sublist _).subset hc)) g1
        rw [← e1, ← e2, g3, g2]
theorem wv_lt {w : List Nat} (hw : ∀ c ∈ w, 97 ≤ c ∧ c ≤ 122) : wv w < 1073741824 := by
  unfold wv
  split
  · have := wnu_lt w.length w rfl hw
    have : 32 ^ w.length ≤ 32 ^ 6 := Nat.pow_le_pow_right (by decide) (by assumption)
    omega
  · decide
theorem wnu_pos {w : List Nat} (hw : ∀ c ∈ w, 97 ≤ c ∧ c ≤ 122) (h : 1 ≤ w.length) : 1 ≤ wnu w := by
  have h0 : w ≠ [] := by rintro rfl; exact absurd h (by decide)
  have e2 := List.dropLast_concat_getLast h0
  obtain ⟨c1, c2⟩ := hw _ (List.getLast_mem h0)
  rw [← e2, wnu_snoc]
  omega
theorem wv_eq {w x : List Nat} (hw : ∀ c ∈ w, 97 ≤ c ∧ c ≤ 122) (hx : ∀ c ∈ x, 97 ≤ c ∧ c ≤ 122) (h1 : 1 ≤ x.length) (h6 : x.length ≤ 6) : nI (wv w) = nI (wnu x) ↔ w = x := by
  have l1 := wv_lt hw
  have l2 : wnu x < 1073741824 := by
    have := wnu_lt x.length x rfl hx
    have : 32 ^ x.length ≤ 32 ^ 6 := Nat.pow_le_pow_right (by decide) h6
    omega
  rw [nI_inj (by omega) (by omega)]
  constructor
  · intro e
    unfold wv at e
    by_cases c : w.length ≤ 6
    · rw [if_pos c] at e
      exact wnu_inj w.length w x (Nat.le_refl _) hw hx e
    · rw [if_neg c] at e
      have := wnu_pos hx h1
      omega
  · intro e
    subst e
    unfold wv
    rw [if_pos h6]
theorem wd_not {L : List Nat} {q : Nat} (h : isLe L q = false) : wd L q = q := scn_f h
theorem wd_pos {L : List Nat} {q : Nat} (h : isLe L q = true) : q < wd L q := by
  show q < scn (isLe L) (399 + 1) q
  rw [scn_t h]
  exact scn_ge
theorem wd_iff {L : List Nat} {q : Nat} : wd L q ≤ q ↔ isLe L q = false := by
  constructor
  · intro h
    cases y : isLe L q with
    | false => rfl
    | true => have := wd_pos y; omega
  · intro h
    rw [wd_not h]; exact Nat.le_refl _
theorem dg_not {L : List Nat} {q : Nat} (h : isDg L q = false) : dg L q = q := scn_f h
theorem bk_not {L : List Nat} {q : Nat} (h : isBl L q = false) : bk L q = q := scn_f h
theorem bk_bk {L : List Nat} {p : Nat} (h : L.length ≤ 400) : bk L (bk L p) = bk L p := by
  apply bk_not
  exact scn_end isBl_lt (by omega)
theorem wd_let2 {L : List Nat} {q : Nat} (hq : q ≤ L.length) : ∀ c ∈ sli L q (wd L q), 97 ≤ c ∧ c ≤ 122 := fun c hc => by
  obtain ⟨i, i1, i2⟩ := List.getElem_of_mem hc
  have l := sli_len (b := q) (wd_le hq)
  have i3 : gb (sli L q (wd L q)) i = c := by
    unfold gb; rw [List.getD_eq_getElem?_getD, List.getElem?_eq_getElem i1]; exact i2
  rw [gb_sli (by omega)] at i3
  have := isb_lt (show isb L (q + i) 97 122 = true from wd_let (p := q) (q + i) (by omega) (by omega))
  rw [i3] at this
  exact this.2
theorem tks_1 {L : List Nat} {q : Nat} : tks L q = 1 ↔ isLe L q = true := by
  unfold tks
  constructor
  · intro h
    by_cases c : L.length ≤ q
    · rw [if_pos c] at h; exact absurd h (by decide)
    · rw [if_neg c] at h
      cases y : isLe L q with
      | true => rfl
      | false =>
        rw [y] at h
        cases z : isDg L q with
        | true => rw [z] at h; exact absurd h (by decide)
        | false => rw [z] at h; exact absurd h (by decide)
  · intro h
    rw [if_neg (by have := isLe_lt _ h; omega), h]; rfl
theorem tkv_1 {L : List Nat} {q : Nat} (h : isLe L q = true) : tkv L q = nI (wv (sli L q (wd L q))) ∧ tke L q = wd L q := by
  have := isLe_lt _ h
  unfold tkv tke
  rw [if_neg (show ¬ L.length ≤ q by omega), if_neg (show ¬ L.length ≤ q by omega), h]
  exact ⟨rfl, rfl⟩
theorem tks_2 {L : List Nat} {q : Nat} : tks L q = 2 ↔ isDg L q = true := by
  have ex : isDg L q = true → isLe L q = false := fun h => by
    have h1 := isb_lt (show isb L q 48 57 = true from h)
    cases y : isLe L q with
    | false => rfl
    | true => have := isb_lt (show isb L q 97 122 = true from y); omega
  unfold tks
  constructor
  · intro h
    by_cases c : L.length ≤ q
    · rw [if_pos c] at h; exact absurd h (by decide)
    · rw [if_neg c] at h
      cases y : isLe L q with
      | true => rw [y, if_pos rfl] at h; exact absurd h (by decide)
      | false =>
        rw [y] at h
        cases z : isDg L q with
        | true => rfl
        | false => rw [z] at h; exact absurd h (by decide)
  · intro h
    rw [if_neg (by have := isDg_lt _ h; omega), ex h, h]; rfl
theorem tkv_2 {L : List Nat} {q : Nat} (h : isDg L q = true) : tkv L q = nv1 L q (dg L q) ∧ tke L q = dg L q := by
  have h1 := isb_lt (show isb L q 48 57 = true from h)
  have y : isLe L q = false := by
    cases y : isLe L q with
    | false => rfl
    | true => have := isb_lt (show isb L q 97 122 = true from y); omega
  unfold tkv tke
  rw [if_neg (show ¬ L.length ≤ q by omega), if_neg (show ¬ L.length ≤ q by omega), y, h]
  exact ⟨rfl, rfl⟩
theorem tks_0 {L : List Nat} {q : Nat} : tks L q = 0 ↔ L.length ≤ q := by
  unfold tks
  constructor
  · intro h
    by_cases c : L.length ≤ q
    · exact c
    · rw [if_neg c] at h
      cases y : isLe L q with
      | true => rw [y, if_pos rfl] at h; exact absurd h (by decide)
      | false =>
        rw [y] at h
        cases z : isDg L q with
        | true => rw [z] at h; exact absurd h (by decide)
        | false => rw [z] at h; exact absurd h (by decide)
  · intro h
    rw [if_pos h]
/-- names have one to six letters -/
def NMD (nmL : Nat → List Nat) (no nv : Nat) : Prop := ∀ i : Nat, nmv no nv i = true → 1 ≤ (nmL i).length ∧ (nmL i).length ≤ 6 ∧ ∀ c ∈ nmL i, 97 ≤ c ∧ c ≤ 122
theorem lx_findOperator_c {n no nv : Nat} {ga : Nat → Nat → Int32} {so ma : Nat → Nat} {un : Nat → Option Nat} {nmL : Nat → List Nat} {w : List Nat} (hg : SGC ga so ma un no nv nmL) (hm9 : NMD nmL no nv) (hw : ∀ c ∈ w, 97 ≤ c ∧ c ≤ 122) : ∀ (d i m : Nat), i + d = no → d < m → (∀ j : Nat, j < i → nmL j ≠ w) →
    ∃ r : Int32, lx_X5_findOperator_2 n ga (nI (wv w)) m (nI i) = some r ∧ ((∃ o : Nat, o < no ∧ nmL o = w ∧ r = nI o) ∨ ((∀ o : Nat, o < no → nmL o ≠ w) ∧ r = -1))
  | d, i, 0, _, hm, _ => by omega
  | d, i, m + 1, hi, hm, hj => by
    obtain ⟨h1, h2, h3, h4, h5, h6⟩ := hg
    show ∃ r : Int32, bx_X5_findOperator_2 n ga (nI (wv w)) (lx_X5_findOperator_2 n ga (nI (wv w)) m) (nI i) = some r ∧ _
    unfold bx_X5_findOperator_2
    rw [h3]
    cases d with
    | zero =>
      rw [if_pos (by rw [nI_le_iff (by omega) (by omega)]; omega)]
      exact ⟨_, rfl, Or.inr ⟨fun o ho => hj o (by omega), rfl⟩⟩
    | succ d =>
      obtain ⟨n1, n2, n3⟩ := hm9 i (nmv_op.mpr (Or.inl (by omega)))
      rw [if_neg (by rw [nI_le_iff (by omega) (by omega)]; omega), if_neg (by rw [show (10 : Int32) = nI 10 from rfl, nI_le_iff (by decide) (by omega)]; omega), xr_n (by omega) (by decide), (h5 i (by omega)).1]
      by_cases c : nmL i = w
      · rw [if_pos ((wv_eq hw n3 n1 n2).mpr c.symm).symm]
        exact ⟨_, rfl, Or.inl ⟨i, by omega, c, rfl⟩⟩
      · rw [if_neg (fun e => c ((wv_eq hw n3 n1 n2).mp e.symm).symm), xl_eq, nI_1]
        exact lx_findOperator_c ⟨h1, h2, h3, h4, h5, h6⟩ hm9 hw d (i + 1) m (by omega) (by omega) (fun j hj2 => by
          by_cases e : j = i
          · rw [e]; exact c
          · exact hj j (by omega))
theorem fx_findOperator_c {n no nv : Nat} {ga : Nat → Nat → Int32} {so ma : Nat → Nat} {un : Nat → Option Nat} {nmL : Nat → List Nat} {w : List Nat} (hn : 100000 ≤ n) (hg : SGC ga so ma un no nv nmL) (hm9 : NMD nmL no nv) (hw : ∀ c ∈ w, 97 ≤ c ∧ c ≤ 122) :
    ∃ r : Int32, fx_X5_findOperator n ga (nI (wv w)) = some r ∧ ((∃ o : Nat, o < no ∧ nmL o = w ∧ r = nI o) ∨ ((∀ o : Nat, o < no → nmL o ≠ w) ∧ r = -1)) :=
  lx_findOperator_c hg hm9 hw no 0 n (by omega) (by have := hg.1; omega) (fun j hj => by omega)
theorem lx_findVariable_c {n no nv : Nat} {ga : Nat → Nat → Int32} {so ma : Nat → Nat} {un : Nat → Option Nat} {nmL : Nat → List Nat} {w : List Nat} (hg : SGC ga so ma un no nv nmL) (hm9 : NMD nmL no nv) (hw : ∀ c ∈ w, 97 ≤ c ∧ c ≤ 122) : ∀ (d i m : Nat), i + d = nv → d < m → (∀ j : Nat, j < i → nmL (10 + j) ≠ w) →
    ∃ r : Int32, lx_X5_findVariable_2 n ga (nI (wv w)) m (nI i) = some r ∧ ((∃ o : Nat, o < nv ∧ nmL (10 + o) = w ∧ r = nI o) ∨ ((∀ o : Nat, o < nv → nmL (10 + o) ≠ w) ∧ r = -1))
  | d, i, 0, _, hm, _ => by omega
  | d, i, m + 1, hi, hm, hj => by
    obtain ⟨h1, h2, h3, h4, h5, h6⟩ := hg
    show ∃ r : Int32, bx_X5_findVariable_2 n ga (nI (wv w)) (lx_X5_findVariable_2 n ga (nI (wv w)) m) (nI i) = some r ∧ _
    unfold bx_X5_findVariable_2
    rw [h4]
    cases d with
    | zero =>
      rw [if_pos (by rw [nI_le_iff (by omega) (by omega)]; omega)]
      exact ⟨_, rfl, Or.inr ⟨fun o ho => hj o (by omega), rfl⟩⟩
    | succ d =>
      obtain ⟨n1, n2, n3⟩ := hm9 (10 + i) (nmv_op.mpr (Or.inr ⟨by omega, by omega⟩))
      rw [if_neg (by rw [nI_le_iff (by omega) (by omega)]; omega), if_neg (by rw [show (5 : Int32) = nI 5 from rfl, nI_le_iff (by decide) (by omega)]; omega), xr_n (by omega) (by decide), h6 i (by omega)]
      by_cases c : nmL (10 + i) = w
      · rw [if_pos ((wv_eq hw n3 n1 n2).mpr c.symm).symm]
        exact ⟨_, rfl, Or.inl ⟨i, by omega, c, rfl⟩⟩
      · rw [if_neg (fun e => c ((wv_eq hw n3 n1 n2).mp e.symm).symm), xl_eq, nI_1]
        exact lx_findVariable_c ⟨h1, h2, h3, h4, h5, h6⟩ hm9 hw d (i + 1) m (by omega) (by omega) (fun j hj2 => by
          by_cases e : j = i
          · rw [e]; exact c
          · exact hj j (by omega))
theorem fx_findVariable_c {n no nv : Nat} {ga : Nat → Nat → Int32} {so ma : Nat → Nat} {un : Nat → Option Nat} {nmL : Nat → List Nat} {w : List Nat} (hn : 100000 ≤ n) (hg : SGC ga so ma un no nv nmL) (hm9 : NMD nmL no nv) (hw : ∀ c ∈ w, 97 ≤ c ∧ c ≤ 122) :
    ∃ r : Int32, fx_X5_findVariable n ga (nI (wv w)) = some r ∧ ((∃ o : Nat, o < nv ∧ nmL (10 + o) = w ∧ r = nI o) ∨ ((∀ o : Nat, o < nv → nmL (10 + o) ≠ w) ∧ r = -1)) :=
  lx_findVariable_c hg hm9 hw nv 0 n (by omega) (by have := hg.2.1; omega) (fun j hj => by omega)
theorem fx_isNewName_c {n no nv : Nat} {ga : Nat → Nat → Int32} {so ma : Nat → Nat} {un : Nat → Option Nat} {nmL : Nat → List Nat} {w : List Nat} (hn : 100000 ≤ n) (hg : SGC ga so ma un no nv nmL) (hm9 : NMD nmL no nv) (hw : ∀ c ∈ w, 97 ≤ c ∧ c ≤ 122) :
    fx_X5_isNewName n ga (nI (wv w)) = some (if isNm w = true ∧ nam nmL no nv w 15 0 = none then 1 else 0) := by
  have l1 := wv_lt hw
  obtain ⟨r1, a1, a2⟩ := fx_findOperator_c (n := n) hn hg hm9 hw
  obtain ⟨r2, b1, b2⟩ := fx_findVariable_c (n := n) hn hg hm9 hw
  unfold fx_X5_isNewName
  have kw : ∀ (x : List Nat), (∀ c ∈ x, 97 ≤ c ∧ c ≤ 122) → 1 ≤ x.length → x.length ≤ 6 → (nI (wv w) = nI (wnu x) ↔ w = x) := fun x h1 h2 h3 => wv_eq hw h1 h2 h3
  have no1 : isNm w = false → (if isNm w = true ∧ nam nmL no nv w 15 0 = none then (1 : Int32) else 0) = 0 := fun h => if_neg (fun g => by rw [h] at g; exact absurd g.1 (by decide))
  by_cases z0 : wv w = 0
  · rw [z0, if_pos (by decide), no1]
    unfold wv at z0
    unfold isNm
    by_cases c : w.length ≤ 6
    · rw [if_pos c] at z0
      have : ¬ 1 ≤ w.length := fun g => by have := wnu_pos hw g; omega
      rw [decide_eq_false this]; rfl
    · rw [decide_eq_false c, Bool.and_false]; rfl
  · have len : 1 ≤ w.length ∧ w.length ≤ 6 := by
      unfold wv at z0
      by_cases c : w.length ≤ 6
      · refine ⟨?_, c⟩
        by_cases d : 1 ≤ w.length
        · exact d
        · rw [if_pos c, List.eq_nil_of_length_eq_zero (l := w) (by omega)] at z0
          exact absurd rfl z0
      · rw [if_neg c] at z0; exact absurd rfl z0
    rw [if_neg (by rw [show (0 : Int32) = nI 0 from rfl, nI_inj (by omega) (by decide)]; exact z0)]
    have k1 := kw wFree (by decide) (by decide) (by decide)
    have k2 := kw wC (by decide) (by decide) (by decide)
    have k3 := kw wAc (by decide) (by decide) (by decide)
    have k4 := kw wUnit (by decide) (by decide) (by decide)
    have k5 := kw wVar (by decide) (by decide) (by decide)
    have e1 : nI (wnu wFree) = (215205 : Int32) := by decide
    have e2 : nI (wnu wC) = (3 : Int32) := by decide
    have e3 : nI (wnu wAc) = (35 : Int32) := by decide
    have e4 : nI (wnu wUnit) = (702772 : Int32) := by decide
    have e5 : nI (wnu wVar) = (22578 : Int32) := by decide
    rw [e1] at k1
    rw [e2] at k2
    rw [e3] at k3
    rw [e4] at k4
    rw [e5] at k5
    by_cases c1 : w = wFree
    · rw [if_pos (k1.mpr c1), no1 (by rw [c1]; decide)]
    · rw [if_neg (fun g => c1 (k1.mp g))]
      by_cases c2 : w = wC
      · rw [if_pos (k2.mpr c2), no1 (by rw [c2]; decide)]
      · rw [if_neg (fun g => c2 (k2.mp g))]
        by_cases c3 : w = wAc
        · rw [if_pos (k3.mpr c3), no1 (by rw [c3]; decide)]
        · rw [if_neg (fun g => c3 (k3.mp g))]
          by_cases c4 : w = wUnit
          · rw [if_pos (k4.mpr c4), no1 (by rw [c4]; decide)]
          · rw [if_neg (fun g => c4 (k4.mp g))]
            by_cases c5 : w = wVar
            · rw [if_pos (k5.mpr c5), no1 (by rw [c5]; decide)]
            · rw [if_neg (fun g => c5 (k5.mp g)), a1, xb1_s]
              have isn1 : isNm w = true := by
                unfold isNm
                rw [decide_eq_true len.1, decide_eq_true len.2, decide_eq_false c1, decide_eq_false c2, decide_eq_false c3, decide_eq_false c4, decide_eq_false c5]; rfl
              have found : ∀ i : Nat, nmv no nv i = true → nmL i = w → nam nmL no nv w 15 0 ≠ none := fun i hi e q => nam_none q i (Nat.zero_le _) (by have := nmv_lt hi hg.1 hg.2.1; omega) hi e
              rcases a2 with ⟨o, o1, o2, o3⟩ | ⟨o1, o2⟩
              · rw [o3, if_pos (by have := hg.1; rw [show (0 : Int32) = nI 0 from rfl, nI_le_iff (by decide) (by omega)]; omega), if_neg (fun g => found o (nmv_op.mpr (Or.inl o1)) o2 g.2)]
              · rw [o2, if_neg (by decide), b1, xb1_s]
                rcases b2 with ⟨v, v1, v2, v3⟩ | ⟨v1, v2⟩
                · rw [v3, if_pos (by have := hg.2.1; rw [show (0 : Int32) = nI 0 from rfl, nI_le_iff (by decide) (by omega)]; omega), if_neg (fun g => found (10 + v) (nmv_op.mpr (Or.inr ⟨by omega, by omega⟩)) v2 g.2)]
                · rw [v2, if_neg (by decide), if_pos]
                  refine ⟨isn1, ?_⟩
                  cases q : nam nmL no nv w 15 0 with
                  | none => rfl
                  | some k =>
                    obtain ⟨q1, q2, q3⟩ := nam_v q
                    rcases nmv_op.mp q1 with g | g
                    · exact absurd q2 (o1 k g)
                    · have := v1 (k - 10) (by omega)
                      rw [show 10 + (k - 10) = k by omega] at this
                      exact absurd q2 this
