/-! ===== rows copied, compared, found ===== -/
theorem take_one {r : List Nat} {a k : Nat} (h : a + k < r.length) : (r.drop a).take (k + 1) = (r.drop a).take k ++ [gb r (a + k)] := by
  rw [List.take_succ, List.getElem?_drop, List.getElem?_eq_getElem h]
  have : gb r (a + k) = r[a + k] := by
    unfold gb
    rw [List.getD_eq_getElem?_getD, List.getElem?_eq_getElem h]; rfl
  rw [this]; rfl
theorem lx_copyCells_c {n rn bn i a q : Nat} {vb : Nat → Nat → Int32} {A B : List (List Nat)} (hr : rn ≤ 1000) (hb9 : bn ≤ 1000) (hB : RWS bn vb B) (hi : i < B.length) (hq : a + q ≤ (nth B i).length) : ∀ (d k m : Nat) (v : Nat → Nat → Int32), k + d = q → d < m → RWS rn v (A ++ [((nth B i).drop a).take k]) →
    ∃ v' : Nat → Nat → Int32, lx_X2_copyCells_10 n rn bn vb (nI i) (nI a) (nI q) m (nI k) v = some v' ∧ RWS rn v' (A ++ [((nth B i).drop a).take q])
  | 0, k, m + 1, v, hk, _, h => by
    have h20 := (hB.2.2 i hi).2.1
    refine ⟨v, ?_, by rw [show q = k by omega]; exact h⟩
    show bx_X2_copyCells_10 n rn bn vb (nI i) (nI a) (nI q) (lx_X2_copyCells_10 n rn bn vb (nI i) (nI a) (nI q) m) (nI k) v = _
    unfold bx_X2_copyCells_10
    rw [if_pos (by rw [nI_le_iff (by omega) (by omega)]; omega)]
  | d + 1, k, m + 1, v, hk, hm, h => by
    obtain ⟨b1, h20, b3, b4⟩ := hB.2.2 i hi
    have hcc : cck (gb (nth B i) (a + k)) := b3 _ (gb_mem (by omega))
    obtain ⟨v1, p1, p2⟩ := fx_put_c (n := n) (c := gb (nth B i) (a + k)) hr h (by rw [List.length_take, List.length_drop]; omega) hcc
    rw [← take_one (by omega)] at p2
    obtain ⟨v', z1, z2⟩ := lx_copyCells_c hr hb9 hB hi hq d (k + 1) m v1 (by omega) (by omega) p2
    refine ⟨v', ?_, z2⟩
    rw [← z1]
    show bx_X2_copyCells_10 n rn bn vb (nI i) (nI a) (nI q) (lx_X2_copyCells_10 n rn bn vb (nI i) (nI a) (nI q) m) (nI k) v = _
    unfold bx_X2_copyCells_10
    rw [if_neg (by rw [nI_le_iff (by omega) (by omega)]; omega), show (20 : Int32) = nI 20 from rfl, if_neg (by rw [nI_le_iff (by decide) (by omega)]; omega), xl_eq, nI_add, fx_cellAt_c hb9 hB hi (by omega), xb1_s, p1, xb1_s, xl_eq, nI_1]
theorem fx_copyCells_c {n rn bn i a q : Nat} {v vb : Nat → Nat → Int32} {A B : List (List Nat)} (hn : 100000 ≤ n) (hr : rn ≤ 1000) (hb9 : bn ≤ 1000) (h : RWS rn v A) (hA : A.length < rn) (hB : RWS bn vb B) (hi : i < B.length) (hq : a + q ≤ (nth B i).length) :
    ∃ v' : Nat → Nat → Int32, fx_X2_copyCells n rn v bn vb (nI i) (nI a) (nI q) = some v' ∧ RWS rn v' (A ++ [((nth B i).drop a).take q]) := by
  have h20 := (hB.2.2 i hi).2.1
  obtain ⟨v1, s1, s2⟩ := fx_start_c (n := n) hr h hA
  obtain ⟨v', z1, z2⟩ := lx_copyCells_c (n := n) (a := a) (q := q) hr hb9 hB hi hq q 0 n v1 (by omega) (by omega) (by rw [List.take_zero]; exact s2)
  refine ⟨v', ?_, z2⟩
  unfold fx_X2_copyCells
  rw [s1, xb2_s, if_neg (by decide)]
  exact z1
theorem fx_copy_c {n rn bn i : Nat} {v vb : Nat → Nat → Int32} {A B : List (List Nat)} (hn : 100000 ≤ n) (hr : rn ≤ 1000) (hb9 : bn ≤ 1000) (h : RWS rn v A) (hA : A.length < rn) (hB : RWS bn vb B) (hi : i < B.length) :
    ∃ v' : Nat → Nat → Int32, fx_X2_copy n rn v bn vb (nI i) = some v' ∧ RWS rn v' (A ++ [nth B i]) := by
  obtain ⟨v', z1, z2⟩ := fx_copyCells_c (a := 0) (q := (nth B i).length) hn hr hb9 h hA hB hi (by omega)
  rw [List.drop_zero, List.take_length] at z2
  refine ⟨v', ?_, z2⟩
  unfold fx_X2_copy
  rw [fx_lengthOf_c hb9 hB hi, xb1_s]
  rw [show nI 0 = (0 : Int32) from rfl] at z1
  rw [z1, xb1_s]
theorem fx_clear_c {n rn : Nat} {v : Nat → Nat → Int32} : ∃ v' : Nat → Nat → Int32, fx_X2_clear n v = some v' ∧ RWS rn v' [] := by
  unfold fx_X2_clear
  rw [xl_eq]
  exact ⟨_, rfl, Nat.zero_le _, by rw [mu_eq, upd_eq]; rfl, fun i hi => absurd hi (Nat.not_lt_zero _)⟩
theorem drop_c {l t : List Nat} {c k : Nat} (h : l.drop k = c :: t) : k < l.length ∧ gb l k = c ∧ l.drop (k + 1) = t := by
  have hk : k < l.length := by
    by_cases q : k < l.length
    · exact q
    · rw [List.drop_eq_nil_of_le (by omega)] at h; exact absurd h (by simp)
  rw [List.drop_eq_getElem_cons hk] at h
  obtain ⟨h1, h2⟩ := List.cons.inj h
  refine ⟨hk, ?_, h2⟩
  unfold gb
  rw [List.getD_eq_getElem?_getD, List.getElem?_eq_getElem hk]; exact h1
theorem drop_n {l : List Nat} {k : Nat} (h : l.drop k = []) : l.length ≤ k := List.drop_eq_nil_iff.mp h
theorem J6_0 {n k : Nat} : fx_J6_compare_7cf53 n (nI k) (nI k) = some 0 := by
  unfold fx_J6_compare_7cf53
  rw [if_pos (Int32.le_refl _), if_pos rfl]
theorem lx_compare_c {n an bn i j : Nat} {va vb : Nat → Nat → Int32} {A B : List (List Nat)} (ha : an ≤ 1000) (hb9 : bn ≤ 1000) (hA : RWS an va A) (hB : RWS bn vb B) (hi : i < A.length) (hj : j < B.length) : ∀ (l r : List Nat) (w k m : Nat), (nth A i).drop k = l → (nth B j).drop k = r → wf w l → wf w r → k ≤ (nth A i).length → k ≤ (nth B j).length → l.length < m →
    lx_X2_compare_17 n an va bn vb (nI i) (nI j) m (nI (nth A i).length) (nI (nth B j).length) (nI k) = some (cmpL l r)
  | [], r, w, k, m + 1, hl, hr, hwl, hwr, hk1, hk2, _ => by
    have h20 := (hA.2.2 i hi).2.1
    have h21 := (hB.2.2 j hj).2.1
    have e : w = 0 := hwl
    subst e
    have er : r = [] := by
      cases r with
      | nil => rfl
      | cons d r => exact absurd hwr.1 (Nat.lt_irrefl 0)
    subst er
    have l1 := drop_n hl
    have l2 := drop_n hr
    show bx_X2_compare_17 n an va bn vb (nI i) (nI j) (lx_X2_compare_17 n an va bn vb (nI i) (nI j) m) (nI (nth A i).length) (nI (nth B j).length) (nI k) = _
    unfold bx_X2_compare_17
    rw [if_pos (by rw [nI_le_iff (by omega) (by omega)]; omega), show (nth A i).length = (nth B j).length by omega, J6_0, xb1_s]; rfl
  | c :: l, [], w, k, m + 1, hl, hr, hwl, hwr, _, _, _ => by
    have e : w = 0 := hwr
    subst e
    exact absurd hwl.1 (Nat.lt_irrefl 0)
  | c :: l, d :: r, w, k, m + 1, hl, hr, hwl, hwr, hk1, hk2, hm => by
    obtain ⟨a1, h20, a3, a4⟩ := hA.2.2 i hi
    obtain ⟨b1, h21, b3, b4⟩ := hB.2.2 j hj
    obtain ⟨l1, l2, l3⟩ := drop_c hl
    obtain ⟨r1, r2, r3⟩ := drop_c hr
    have hc : cck c := by rw [← l2]; exact a3 _ (gb_mem l1)
    have hd : cck d := by rw [← r2]; exact b3 _ (gb_mem r1)
    have c1 := cc_lt hc
    have d1 := cc_lt hd
    simp only [List.length_cons] at hm
    show bx_X2_compare_17 n an va bn vb (nI i) (nI j) (lx_X2_compare_17 n an va bn vb (nI i) (nI j) m) (nI (nth A i).length) (nI (nth B j).length) (nI k) = some (if c = d then cmpL l r else if c < d then -1 else 1)
    unfold bx_X2_compare_17
    rw [if_neg (by rw [nI_le_iff (by omega) (by omega)]; omega), if_neg (by rw [nI_le_iff (by omega) (by omega)]; omega), fx_cellAt_c ha hA hi l1, xb1_s, fx_cellAt_c hb9 hB hj r1, xb1_s, l2, r2]
    by_cases q : c = d
    · subst q
      rw [if_pos rfl, if_pos rfl, xl_eq, nI_1]
      exact lx_compare_c ha hb9 hA hB hi hj l r (w - 1 + ar c) (k + 1) m l3 r3 hwl.2 hwr.2 (by omega) (by omega) (by omega)
    · rw [if_neg (by rw [nI_inj (by omega) (by omega), cc_inj hc hd]; exact q), if_neg q]
      have mo := cc_mono hc hd
      by_cases z : c < d
      · rw [if_neg (by rw [nI_le_iff (by omega) (by omega)]; omega), if_pos z]
      · rw [if_pos (by rw [nI_le_iff (by omega) (by omega)]; omega), if_neg z]
theorem fx_compare_c {n an bn i j : Nat} {va vb : Nat → Nat → Int32} {A B : List (List Nat)} (hn : 100000 ≤ n) (ha : an ≤ 1000) (hb9 : bn ≤ 1000) (hA : RWS an va A) (hB : RWS bn vb B) (hi : i < A.length) (hj : j < B.length) (hwa : wf 1 (nth A i)) (hwb : wf 1 (nth B j)) : fx_X2_compare n an va bn vb (nI i) (nI j) = some (cmpL (nth A i) (nth B j)) := by
  have h20 := (hA.2.2 i hi).2.1
  unfold fx_X2_compare
  rw [fx_lengthOf_c ha hA hi, xb1_s, fx_lengthOf_c hb9 hB hj, xb1_s]
  exact lx_compare_c ha hb9 hA hB hi hj _ _ 1 0 n (List.drop_zero) (List.drop_zero) hwa hwb (Nat.zero_le _) (Nat.zero_le _) (by omega)
theorem fx_compare_cs {n an i j : Nat} {va : Nat → Nat → Int32} {A : List (List Nat)} (hn : 100000 ≤ n) (ha : an ≤ 1000) (hA : RWS an va A) (hi : i < A.length) (hj : j < A.length) (hwa : wf 1 (nth A i)) (hwb : wf 1 (nth A j)) : fx_X2_compare_s n an va (nI i) (nI j) = some (cmpL (nth A i) (nth A j)) := by
  have e : ∀ (m : Nat) (x y z : Int32), lx_X2_compare_s_17 n an va (nI i) (nI j) m x y z = lx_X2_compare_17 n an va an va (nI i) (nI j) m x y z := by
    intro m
    induction m with
    | zero => intro x y z; rfl
    | succ m ih =>
      intro x y z
      show bx_X2_compare_s_17 n an va (nI i) (nI j) (lx_X2_compare_s_17 n an va (nI i) (nI j) m) x y z = bx_X2_compare_17 n an va an va (nI i) (nI j) (lx_X2_compare_17 n an va an va (nI i) (nI j) m) x y z
      have ef : lx_X2_compare_s_17 n an va (nI i) (nI j) m = lx_X2_compare_17 n an va an va (nI i) (nI j) m := funext fun x => funext fun y => funext fun z => ih x y z
      rw [ef]; rfl
  have h := fx_compare_c (n := n) hn ha ha hA hA hi hj hwa hwb
  have h20 := (hA.2.2 i hi).2.1
  unfold fx_X2_compare_s
  rw [fx_lengthOf_c ha hA hi, xb1_s, fx_lengthOf_c ha hA hj, xb1_s, e]
  exact lx_compare_c ha ha hA hA hi hj _ _ 1 0 n (List.drop_zero) (List.drop_zero) hwa hwb (Nat.zero_le _) (Nat.zero_le _) (by omega)
theorem lx_indexOf_c {n an bn j : Nat} {va vb : Nat → Nat → Int32} {A B : List (List Nat)} (hn : 100000 ≤ n) (ha : an ≤ 1000) (hb9 : bn ≤ 1000) (hA : RWS an va A) (hB : RWS bn vb B) (hj : j < B.length) (hwa : ∀ t ∈ A, wf 1 t) (hwb : wf 1 (nth B j)) : ∀ (d i m : Nat), i + d = A.length → d < m → (∀ q : Nat, q < i → nth A q ≠ nth B j) →
    (nth B j ∉ A ∧ lx_X2_indexOf_2 n an va bn vb (nI j) m (nI i) = some (-1)) ∨ ∃ q : Nat, q < A.length ∧ nth A q = nth B j ∧ lx_X2_indexOf_2 n an va bn vb (nI j) m (nI i) = some (nI q)
  | 0, i, m + 1, hi, _, hq => by
    have hAl := hA.1
    refine Or.inl ⟨fun g => ?_, ?_⟩
    · obtain ⟨q, q1, q2⟩ := mem_nth g
      exact hq q (by omega) q2
    · show bx_X2_indexOf_2 n an va bn vb (nI j) (lx_X2_indexOf_2 n an va bn vb (nI j) m) (nI i) = _
      unfold bx_X2_indexOf_2
      rw [hA.2.1, if_pos (by rw [nI_le_iff (by omega) (by omega)]; omega)]
  | d + 1, i, m + 1, hi, hm, hq => by
    have hAl := hA.1
    have hwi := hwa _ (nth_mem (show i < A.length by omega))
    have cp := fx_compare_c (n := n) hn ha hb9 hA hB (show i < A.length by omega) hj hwi hwb
    have st : lx_X2_indexOf_2 n an va bn vb (nI j) (m + 1) (nI i) = if nth A i = nth B j then some (nI i) else lx_X2_indexOf_2 n an va bn vb (nI j) m (nI (i + 1)) := by
      show bx_X2_indexOf_2 n an va bn vb (nI j) (lx_X2_indexOf_2 n an va bn vb (nI j) m) (nI i) = _
      unfold bx_X2_indexOf_2
      rw [hA.2.1, if_neg (by rw [nI_le_iff (by omega) (by omega)]; omega), cp, xb1_s]
      by_cases z : nth A i = nth B j
      · rw [if_pos ((cmpL_eq hwi hwb).mpr z), if_pos z]
      · rw [if_neg (fun g => z ((cmpL_eq hwi hwb).mp g)), if_neg z, xl_eq, nI_1]
    rw [st]
    by_cases z : nth A i = nth B j
    · rw [if_pos z]
      exact Or.inr ⟨i, by omega, z, rfl⟩
    · rw [if_neg z]
      exact lx_indexOf_c hn ha hb9 hA hB hj hwa hwb d (i + 1) m (by omega) (by omega) (fun q h1 => by
        by_cases e : q = i
        · rw [e]; exact z
        · exact hq q (by omega))
theorem fx_indexOf_c {n an bn j : Nat} {va vb : Nat → Nat → Int32} {A B : List (List Nat)} (hn : 100000 ≤ n) (ha : an ≤ 1000) (hb9 : bn ≤ 1000) (hA : RWS an va A) (hB : RWS bn vb B) (hj : j < B.length) (hwa : ∀ t ∈ A, wf 1 t) (hwb : wf 1 (nth B j)) :
    (nth B j ∉ A ∧ fx_X2_indexOf n an va bn vb (nI j) = some (-1)) ∨ ∃ q : Nat, q < A.length ∧ nth A q = nth B j ∧ fx_X2_indexOf n an va bn vb (nI j) = some (nI q) := by
  have hAl := hA.1
  exact lx_indexOf_c hn ha hb9 hA hB hj hwa hwb A.length 0 n (by omega) (by omega) (fun q h1 => absurd h1 (Nat.not_lt_zero _))
