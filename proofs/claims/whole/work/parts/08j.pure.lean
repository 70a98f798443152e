/-! ===== rows of the class: order among them, spans, what stands in them ===== -/
theorem xcmp_0 {y : Int64} : xcmp y 0 = 0 ↔ y = 0 := by
  unfold xcmp
  by_cases h : y < 0
  · rw [if_pos h]
    exact ⟨fun q => absurd q (by decide), fun q => by rw [q] at h; exact absurd h (by decide)⟩
  · rw [if_neg h]
    by_cases h2 : y = 0
    · rw [if_pos h2]; exact ⟨fun _ => h2, fun _ => rfl⟩
    · rw [if_neg h2]; exact ⟨fun q => absurd q (by decide), fun q => absurd q h2⟩
theorem lx_ahead_c {n an i : Nat} {va : Nat → Nat → Int32} {A : List (List Nat)} {N : Int64} (hn : 100000 ≤ n) (ha : an ≤ 60) (hA : RWS an va A) (hi : i < A.length) (hw : ∀ t ∈ A, wf 1 t) : ∀ (B C : List (List Nat)) (c m : Nat), A = C ++ B → B.length < m →
    lx_X2_ahead_6 n an va (nI i) N m (nI c) (nI C.length) = some (nI (c + lss (pick N C.length B) (nth A i)))
  | [], C, c, m + 1, hC, _ => by
    have hAl := hA.1
    have hCl : C.length = A.length := by rw [hC, List.append_nil]
    show bx_X2_ahead_6 n an va (nI i) N (lx_X2_ahead_6 n an va (nI i) N m) (nI c) (nI C.length) = _
    unfold bx_X2_ahead_6
    rw [hA.2.1, hCl, if_pos (Int32.le_refl _)]; rfl
  | t :: B, C, c, m + 1, hC, hm => by
    have hAl := hA.1
    have hlen : A.length = C.length + (B.length + 1) := by rw [hC]; simp
    have en : nth A C.length = t := by rw [hC]; exact nth_mid
    have hC2 : A = (C ++ [t]) ++ B := by rw [hC]; simp
    have hCl : (C ++ [t]).length = C.length + 1 := by simp
    simp only [List.length_cons] at hm
    have ih := fun c9 => lx_ahead_c hn ha hA hi hw (N := N) B (C ++ [t]) c9 m hC2 (by omega)
    rw [hCl] at ih
    have cp := fx_compare_cs (n := n) (i := C.length) (j := i) hn (by omega) hA (by omega) hi (hw _ (nth_mem (by omega))) (hw _ (nth_mem hi))
    rw [en] at cp
    show bx_X2_ahead_6 n an va (nI i) N (lx_X2_ahead_6 n an va (nI i) N m) (nI c) (nI C.length) = _
    unfold bx_X2_ahead_6
    rw [hA.2.1, if_neg (by rw [nI_le_iff (by omega) (by omega)]; omega), xl_eq, xl_eq, xl_eq]
    cases hb9 : bt64 N C.length with
    | false =>
      rw [if_pos (xcmp_0.mpr ((bit64_0 (by omega)).mpr hb9)), xl_eq, nI_1, ih, pick_f hb9]
    | true =>
      rw [if_neg (fun q => by have := (bit64_0 (by omega)).mp (xcmp_0.mp q); rw [hb9] at this; exact absurd this (by decide)), cp, xb1_s, pick_t hb9, lss_cons]
      by_cases q : cmpL t (nth A i) = -1
      · rw [q, if_neg (by decide), if_pos rfl, xl_eq, xl_eq, nI_1, nI_1, ih]
        exact congrArg (fun z => some (nI z)) (by omega)
      · have : (0 : Int32) ≤ cmpL t (nth A i) := by
          rcases cmpL_vals t (nth A i) with z | z | z
          · exact absurd z q
          · rw [z]; decide
          · rw [z]; decide
        rw [if_pos this, if_neg q, xl_eq, nI_1, ih]
        exact congrArg (fun z => some (nI z)) (by omega)
theorem fx_ahead_c {n an i : Nat} {va : Nat → Nat → Int32} {A : List (List Nat)} {N : Int64} (hn : 100000 ≤ n) (ha : an ≤ 60) (hA : RWS an va A) (hi : i < A.length) (hw : ∀ t ∈ A, wf 1 t) : fx_X2_ahead n an va (nI i) N = some (nI (lss (pick N 0 A) (nth A i))) := by
  have hAl := hA.1
  have h := lx_ahead_c (N := N) hn ha hA hi hw A [] 0 n rfl (by omega)
  rw [Nat.zero_add] at h
  exact h
theorem lx_nth_c {n an : Nat} {va : Nat → Nat → Int32} {A : List (List Nat)} {N : Int64} {p : Int32} (hn : 100000 ≤ n) (ha : an ≤ 60) (hA : RWS an va A) (hw : ∀ t ∈ A, wf 1 t) : ∀ (d i m : Nat), i + d = A.length → d < m → (∀ q : Nat, q < i → bt64 N q = true → ¬ nI (lss (pick N 0 A) (nth A q)) = p) →
    (∃ q : Nat, q < A.length ∧ bt64 N q = true ∧ nI (lss (pick N 0 A) (nth A q)) = p ∧ lx_X2_nth_3 n an va p N m (nI i) = some (nI q)) ∨ ((∀ q : Nat, q < A.length → bt64 N q = true → ¬ nI (lss (pick N 0 A) (nth A q)) = p) ∧ lx_X2_nth_3 n an va p N m (nI i) = some (-1))
  | 0, i, m + 1, hi, _, hq => by
    have hAl := hA.1
    refine Or.inr ⟨fun q q1 q2 => hq q (by omega) q2, ?_⟩
    show bx_X2_nth_3 n an va p N (lx_X2_nth_3 n an va p N m) (nI i) = _
    unfold bx_X2_nth_3
    rw [hA.2.1, if_pos (by rw [nI_le_iff (by omega) (by omega)]; omega)]
  | d + 1, i, m + 1, hi, hm, hq => by
    have hAl := hA.1
    have st : lx_X2_nth_3 n an va p N (m + 1) (nI i) = if bt64 N i = true ∧ nI (lss (pick N 0 A) (nth A i)) = p then some (nI i) else lx_X2_nth_3 n an va p N m (nI (i + 1)) := by
      show bx_X2_nth_3 n an va p N (lx_X2_nth_3 n an va p N m) (nI i) = _
      unfold bx_X2_nth_3
      rw [hA.2.1, if_neg (by rw [nI_le_iff (by omega) (by omega)]; omega), xl_eq, xl_eq, xl_eq]
      cases hb9 : bt64 N i with
      | false => rw [if_pos (xcmp_0.mpr ((bit64_0 (by omega)).mpr hb9)), if_neg (fun z => absurd z.1 (by decide)), xl_eq, nI_1]
      | true =>
        rw [if_neg (fun q => by have := (bit64_0 (by omega)).mp (xcmp_0.mp q); rw [hb9] at this; exact absurd this (by decide)), fx_ahead_c hn ha hA (by omega) hw, xb1_s]
        by_cases z : nI (lss (pick N 0 A) (nth A i)) = p
        · rw [if_pos z, if_pos ⟨rfl, z⟩]
        · rw [if_neg z, if_neg (fun y => z y.2), xl_eq, nI_1]
    rw [st]
    by_cases z : bt64 N i = true ∧ nI (lss (pick N 0 A) (nth A i)) = p
    · rw [if_pos z]
      exact Or.inl ⟨i, by omega, z.1, z.2, rfl⟩
    · rw [if_neg z]
      exact lx_nth_c hn ha hA hw d (i + 1) m (by omega) (by omega) (fun q h1 h2 h3 => by
        by_cases e : q = i
        · rw [e] at h2 h3; exact z ⟨h2, h3⟩
        · exact hq q (by omega) h2 h3)
theorem fx_nth_c {n an : Nat} {va : Nat → Nat → Int32} {A : List (List Nat)} {N : Int64} {p : Int32} (hn : 100000 ≤ n) (ha : an ≤ 60) (hA : RWS an va A) (hw : ∀ t ∈ A, wf 1 t) :
    (∃ q : Nat, q < A.length ∧ bt64 N q = true ∧ nI (lss (pick N 0 A) (nth A q)) = p ∧ fx_X2_nth n an va p N = some (nI q)) ∨ ((∀ q : Nat, q < A.length → bt64 N q = true → ¬ nI (lss (pick N 0 A) (nth A q)) = p) ∧ fx_X2_nth n an va p N = some (-1)) := by
  have hAl := hA.1
  exact lx_nth_c hn ha hA hw A.length 0 n (by omega) (by omega) (fun q h1 => absurd h1 (Nat.not_lt_zero _))
theorem lx_spanAt_c {n an i a : Nat} {va : Nat → Nat → Int32} {A : List (List Nat)} (ha : an ≤ 1000) (hA : RWS an va A) (hi : i < A.length) : ∀ (l r : List Nat) (w p m : Nat), (nth A i).drop p = l ++ r → wf w l → w ≤ 1000 → a ≤ p → p ≤ (nth A i).length → l.length < m →
    lx_X2_spanAt_12 n an va (nI i) (nI a) m (nI w) (nI p) (nI (nth A i).length) = some (nI (p + l.length - a))
  | [], r, w, p, m + 1, hd, hw, _, hap, hp, _ => by
    have h20 := (hA.2.2 i hi).2.1
    have e : w = 0 := hw
    subst e
    show bx_X2_spanAt_12 n an va (nI i) (nI a) (lx_X2_spanAt_12 n an va (nI i) (nI a) m) (nI 0) (nI p) (nI (nth A i).length) = _
    unfold bx_X2_spanAt_12
    rw [if_pos (by decide), xl_eq, nI_sub hap]; rfl
  | c :: l, r, 0, p, m + 1, hd, hw, _, _, _, _ => absurd hw.1 (Nat.lt_irrefl 0)
  | c :: l, r, w + 1, p, m + 1, hd, hw, hw9, hap, hp, hm => by
    obtain ⟨a1, h20, a3, a4⟩ := hA.2.2 i hi
    obtain ⟨l1, l2, l3⟩ := drop_c (show (nth A i).drop p = c :: (l ++ r) from hd)
    have hc : cck c := by rw [← l2]; exact a3 _ (gb_mem l1)
    have har : ar c < 8 := by
      unfold ar
      rcases hc with g | ⟨g1, g2, g3⟩
      · rw [if_pos (by omega)]; decide
      · rw [if_neg (by omega)]; exact g3
    have hwl := wf_len hw
    simp only [List.length_cons] at hm hwl
    have hw2 := hw.2
    rw [show w + 1 - 1 + ar c = w + ar c by omega] at hw2
    have hwl2 := wf_len hw2
    have hll : l.length ≤ 20 := by
      have := congrArg List.length l3
      rw [List.length_drop, List.length_append] at this; omega
    show bx_X2_spanAt_12 n an va (nI i) (nI a) (lx_X2_spanAt_12 n an va (nI i) (nI a) m) (nI (w + 1)) (nI p) (nI (nth A i).length) = _
    unfold bx_X2_spanAt_12
    rw [if_neg (by rw [show (0 : Int32) = nI 0 from rfl, nI_le_iff (by omega) (by decide)]; omega), if_neg (by rw [nI_le_iff (by omega) (by omega)]; omega), fx_cellAt_c ha hA hi l1, xb1_s, l2, fx_partsIn_c hc, xb1_s, xl_eq, xl_eq, nI_bal, xl_eq, nI_1]
    rw [lx_spanAt_c ha hA hi l r (w + ar c) (p + 1) m l3 hw2 (by omega) (by omega) (by omega) (by omega)]
    exact congrArg (fun z => some (nI z)) (by simp only [List.length_cons]; omega)
theorem fx_spanAt_c {n an i p : Nat} {va : Nat → Nat → Int32} {A : List (List Nat)} {q r : List Nat} (hn : 100000 ≤ n) (ha : an ≤ 1000) (hA : RWS an va A) (hi : i < A.length) (hd : (nth A i).drop p = q ++ r) (hw : wf 1 q) (hp : p ≤ (nth A i).length) : fx_X2_spanAt n an va (nI i) (nI p) = some (nI q.length) := by
  have h20 := (hA.2.2 i hi).2.1
  have hl : q.length ≤ 20 := by
    have := congrArg List.length hd
    rw [List.length_drop, List.length_append] at this; omega
  unfold fx_X2_spanAt
  rw [fx_lengthOf_c ha hA hi, xb1_s, show (1 : Int32) = nI 1 from rfl, lx_spanAt_c ha hA hi q r 1 p n hd hw (by decide) (Nat.le_refl _) hp (by omega)]
  exact congrArg (fun z => some (nI z)) (by omega)
theorem le8 {c : Nat} (hc : cck c) : ((8 : Int32) ≤ nI (cc c)) ↔ ¬ c < 512 := by
  have h1 := cc_lt hc
  have h2 := cc_var hc
  rw [show (8 : Int32) = nI 8 from rfl, nI_le_iff (by decide) (by omega)]; omega
theorem cc_v {c : Nat} (h : c < 512) : cc c = c := by unfold cc; rw [if_pos h]
theorem lx_varIn_c {n an i : Nat} {va : Nat → Nat → Int32} {A : List (List Nat)} (ha : an ≤ 1000) (hA : RWS an va A) (hi : i < A.length) : ∀ (l : List Nat) (k m : Nat) (s : Int32), (nth A i).drop k = l → k ≤ (nth A i).length → l.length < m → lx_X2_variablesIn_4 n an va (nI i) m s (nI k) = some (vrF l s)
  | [], k, m + 1, s, hd, hk, _ => by
    have h20 := (hA.2.2 i hi).2.1
    have := drop_n hd
    show bx_X2_variablesIn_4 n an va (nI i) (lx_X2_variablesIn_4 n an va (nI i) m) s (nI k) = _
    unfold bx_X2_variablesIn_4
    rw [fx_lengthOf_c ha hA hi, xb1_s, if_pos (by rw [nI_le_iff (by omega) (by omega)]; omega)]; rfl
  | c :: l, k, m + 1, s, hd, hk, hm => by
    obtain ⟨a1, h20, a3, a4⟩ := hA.2.2 i hi
    obtain ⟨l1, l2, l3⟩ := drop_c hd
    have hc : cck c := by rw [← l2]; exact a3 _ (gb_mem l1)
    simp only [List.length_cons] at hm
    show bx_X2_variablesIn_4 n an va (nI i) (lx_X2_variablesIn_4 n an va (nI i) m) s (nI k) = some (vrF l (if c < 512 then s ||| ((1 : Int32) <<< (nI c &&& 31)) else s))
    unfold bx_X2_variablesIn_4
    rw [fx_lengthOf_c ha hA hi, xb1_s, if_neg (by rw [nI_le_iff (by omega) (by omega)]; omega), fx_cellAt_c ha hA hi l1, xb1_s, l2]
    by_cases q : c < 512
    · rw [if_neg (fun z => (le8 hc).mp z q), if_pos q, cc_v q, xl_eq, xl_eq, xl_eq, nI_1]
      exact lx_varIn_c ha hA hi l (k + 1) m _ l3 (by omega) (by omega)
    · rw [if_pos ((le8 hc).mpr q), if_neg q, xl_eq, xl_eq, nI_1, Int32.or_zero]
      exact lx_varIn_c ha hA hi l (k + 1) m _ l3 (by omega) (by omega)
theorem fx_variablesIn_c {n an i : Nat} {va : Nat → Nat → Int32} {A : List (List Nat)} (hn : 100000 ≤ n) (ha : an ≤ 1000) (hA : RWS an va A) (hi : i < A.length) : fx_X2_variablesIn n an va (nI i) = some (vrF (nth A i) 0) := by
  have h20 := (hA.2.2 i hi).2.1
  exact lx_varIn_c ha hA hi (nth A i) 0 n 0 List.drop_zero (Nat.zero_le _) (by omega)
theorem lx_opIn_c {n an i : Nat} {va : Nat → Nat → Int32} {A : List (List Nat)} (ha : an ≤ 1000) (hA : RWS an va A) (hi : i < A.length) : ∀ (l : List Nat) (k m : Nat) (s : Int32), (nth A i).drop k = l → k ≤ (nth A i).length → l.length < m → lx_X2_operatorsIn_4 n an va (nI i) m s (nI k) = some (opF l s)
  | [], k, m + 1, s, hd, hk, _ => by
    have h20 := (hA.2.2 i hi).2.1
    have := drop_n hd
    show bx_X2_operatorsIn_4 n an va (nI i) (lx_X2_operatorsIn_4 n an va (nI i) m) s (nI k) = _
    unfold bx_X2_operatorsIn_4
    rw [fx_lengthOf_c ha hA hi, xb1_s, if_pos (by rw [nI_le_iff (by omega) (by omega)]; omega)]; rfl
  | c :: l, k, m + 1, s, hd, hk, hm => by
    obtain ⟨a1, h20, a3, a4⟩ := hA.2.2 i hi
    obtain ⟨l1, l2, l3⟩ := drop_c hd
    have hc : cck c := by rw [← l2]; exact a3 _ (gb_mem l1)
    simp only [List.length_cons] at hm
    show bx_X2_operatorsIn_4 n an va (nI i) (lx_X2_operatorsIn_4 n an va (nI i) m) s (nI k) = some (opF l (if c < 512 then s else s ||| ((1 : Int32) <<< (opI c &&& 31))))
    unfold bx_X2_operatorsIn_4
    rw [fx_lengthOf_c ha hA hi, xb1_s, if_neg (by rw [nI_le_iff (by omega) (by omega)]; omega), fx_cellAt_c ha hA hi l1, xb1_s, l2]
    by_cases q : c < 512
    · rw [if_neg (fun z => (le8 hc).mp z q), if_pos q, xl_eq, xl_eq, nI_1, Int32.or_zero]
      exact lx_opIn_c ha hA hi l (k + 1) m _ l3 (by omega) (by omega)
    · rw [if_pos ((le8 hc).mpr q), if_neg q, fx_operatorIn_c hc, xb1_s, xl_eq, xl_eq, xl_eq, nI_1]
      exact lx_opIn_c ha hA hi l (k + 1) m _ l3 (by omega) (by omega)
theorem fx_operatorsIn_c {n an i : Nat} {va : Nat → Nat → Int32} {A : List (List Nat)} (hn : 100000 ≤ n) (ha : an ≤ 1000) (hA : RWS an va A) (hi : i < A.length) : fx_X2_operatorsIn n an va (nI i) = some (opF (nth A i) 0) := by
  have h20 := (hA.2.2 i hi).2.1
  exact lx_opIn_c ha hA hi (nth A i) 0 n 0 List.drop_zero (Nat.zero_le _) (by omega)
theorem lx_timesOf_c {n an i : Nat} {va : Nat → Nat → Int32} {A : List (List Nat)} (ha : an ≤ 1000) (hA : RWS an va A) (hi : i < A.length) : ∀ (l : List Nat) (k m s : Nat), (nth A i).drop k = l → k ≤ (nth A i).length → l.length < m → lx_X2_timesOfVariables_4 n an va (nI i) m (nI s) (nI k) = some (nI (vcF l s))
  | [], k, m + 1, s, hd, hk, _ => by
    have h20 := (hA.2.2 i hi).2.1
    have := drop_n hd
    show bx_X2_timesOfVariables_4 n an va (nI i) (lx_X2_timesOfVariables_4 n an va (nI i) m) (nI s) (nI k) = _
    unfold bx_X2_timesOfVariables_4
    rw [fx_lengthOf_c ha hA hi, xb1_s, if_pos (by rw [nI_le_iff (by omega) (by omega)]; omega)]; rfl
  | c :: l, k, m + 1, s, hd, hk, hm => by
    obtain ⟨a1, h20, a3, a4⟩ := hA.2.2 i hi
    obtain ⟨l1, l2, l3⟩ := drop_c hd
    have hc : cck c := by rw [← l2]; exact a3 _ (gb_mem l1)
    simp only [List.length_cons] at hm
    show bx_X2_timesOfVariables_4 n an va (nI i) (lx_X2_timesOfVariables_4 n an va (nI i) m) (nI s) (nI k) = some (nI (vcF l (if c < 512 then s + 1 else s)))
    unfold bx_X2_timesOfVariables_4
    rw [fx_lengthOf_c ha hA hi, xb1_s, if_neg (by rw [nI_le_iff (by omega) (by omega)]; omega), fx_cellAt_c ha hA hi l1, xb1_s, l2]
    by_cases q : c < 512
    · rw [if_neg (fun z => (le8 hc).mp z q), if_pos q, xl_eq, xl_eq, nI_1, nI_1]
      exact lx_timesOf_c ha hA hi l (k + 1) m _ l3 (by omega) (by omega)
    · rw [if_pos ((le8 hc).mpr q), if_neg q, xl_eq, xl_eq, nI_1, show nI s + 0 = nI s from Int32.add_zero _]
      exact lx_timesOf_c ha hA hi l (k + 1) m _ l3 (by omega) (by omega)
theorem fx_timesOf_c {n an i : Nat} {va : Nat → Nat → Int32} {A : List (List Nat)} (hn : 100000 ≤ n) (ha : an ≤ 1000) (hA : RWS an va A) (hi : i < A.length) : fx_X2_timesOfVariables n an va (nI i) = some (nI (vcF (nth A i) 0)) := by
  have h20 := (hA.2.2 i hi).2.1
  exact lx_timesOf_c ha hA hi (nth A i) 0 n 0 List.drop_zero (Nat.zero_le _) (by omega)
