/-! ===== parts with an operator; the last row dropped ===== -/
theorem nI_less {k : Nat} (h : 1 ≤ k) : nI k + (-1 : Int32) = nI (k - 1) := by
  have e : nI k = nI (k - 1) + 1 := by rw [nI_1, show k - 1 + 1 = k by omega]
  rw [e, Int32.add_assoc, show (1 : Int32) + (-1) = 0 from rfl, Int32.add_zero]
theorem lx_partsWith_c {n an i : Nat} {va : Nat → Nat → Int32} {A : List (List Nat)} {op : Int32} (hn : 100000 ≤ n) (ha : an ≤ 1000) (hA : RWS an va A) (hi : i < A.length) : ∀ (qs : List (List Nat)) (p m e : Nat), (nth A i).drop p = qs.flatten → wfs qs → p ≤ (nth A i).length → qs.length < m → qs.length < 1000 →
    lx_X2_partsWith_16 n an va (nI i) op m (nI e) (nI p) (nI qs.length) = some (nI (pwF op qs e))
  | [], p, m + 1, e, _, _, _, _, _ => by
    show bx_X2_partsWith_16 n an va (nI i) op (lx_X2_partsWith_16 n an va (nI i) op m) (nI e) (nI p) (nI 0) = _
    unfold bx_X2_partsWith_16
    rw [if_pos (by decide)]; rfl
  | [] :: qs, p, m + 1, e, _, hw, _, _, _ => absurd (wf_pos (hw [] (List.mem_cons_self ..))) (by simp)
  | (c :: q) :: qs, p, m + 1, e, hd, hw, hp, hm, h9 => by
    obtain ⟨a1, h20, a3, a4⟩ := hA.2.2 i hi
    have hd' : (nth A i).drop p = (c :: q) ++ qs.flatten := by rw [hd]; rfl
    obtain ⟨l1, l2, l3⟩ := drop_c (show (nth A i).drop p = c :: (q ++ qs.flatten) from hd')
    have hc : cck c := by rw [← l2]; exact a3 _ (gb_mem l1)
    have hq := hw (c :: q) (List.mem_cons_self ..)
    have hll := congrArg List.length hd'
    rw [List.length_drop, List.length_append] at hll
    have hnext : (nth A i).drop (p + (c :: q).length) = qs.flatten := by
      rw [← List.drop_drop, hd', List.drop_left]
    have sp := fx_spanAt_c (n := n) (p := p) (q := c :: q) (r := qs.flatten) hn ha hA hi hd' hq hp
    simp only [List.length_cons] at hm h9
    have ih := fun e9 => lx_partsWith_c (op := op) hn ha hA hi qs (p + (c :: q).length) m e9 hnext (fun z hz => hw z (List.mem_cons_of_mem _ hz)) (by omega) (by omega) (by omega)
    have eq1 : qs.length + 1 - 1 = qs.length := by omega
    show bx_X2_partsWith_16 n an va (nI i) op (lx_X2_partsWith_16 n an va (nI i) op m) (nI e) (nI p) (nI (qs.length + 1)) = some (nI (pwF op qs (if opI c = op then e + 1 else e)))
    unfold bx_X2_partsWith_16
    rw [if_neg (by rw [show (0 : Int32) = nI 0 from rfl, nI_le_iff (by omega) (by decide)]; omega), fx_cellAt_c ha hA hi l1, xb1_s, l2, fx_operatorIn_c hc, xb1_s]
    by_cases z : opI c = op
    · rw [if_pos z, if_pos z, xl_eq, sp, xb1_s, xl_eq, nI_add, xl_eq, nI_less (by omega), nI_1, eq1]
      exact ih _
    · rw [if_neg z, if_neg z, xl_eq, sp, xb1_s, xl_eq, nI_add, xl_eq, nI_less (by omega), eq1, show nI e + 0 = nI e from Int32.add_zero _]
      exact ih _
theorem fx_partsWith_c {n an i x : Nat} {va : Nat → Nat → Int32} {A : List (List Nat)} (hn : 100000 ≤ n) (ha : an ≤ 1000) (hA : RWS an va A) (hi : i < A.length) (hw : wf 1 (nth A i)) : fx_X2_partsWith n an va (nI i) (nI x) = some (nI (pw (nth A i) x)) := by
  obtain ⟨a1, h20, a3, a4⟩ := hA.2.2 i hi
  have h0 := wf_pos hw
  have cell := fx_cellAt_c (n := n) (k := 0) ha hA hi h0
  cases hc : nth A i with
  | nil => rw [hc] at h0; simp at h0
  | cons c l =>
    rw [hc] at hw a3 cell h20
    obtain ⟨k1, k2, k3⟩ := pts_of hw
    have hcc : cck c := a3 c (List.mem_cons_self ..)
    have har : ar c < 8 := by
      unfold ar
      rcases hcc with g | ⟨g1, g2, g3⟩
      · rw [if_pos (by omega)]; decide
      · rw [if_neg (by omega)]; exact g3
    have g0 : gb (c :: l) 0 = c := rfl
    rw [g0, show nI 0 = (0 : Int32) from rfl] at cell
    unfold fx_X2_partsWith pw
    rw [cell, xb1_s, fx_partsIn_c hcc, xb1_s]
    have lp := lx_partsWith_c (op := nI x) hn ha hA hi (pts (c :: l)) 1 n 0 (by rw [hc, k3]; rfl) k1 (by rw [hc]; simp) (by omega) (by omega)
    rw [k2] at lp
    exact lp
theorem fx_dropLast_c {n rn : Nat} {v : Nat → Nat → Int32} {A : List (List Nat)} {x : List Nat} (hr : rn ≤ 1000) (h : RWS rn v (A ++ [x])) : ∃ v' : Nat → Nat → Int32, fx_X2_dropLast n v = some v' ∧ RWS rn v' A := by
  have hl : (A ++ [x]).length = A.length + 1 := by simp
  have hA := h.1
  rw [hl] at hA
  have key : (if (0 : Int32) < nI A.length then nI A.length else (0 : Int32)) = nI A.length := by
    by_cases q : A.length = 0
    · rw [q]; rfl
    · rw [if_pos (by rw [show (0 : Int32) = nI 0 from rfl, nI_lt_iff (by decide) (by omega)]; omega)]
  unfold fx_X2_dropLast
  rw [h.2.1, hl, xl_eq, i1, nI_sub (by omega), show A.length + 1 - 1 = A.length by omega, xl_eq, key, xl_eq]
  refine ⟨_, rfl, by omega, by rw [mu_eq, upd_eq], fun i hi => ?_⟩
  have := h.2.2 i (by omega)
  rw [nth_app1 hi] at this
  unfold rowC at this ⊢
  rw [mu_ne (by decide), mu_ne (by decide)]
  exact this
