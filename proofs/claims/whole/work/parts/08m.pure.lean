/-! ===== terms with an operator; the greatest ===== -/
theorem and1_01 (x : Int32) : (x &&& 1) = 0 ∨ (x &&& 1) = 1 := by
  have e : (x &&& 1).toBitVec = BitVec.setWidth 32 (BitVec.ofBool (x.toBitVec.getLsbD 0)) := by
    show x.toBitVec &&& 1#32 = _
    rw [BitVec.and_one_eq_setWidth_ofBool_getLsbD]
  cases q : x.toBitVec.getLsbD 0 with
  | false => exact Or.inl (by rw [← Int32.toBitVec_inj, e, q]; decide)
  | true => exact Or.inr (by rw [← Int32.toBitVec_inj, e, q]; decide)
theorem onb_0 {s : Int32} {k : Nat} : ((s >>> (nI k &&& 31)) &&& 1) = 0 ↔ onb s k = false := by
  unfold onb
  rw [decide_eq_false_iff_not]
  rcases and1_01 (s >>> (nI k &&& 31)) with q | q
  · rw [q]; exact ⟨fun _ => by decide, fun _ => rfl⟩
  · rw [q]; exact ⟨fun h => absurd h (by decide), fun h => absurd rfl h⟩
theorem lx_termsWith_c {n o : Nat} {v : Nat → Nat → Int32} {A : List (List Nat)} (hn : 100000 ≤ n) (h : RWS 30 v A) : ∀ (d k m : Nat) (s : Int32), k + d = A.length → d < m → lx_X9_termsWith_4 n v (nI o) m s (nI k) = some (orB (twb A o) d k s)
  | 0, k, m + 1, s, hk, _ => by
    have hA := h.1
    show bx_X9_termsWith_4 n v (nI o) (lx_X9_termsWith_4 n v (nI o) m) s (nI k) = _
    unfold bx_X9_termsWith_4
    rw [h.2.1, if_pos (by rw [nI_le_iff (by omega) (by omega)]; omega)]; rfl
  | d + 1, k, m + 1, s, hk, hm => by
    have hA := h.1
    show bx_X9_termsWith_4 n v (nI o) (lx_X9_termsWith_4 n v (nI o) m) s (nI k) = some (orB (twb A o) d (k + 1) (if twb A o k then s ||| ((1 : Int32) <<< (nI k &&& 31)) else s))
    unfold bx_X9_termsWith_4 twb
    rw [h.2.1, if_neg (by rw [nI_le_iff (by omega) (by omega)]; omega), fx_operatorsIn_c hn (by decide) h (by omega), xb1_s, xl_eq, xl_eq]
    cases hb9 : onb (opF (nth A k) 0) o with
    | false =>
      rw [if_pos (onb_0.mpr hb9), xl_eq, nI_1, if_neg (by decide)]
      exact lx_termsWith_c hn h d (k + 1) m s (by omega) (by omega)
    | true =>
      rw [if_neg (fun q => by have := onb_0.mp q; rw [hb9] at this; exact absurd this (by decide)), xl_eq, xl_eq, xl_eq, nI_1, if_pos rfl]
      exact lx_termsWith_c hn h d (k + 1) m _ (by omega) (by omega)
theorem fx_termsWith_c {n o : Nat} {v : Nat → Nat → Int32} {A : List (List Nat)} (hn : 100000 ≤ n) (h : RWS 30 v A) : fx_X9_termsWith n v (nI o) = some (orB (twb A o) A.length 0 0) := by
  have hA := h.1
  exact lx_termsWith_c hn h A.length 0 n 0 (by omega) (by omega)
theorem lx_greatest_c {n : Nat} {v : Nat → Nat → Int32} {A : List (List Nat)} (h : RWS 30 v A) : ∀ (B C : List (List Nat)) (m g : Nat), A = C ++ B → g ≤ 20 → B.length < m → lx_X9_greatestSize_4 n v m (nI g) (nI C.length) = some (nI (grF B g))
  | [], C, m + 1, g, hC, _, _ => by
    have hCl : C.length = A.length := by rw [hC, List.append_nil]
    show bx_X9_greatestSize_4 n v (lx_X9_greatestSize_4 n v m) (nI g) (nI C.length) = _
    unfold bx_X9_greatestSize_4
    rw [h.2.1, hCl, if_pos (Int32.le_refl _)]; rfl
  | t :: B, C, m + 1, g, hC, hg, hm => by
    have hA := h.1
    have hlen : A.length = C.length + (B.length + 1) := by rw [hC]; simp
    have en : nth A C.length = t := by rw [hC]; exact nth_mid
    have hC2 : A = (C ++ [t]) ++ B := by rw [hC]; simp
    have hCl : (C ++ [t]).length = C.length + 1 := by simp
    have h20 := (h.2.2 C.length (by omega)).2.1
    have ln := fx_lengthOf_c (n := n) (i := C.length) (by decide) h (by omega)
    rw [en] at h20 ln
    simp only [List.length_cons] at hm
    have ih := fun g9 (hg9 : g9 ≤ 20) => lx_greatest_c (n := n) h B (C ++ [t]) m g9 hC2 hg9 (by omega)
    rw [hCl] at ih
    show bx_X9_greatestSize_4 n v (lx_X9_greatestSize_4 n v m) (nI g) (nI C.length) = some (nI (grF B (if t.length ≤ g then g else t.length)))
    unfold bx_X9_greatestSize_4
    rw [h.2.1, if_neg (by rw [nI_le_iff (by omega) (by omega)]; omega), ln, xb1_s, xl_eq, xl_eq, nI_1]
    by_cases z : t.length ≤ g
    · rw [if_neg (by rw [nI_lt_iff (by omega) (by omega)]; omega), if_pos z]
      exact ih g hg
    · rw [if_pos (by rw [nI_lt_iff (by omega) (by omega)]; omega), if_neg z]
      exact ih _ h20
theorem fx_greatest_c {n : Nat} {v : Nat → Nat → Int32} {A : List (List Nat)} (hn : 100000 ≤ n) (h : RWS 30 v A) : fx_X9_greatestSize n v = some (nI (grF A 0)) := by
  have hA := h.1
  exact lx_greatest_c h A [] n 0 rfl (by decide) (by omega)
