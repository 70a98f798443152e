/-! ===== rank ===== -/
theorem pick_all : ∀ {Q : List (List Nat)} {k : Nat}, k + Q.length ≤ 64 → pick (-1) k Q = Q
  | [], _, _ => rfl
  | q :: Q, k, h => by
    simp only [List.length_cons] at h
    have hb9 : bt64 (-1) k = true := bt64_m1 ⟨k, by omega⟩
    rw [pick_t hb9, pick_all (by omega)]
theorem lss_ahd {A : List (List Nat)} {x : List Nat} : lss A x = ahd A x := rfl
theorem lx_rank_c {n : Nat} {v : Nat → Nat → Int32} {A : List (List Nat)} {p : Int32} (hn : 100000 ≤ n) (h : RWS 30 v A) (hw : ∀ t ∈ A, wf 1 t) : ∀ (d i m : Nat), i + d = A.length → d < m → lx_X2_nth_3 n 30 v p (-1) m (nI i) = some (rkF A p d i)
  | 0, i, m + 1, hi, _ => by
    have hAl := h.1
    show bx_X2_nth_3 n 30 v p (-1) (lx_X2_nth_3 n 30 v p (-1) m) (nI i) = _
    unfold bx_X2_nth_3
    rw [h.2.1, if_pos (by rw [nI_le_iff (by omega) (by omega)]; omega)]; rfl
  | d + 1, i, m + 1, hi, hm => by
    have hAl := h.1
    have hb9 : bt64 (-1) i = true := bt64_m1 ⟨i, by omega⟩
    show bx_X2_nth_3 n 30 v p (-1) (lx_X2_nth_3 n 30 v p (-1) m) (nI i) = some (if nI (ahd A (nth A i)) = p then nI i else rkF A p d (i + 1))
    unfold bx_X2_nth_3
    rw [h.2.1, if_neg (by rw [nI_le_iff (by omega) (by omega)]; omega), xl_eq, xl_eq, xl_eq, if_neg (fun q => by have := (bit64_0 (by omega)).mp (xcmp_0.mp q); rw [hb9] at this; exact absurd this (by decide)), fx_ahead_c hn (by decide) h (by omega) hw, xb1_s, pick_all (by omega), lss_ahd]
    by_cases z : nI (ahd A (nth A i)) = p
    · rw [if_pos z, if_pos z]
    · rw [if_neg z, if_neg z, xl_eq, nI_1]
      exact lx_rank_c hn h hw d (i + 1) m (by omega) (by omega)
theorem fx_rank_c {n : Nat} {v : Nat → Nat → Int32} {A : List (List Nat)} {p : Int32} (hn : 100000 ≤ n) (h : RWS 30 v A) (hw : ∀ t ∈ A, wf 1 t) : fx_X9_rank n v p = some (rkF A p A.length 0) := by
  have hAl := h.1
  have l := lx_rank_c (p := p) hn h hw A.length 0 n (by omega) (by omega)
  have l' : fx_X2_nth n 30 v p (-1) = some (rkF A p A.length 0) := l
  unfold fx_X9_rank
  rw [l', xb1_s]
