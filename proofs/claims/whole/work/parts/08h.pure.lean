/-! ===== THE CLASS: codes and rows ===== -/
/-- a code as the class has it -/
def cc (c : Nat) : Nat := if c < 512 then c else 8 * (c / 512) + c % 512
/-- codes with few parts -/
def cck (c : Nat) : Prop := c < 8 ∨ (512 ≤ c ∧ c < 5632 ∧ c % 512 < 8)
def cckl (l : List Nat) : Prop := ∀ c ∈ l, cck c
theorem cc_lt {c : Nat} (h : cck c) : cc c < 96 := by
  unfold cc
  rcases h with h | ⟨h1, h2, h3⟩
  · rw [if_pos (by omega)]; omega
  · rw [if_neg (by omega)]; omega
theorem cc_var {c : Nat} (h : cck c) : cc c < 8 ↔ c < 512 := by
  unfold cc
  rcases h with h | ⟨h1, h2, h3⟩
  · rw [if_pos (by omega)]; omega
  · rw [if_neg (by omega)]; omega
theorem cc_mono {c d : Nat} (h : cck c) (h' : cck d) : cc c < cc d ↔ c < d := by
  unfold cc
  rcases h with h | ⟨h1, h2, h3⟩ <;> rcases h' with h' | ⟨h1', h2', h3'⟩
  · rw [if_pos (by omega), if_pos (by omega)]
  · rw [if_pos (by omega), if_neg (by omega)]; omega
  · rw [if_neg (by omega), if_pos (by omega)]; omega
  · rw [if_neg (by omega), if_neg (by omega)]; omega
theorem cc_inj {c d : Nat} (h : cck c) (h' : cck d) : cc c = cc d ↔ c = d := by
  have a := cc_mono h h'
  have b := cc_mono h' h
  constructor
  · intro e; omega
  · intro e; rw [e]
theorem cc_op {c : Nat} (h : cck c) (h5 : 512 ≤ c) : cc c / 8 - 1 = c / 512 - 1 ∧ cc c % 8 = ar c ∧ 8 ≤ cc c := by
  unfold cc ar
  rcases h with h | ⟨h1, h2, h3⟩
  · omega
  · rw [if_neg (by omega), if_neg (by omega)]; omega
theorem sr3 : ∀ k : Fin 128, nI k.val >>> ((3 : Int32) &&& 31) = nI (k.val / 8) ∧ nI k.val &&& 7 = nI (k.val % 8) := by decide +kernel
theorem fx_operatorIn_c {n c : Nat} (h : cck c) : fx_X9_operatorIn n (nI (cc c)) = some (opI c) := by
  have hl := cc_lt h
  have hv := cc_var h
  unfold fx_X9_operatorIn
  rw [show (8 : Int32) = nI 8 from rfl]
  by_cases q : c < 512
  · rw [if_neg (by rw [nI_le_iff (by decide) (by omega)]; omega), opI_var q]
  · obtain ⟨e1, e2, e3⟩ := cc_op h (by omega)
    have k := (sr3 ⟨cc c, by omega⟩).1
    have k' : nI (cc c) >>> ((3 : Int32) &&& 31) = nI (cc c / 8) := k
    rw [if_pos (by rw [nI_le_iff (by decide) (by omega)]; omega), xl_eq, k', xl_eq, opI_op (by omega), i1, nI_sub (by omega), e1]
theorem fx_partsIn_c {n c : Nat} (h : cck c) : fx_X9_partsIn n (nI (cc c)) = some (nI (ar c)) := by
  have hl := cc_lt h
  have hv := cc_var h
  unfold fx_X9_partsIn
  rw [show (8 : Int32) = nI 8 from rfl]
  by_cases q : c < 512
  · rw [if_neg (by rw [nI_le_iff (by decide) (by omega)]; omega)]
    unfold ar
    rw [if_pos q]; rfl
  · obtain ⟨e1, e2, e3⟩ := cc_op h (by omega)
    have k := (sr3 ⟨cc c, by omega⟩).2
    have k' : nI (cc c) &&& 7 = nI (cc c % 8) := k
    rw [if_pos (by rw [nI_le_iff (by decide) (by omega)]; omega), xl_eq, k', e2]
theorem fx_codeFor_c {n op k : Nat} (ho : op < 10) (hk : k < 8) : fx_X9_codeFor n (nI op) (nI k) = some (nI (cc (cdo op k))) := by
  unfold fx_X9_codeFor
  have e : cc (cdo op k) = (op + 1) * 8 + k := by unfold cc cdo; rw [if_neg (by omega)]; omega
  rw [xl_eq, nI_1, xl_eq, show (8 : Int32) = nI 8 from rfl, nI_mul (by omega) (by decide) (by omega), xl_eq, nI_add, e, Nat.mul_comm]
theorem mu_eq {M : Nat → Nat → Int32} {a i : Nat} {v : Int32} : mu M a i v a = upd (M a) i v := by
  unfold mu
  rw [Nat.beq_refl]; rfl
theorem mu_ne {M : Nat → Nat → Int32} {a b i : Nat} {v : Int32} (h : b ≠ a) : mu M a i v b = M b := by
  unfold mu
  have : Nat.beq b a = false := by
    cases q : Nat.beq b a with
    | false => rfl
    | true => exact absurd (Nat.eq_of_beq_eq_true q) h
  rw [this]; rfl
theorem xwp_n {β : Type} {n a i : Nat} {M : Nat → Nat → Int32} {v : Int32} {k : (Nat → Nat → Int32) → Option β} (h : i < n) (hn : n < 2147483648) : xwp n M a (nI i) v k = k (mu M a i v) := by
  unfold xwp
  rw [nI_toInt (by omega), if_pos ⟨by omega, by omega⟩, nI_clamp (by omega)]
/-- a row of the class -/
def rowC (v : Nat → Nat → Int32) (i : Nat) (r : List Nat) : Prop := v 2 i = nI r.length ∧ r.length ≤ 20 ∧ cckl r ∧ la (v 1) (20 * i) (r.map cc)
/-- rows as the class keeps them -/
def RWS (rn : Nat) (v : Nat → Nat → Int32) (A : List (List Nat)) : Prop := A.length ≤ rn ∧ v 0 0 = nI A.length ∧ ∀ i : Nat, i < A.length → rowC v i (nth A i)
theorem fx_lengthOf_c {n rn i : Nat} {v : Nat → Nat → Int32} {A : List (List Nat)} (hr : rn ≤ 1000) (h : RWS rn v A) (hi : i < A.length) : fx_X2_lengthOf n rn v (nI i) = some (nI (nth A i).length) := by
  have hA := h.1
  unfold fx_X2_lengthOf
  rw [if_neg (by rw [show (0 : Int32) = nI 0 from rfl, nI_lt_iff (by omega) (by decide)]; omega), h.2.1, if_neg (by rw [nI_le_iff (by omega) (by omega)]; omega), if_neg (by rw [nI_le_iff (by omega) (by omega)]; omega), xr_n (by omega) (by omega), (h.2.2 i hi).1]
theorem fx_cellAt_c {n rn i k : Nat} {v : Nat → Nat → Int32} {A : List (List Nat)} (hr : rn ≤ 1000) (h : RWS rn v A) (hi : i < A.length) (hk : k < (nth A i).length) : fx_X2_cellAt n rn v (nI i) (nI k) = some (nI (cc (gb (nth A i) k))) := by
  have hA := h.1
  obtain ⟨h1, h2, h3, h4⟩ := h.2.2 i hi
  have e := la_gb h4 (i := k) (by rw [List.length_map]; exact hk)
  have eg : gb ((nth A i).map cc) k = cc (gb (nth A i) k) := by
    unfold gb
    rw [List.getD_eq_getElem?_getD, List.getD_eq_getElem?_getD, List.getElem?_map, List.getElem?_eq_getElem hk]; rfl
  unfold fx_X2_cellAt
  rw [if_neg (by rw [show (0 : Int32) = nI 0 from rfl, nI_lt_iff (by omega) (by decide)]; omega), if_neg (by rw [nI_le_iff (by omega) (by omega)]; omega), if_neg (by rw [show (0 : Int32) = nI 0 from rfl, nI_lt_iff (by omega) (by decide)]; omega), show (20 : Int32) = nI 20 from rfl, if_pos (by rw [nI_lt_iff (by omega) (by decide)]; omega), xl_eq, nI_mul (by omega) (by omega) (by decide), xl_eq, nI_add, if_neg (by rw [nI_le_iff (by omega) (by omega)]; omega), xr_n (by omega) (by omega), show i * 20 + k = 20 * i + k by omega, e, eg]
theorem fx_start_c {n rn : Nat} {v : Nat → Nat → Int32} {A : List (List Nat)} (hr : rn ≤ 1000) (h : RWS rn v A) (hi : A.length < rn) : ∃ v' : Nat → Nat → Int32, fx_X2_start n rn v = some (1, v') ∧ RWS rn v' (A ++ [[]]) := by
  unfold fx_X2_start
  rw [h.2.1, if_neg (by rw [show (0 : Int32) = nI 0 from rfl, nI_lt_iff (by omega) (by decide)]; omega), if_pos (by rw [nI_lt_iff (by omega) (by omega)]; exact hi), xwp_n hi (by omega), xl_eq, xl_eq, mu_ne (by decide), h.2.1, nI_1]
  refine ⟨_, rfl, by rw [List.length_append, List.length_singleton]; omega, by rw [mu_eq, upd_eq, List.length_append, List.length_singleton], fun i hi9 => ?_⟩
  rw [List.length_append, List.length_singleton] at hi9
  unfold rowC
  rw [mu_ne (by decide), mu_eq, mu_ne (by decide), mu_ne (by decide)]
  by_cases q : i < A.length
  · rw [nth_app1 q, upd_ne (by omega)]
    exact h.2.2 i q
  · have e : i = A.length := by omega
    rw [e, nth_app2, upd_eq]
    exact ⟨rfl, by decide, fun c hc => absurd hc List.not_mem_nil, trivial⟩
theorem fx_put_c {n rn c : Nat} {v : Nat → Nat → Int32} {A : List (List Nat)} {r : List Nat} (hr : rn ≤ 1000) (h : RWS rn v (A ++ [r])) (hr2 : r.length < 20) (hc : cck c) : ∃ v' : Nat → Nat → Int32, fx_X2_put n rn v (nI (cc c)) = some v' ∧ RWS rn v' (A ++ [r ++ [c]]) := by
  have hl : (A ++ [r]).length = A.length + 1 := by simp
  have hA := h.1
  rw [hl] at hA
  obtain ⟨h1, h2, h3, h4⟩ := h.2.2 A.length (by omega)
  rw [nth_app2] at h1 h2 h3 h4
  unfold fx_X2_put
  rw [h.2.1, hl, xl_eq, i1, nI_sub (by omega), show A.length + 1 - 1 = A.length by omega, if_neg (by rw [show (0 : Int32) = nI 0 from rfl, nI_lt_iff (by omega) (by decide)]; omega), if_neg (by rw [nI_le_iff (by omega) (by omega)]; omega), xr_n (by omega) (by omega), h1, if_neg (by rw [show (0 : Int32) = nI 0 from rfl, nI_lt_iff (by omega) (by decide)]; omega), xr_n (by omega) (by omega), h1, show (20 : Int32) = nI 20 from rfl, if_neg (by rw [nI_le_iff (by decide) (by omega)]; omega), xl_eq, nI_mul (by omega) (by omega) (by decide), xr_n (by omega) (by omega), h1, xl_eq, nI_add, if_neg (by rw [nI_le_iff (by omega) (by omega)]; omega), xwp_n (by omega) (by omega), xr_n (by omega) (by omega), mu_ne (by decide), h1, xl_eq, nI_add, xwp_n (by omega) (by omega)]
  refine ⟨_, rfl, by rw [List.length_append, List.length_singleton]; omega, ?_, fun i hi9 => ?_⟩
  · rw [mu_ne (by decide), mu_ne (by decide), h.2.1, hl, List.length_append, List.length_singleton]
  · rw [List.length_append, List.length_singleton] at hi9
    unfold rowC
    rw [mu_eq, mu_ne (by decide), mu_ne (by decide), mu_eq]
    by_cases q : i < A.length
    · obtain ⟨y1, y2, y3, y4⟩ := h.2.2 i (by omega)
      rw [nth_app1 q] at y1 y2 y3 y4
      rw [nth_app1 q, upd_ne (by omega)]
      exact ⟨y1, y2, y3, la_upd (Or.inr (by rw [List.length_map]; omega)) y4⟩
    · have e : i = A.length := by omega
      rw [e, nth_app2, upd_eq]
      refine ⟨by rw [List.length_append, List.length_singleton], by rw [List.length_append, List.length_singleton]; omega, fun d hd => ?_, ?_⟩
      · rcases List.mem_append.mp hd with g | g
        · exact h3 d g
        · rw [List.mem_singleton.mp g]; exact hc
      · rw [List.map_append]
        refine la_app.mpr ⟨la_upd (Or.inr (by rw [List.length_map]; omega)) h4, ?_, trivial⟩
        rw [List.length_map, show A.length * 20 + r.length = 20 * A.length + r.length by omega, upd_eq]
