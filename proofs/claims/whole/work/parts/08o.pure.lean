/-! ===== a signature as the class has it ===== -/
/-- a word as a number: five bits a letter -/
def wnu (w : List Nat) : Nat := w.foldl (fun a c => a * 32 + (c - 96)) 0
def SGC (v : Nat → Nat → Int32) (so ma : Nat → Nat) (un : Nat → Option Nat) (no nv : Nat) (nmL : Nat → List Nat) : Prop :=
  no ≤ 10 ∧ nv ≤ 5 ∧ v 0 0 = nI no ∧ v 0 1 = nI nv ∧ (∀ o : Nat, o < no → v 1 o = nI (wnu (nmL o)) ∧ v 2 o = nI (so o) ∧ v 3 o = nI (ma o) ∧ v 4 o = oI (un o)) ∧ ∀ j : Nat, j < nv → v 5 j = nI (wnu (nmL (10 + j)))
theorem fx_kindOf_c {n o : Nat} {v : Nat → Nat → Int32} {so ma : Nat → Nat} {un : Nat → Option Nat} {no nv : Nat} {nmL : Nat → List Nat} (h : SGC v so ma un no nv nmL) (ho : o < no) : fx_X5_kindOf n v (nI o) = some (nI (so o)) := by
  have h10 := h.1
  unfold fx_X5_kindOf
  rw [if_neg (by rw [show (0 : Int32) = nI 0 from rfl, nI_lt_iff (by omega) (by decide)]; omega), if_neg (by rw [show (10 : Int32) = nI 10 from rfl, nI_le_iff (by decide) (by omega)]; omega), xr_n (by omega) (by decide), (h.2.2.2.2.1 o ho).2.1]
theorem fx_kindOf_m1 {n : Nat} {v : Nat → Nat → Int32} : fx_X5_kindOf n v (-1) = some 0 := by
  unfold fx_X5_kindOf
  rw [if_pos (by decide)]
theorem fx_partsOf_c {n o : Nat} {v : Nat → Nat → Int32} {so ma : Nat → Nat} {un : Nat → Option Nat} {no nv : Nat} {nmL : Nat → List Nat} (h : SGC v so ma un no nv nmL) (ho : o < no) : fx_X5_partsOf n v (nI o) = some (nI (ma o)) := by
  have h10 := h.1
  unfold fx_X5_partsOf
  rw [if_neg (by rw [show (0 : Int32) = nI 0 from rfl, nI_lt_iff (by omega) (by decide)]; omega), if_neg (by rw [show (10 : Int32) = nI 10 from rfl, nI_le_iff (by decide) (by omega)]; omega), xr_n (by omega) (by decide), (h.2.2.2.2.1 o ho).2.2.1]
theorem fx_unitOf_c {n o : Nat} {v : Nat → Nat → Int32} {so ma : Nat → Nat} {un : Nat → Option Nat} {no nv : Nat} {nmL : Nat → List Nat} (h : SGC v so ma un no nv nmL) (ho : o < no) : fx_X5_unitOf n v (nI o) = some (oI (un o)) := by
  have h10 := h.1
  unfold fx_X5_unitOf
  rw [if_neg (by rw [show (0 : Int32) = nI 0 from rfl, nI_lt_iff (by omega) (by decide)]; omega), if_neg (by rw [show (10 : Int32) = nI 10 from rfl, nI_le_iff (by decide) (by omega)]; omega), xr_n (by omega) (by decide), (h.2.2.2.2.1 o ho).2.2.2]
/-- the code of an operator's unit, as the class has it -/
def ucI : Option Nat → Int32
  | none => -1
  | some u => nI (cc (cdo u 0))
theorem fx_unitCodeOf_c {n o : Nat} {v : Nat → Nat → Int32} {so ma : Nat → Nat} {un : Nat → Option Nat} {no nv : Nat} {nmL : Nat → List Nat} (h : SGC v so ma un no nv nmL) (hsv : SV so un ma nv) (ho : o < no) : fx_X5_unitCodeOf n v (nI o) = some (ucI (un o)) := by
  have h10 := h.1
  have e4 := (h.2.2.2.2.1 o ho).2.2.2
  unfold fx_X5_unitCodeOf
  rw [if_neg (by rw [show (0 : Int32) = nI 0 from rfl, nI_lt_iff (by omega) (by decide)]; omega), if_neg (by rw [show (10 : Int32) = nI 10 from rfl, nI_le_iff (by decide) (by omega)]; omega), xr_n (by omega) (by decide), e4]
  cases hu : un o with
  | none => rw [if_pos (show oI none < 0 by decide)]; rfl
  | some u =>
    have u10 := (hsv.2.2.2 o u hu).2.1
    have eo : oI (some u) = nI u := rfl
    have ec : cc (cdo u 0) = 8 * (u + 1) := by unfold cc cdo; rw [if_neg (by omega)]; omega
    rw [eo, if_neg (by rw [show (0 : Int32) = nI 0 from rfl, nI_lt_iff (by omega) (by decide)]; omega), xr_n (by omega) (by decide), e4, hu, eo, xl_eq, nI_1, xl_eq, show (8 : Int32) = nI 8 from rfl, nI_mul (by omega) (by decide) (by omega)]
    show _ = some (nI (cc (cdo u 0)))
    rw [ec]
theorem fx_hasUnit_c {n o : Nat} {v : Nat → Nat → Int32} {so ma : Nat → Nat} {un : Nat → Option Nat} {no nv : Nat} {nmL : Nat → List Nat} (h : SGC v so ma un no nv nmL) (hsv : SV so un ma nv) (ho : o < no) : fx_X8_hasUnit n v (nI o) = some (if un o = none then 0 else 1) := by
  have h10 := h.1
  unfold fx_X8_hasUnit
  rw [fx_unitOf_c h ho, xb1_s]
  cases hu : un o with
  | none => rw [if_pos (show oI none < 0 by decide), if_pos rfl]
  | some u =>
    have u10 := (hsv.2.2.2 o u hu).2.1
    have eo : oI (some u) = nI u := rfl
    rw [eo, if_neg (by rw [show (0 : Int32) = nI 0 from rfl, nI_lt_iff (by omega) (by decide)]; omega), if_neg (show ¬ some u = none by simp)]
