theorem lg_x (x y : Int64) : lg_cmp x y = xcmp x y := by
  have h1 : x > y ↔ y.toInt < x.toInt := Int64.lt_iff_toInt_lt
  have h2 : x < y ↔ x.toInt < y.toInt := Int64.lt_iff_toInt_lt
  have h3 : x = y ↔ x.toInt = y.toInt := Int64.toInt_inj.symm
  unfold lg_cmp xcmp
  by_cases a : x < y
  · have := h2.mp a
    rw [if_pos a, if_neg (fun q => by have := h1.mp q; omega), if_neg (fun q => by have := h3.mp q; omega)]
  · by_cases b : x = y
    · rw [if_neg a, if_pos b, if_neg (fun q => by have := h1.mp q; have := h3.mp b; omega), if_pos b]
    · rw [if_pos (h1.mpr (by have : ¬ x.toInt < y.toInt := fun q => a (h2.mpr q); have : ¬ x.toInt = y.toInt := fun q => b (h3.mpr q); omega)), if_neg a, if_neg b]
