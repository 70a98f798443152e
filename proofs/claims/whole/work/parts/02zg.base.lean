theorem sh1 {b : Int32} (h : b = 0 ∨ b = 1) (hb : ¬ b.toInt = 0) : b = 1 := h.resolve_left (fun q => hb (by rw [q]; rfl))
