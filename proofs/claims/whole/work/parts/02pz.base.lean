theorem in_use {r : Int32} {P : Prop} (h : (P → r = 1) ∧ (¬ P → r = 0)) : (¬ r.toInt = 0 → P) ∧ (r.toInt = 0 → ¬ P) :=
  ⟨fun q => Classical.byContradiction (fun n => q (by rw [h.2 n]; rfl)), fun q n => by rw [h.1 n] at q; exact absurd q (by decide)⟩
/-- how long what stands at a place is, the place as an int -/
noncomputable def gln (p : Nat → Int32) (v : Int32) : Nat := ln p v.toNatClampNeg
theorem gln_eq {p : Nat → Int32} {v : Int32} {k : Nat} (h : fo p v.toNatClampNeg 1 k) : gln p v = k := ln_eq h
theorem gln_pos {p : Nat → Int32} {lo hi : Int} {v : Int32} (h : gsp p lo hi v) : 0 < gln p v := by
  obtain ⟨-, k, hk, -⟩ := h
  rw [gln_eq hk]
  exact fo_pos hk (by omega)
theorem gsp_congr {p q : Nat → Int32} {lo hi : Int} {v : Int32} (h0 : 0 ≤ lo) (h : ∀ i : Nat, (i : Int) < hi → q i = p i) (hg : gsp p lo hi v) : gsp q lo hi v := by
  obtain ⟨h1, k, hk, h2⟩ := hg
  refine ⟨h1, k, fo_congr (fun i hi => ?_) hk, h2⟩
  have := cl_nat (x := v)
  exact (h _ (by omega)).symm
theorem gsp_weak {p : Nat → Int32} {lo hi lo' hi' : Int} {v : Int32} (h1 : lo' ≤ lo) (h2 : hi ≤ hi') (hg : gsp p lo hi v) : gsp p lo' hi' v := by
  obtain ⟨h, k, hk, h3⟩ := hg
  exact ⟨by omega, k, hk, by omega⟩
