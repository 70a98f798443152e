/-! ===== the class's steps are the reference's ===== -/
/-- sides as rows, two a rule; bits of the rules -/
def SDR (Rr : List (List Nat)) (R : RulL) (on : Int32) (bits : Nat) : Prop := R.length ≤ 8 ∧ (∀ r : Nat, r < R.length → rl Rr r = (rul R r).1 ∧ rr Rr r = (rul R r).2) ∧ ∀ r : Nat, r < 8 → (bits.testBit r = true ↔ r < R.length ∧ onb on r = true)
theorem isB_iff {so : Nat → Nat} {un : Nat → Option Nat} {Rr : List (List Nat)} {R : RulL} {on : Int32} {bits K : Nat} {w : List Nat} {s : StpE} (h : SDR Rr R on bits) : isB so un Rr bits K w s ↔ isSt so un R on K w s := by
  obtain ⟨h1, h2, h3⟩ := h
  unfold isB isSt
  constructor
  · rintro ⟨a, b, c, d⟩
    obtain ⟨e, f⟩ := (h3 _ b).mp c
    obtain ⟨x, y⟩ := h2 _ e
    rw [x, y] at d
    exact ⟨a, e, f, d⟩
  · rintro ⟨a, e, f, d⟩
    have b : s.2.1 < 8 := by omega
    obtain ⟨x, y⟩ := h2 _ e
    rw [← x, ← y] at d
    exact ⟨a, b, (h3 _ b).mpr ⟨e, f⟩, d⟩
theorem TMB_TMs {so : Nat → Nat} {un : Nat → Option Nat} {Rr : List (List Nat)} {R : RulL} {on : Int32} {bits K : Nat} {w : List Nat} (h : SDR Rr R on bits) (ht : TMB so un Rr bits K w) : TMs so un R on K w := by
  rcases ht with ⟨pl, r, a, b, c, d⟩ | ⟨L, a, b, c⟩
  · obtain ⟨e, f⟩ := (h.2.2 r b).mp c
    rw [(h.2.1 r e).1] at d
    exact Or.inl ⟨pl, r, a, e, f, d⟩
  · exact Or.inr ⟨L, a, b, fun s hs => (isB_iff h).mp (c s hs)⟩
theorem STS_StL {so : Nat → Nat} {un : Nat → Option Nat} {Rr : List (List Nat)} {R : RulL} {on : Int32} {bits K : Nat} {w : List Nat} {sp rf : Nat → Nat → Int32} (hsu : SU so un) (h : SDR Rr R on bits) (hw : nok so un w) (hl : w.length ≤ 20) (hK : K ≤ w.length) (hR : ∀ x ∈ R, rok so un x) (hS : STS so un Rr bits K w sp rf K 0) (hno : ∀ p q : Nat, p < K → q < 8 → bits.testBit q = true → ¬ TMg so un (rl Rr q) w p) :
    ∃ (A : List (List Nat)) (S : List StpE), RWS 201 rf A ∧ A.length ≤ 200 ∧ STT sp A S ∧ StL so un R on K w S := by
  obtain ⟨A, S, b1, b2, b3, b4, b5⟩ := hS
  have hin : ∀ s : StpE, s ∈ S ↔ isSt so un R on K w s := fun s => by
    rw [b5, isB_iff h]
    exact ⟨fun z => z.1, fun z => ⟨z, Or.inl z.1⟩⟩
  refine ⟨A, S, b1, b2, b3, b4, fun s hs => ?_, by rw [b3.1]; exact b2, hin, fun ht => ?_⟩
  · obtain ⟨x, y⟩ := isSt_nok hsu hw hl hK hR ((hin s).mp hs)
    exact ⟨x.1, great_len y⟩
  · rcases ht with ⟨pl, r, a, e, f, d⟩ | ⟨L, l1, l2, l3⟩
    · have r8 : r < 8 := by have := h.1; omega
      rw [← (h.2.1 r e).1] at d
      exact hno pl r a r8 ((h.2.2 r r8).mpr ⟨e, f⟩) d
    · have := nodup_le l1 (fun s hs => (hin s).mpr (l3 s hs))
      rw [b3.1] at this
      omega
