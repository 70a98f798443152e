/-! ===== steps of a term: what they are, in order ===== -/
def slt (a b : StpE) : Prop := a.1 < b.1 ∨ (a.1 = b.1 ∧ (a.2.1 < b.2.1 ∨ (a.2.1 = b.2.1 ∧ klt a.2.2 b.2.2)))
abbrev RulL := List (List Nat × List Nat)
def rul (R : RulL) (i : Nat) : List Nat × List Nat := R.getD i ([], [])
theorem rul_mem {R : RulL} {i : Nat} (h : i < R.length) : rul R i ∈ R := by
  unfold rul
  rw [List.getD_eq_getElem?_getD, List.getElem?_eq_getElem h]
  exact List.getElem_mem h
/-- a step of a term, at its first places, by rules of a set -/
def isSt (so : Nat → Nat) (un : Nat → Option Nat) (R : RulL) (on : Int32) (np : Nat) (w : List Nat) (s : StpE) : Prop := s.1 < np ∧ s.2.1 < R.length ∧ onb on s.2.1 = true ∧ stG so un (rul R s.2.1).1 (rul R s.2.1).2 w s.1 s.2.2
/-- too much: matches, or steps -/
def TMs (so : Nat → Nat) (un : Nat → Option Nat) (R : RulL) (on : Int32) (np : Nat) (w : List Nat) : Prop := (∃ pl r : Nat, pl < np ∧ r < R.length ∧ onb on r = true ∧ TMg so un (rul R r).1 w pl) ∨ ∃ L : List StpE, L.Nodup ∧ 200 < L.length ∧ ∀ s ∈ L, isSt so un R on np w s
def befo (pl ru : Nat) (s : StpE) : Prop := s.1 < pl ∨ (s.1 = pl ∧ s.2.1 < ru)
/-- the steps ahead of a place and a rule -/
def STo (so : Nat → Nat) (un : Nat → Option Nat) (R : RulL) (on : Int32) (np : Nat) (w : List Nat) (pl ru : Nat) (tm : Int32) (fpl fru fr : Nat → Int32) (M : Int32) : Prop :=
  (tm = 0 ∧ (∀ p r : Nat, (p < pl ∨ (p = pl ∧ r < ru)) → r < R.length → onb on r = true → ¬ TMg so un (rul R r).1 w p) ∧ ∃ S : List StpE, S.Pairwise slt ∧ (∀ s ∈ S, sok so s.2.2) ∧ S.length ≤ 200 ∧ SL fpl fru fr S ∧ M = nI S.length ∧ ∀ s : StpE, s ∈ S ↔ isSt so un R on np w s ∧ befo pl ru s) ∨ (tm = 1 ∧ TMs so un R on np w)
theorem STo_tm {so : Nat → Nat} {un : Nat → Option Nat} {R : RulL} {on : Int32} {np pl ru : Nat} {w : List Nat} {tm M : Int32} {fpl fru fr : Nat → Int32} (h : STo so un R on np w pl ru tm fpl fru fr M) : tm = 0 ∨ tm = 1 := by
  rcases h with ⟨a, _⟩ | ⟨a, _⟩
  · exact Or.inl a
  · exact Or.inr a
theorem STo_one {so : Nat → Nat} {un : Nat → Option Nat} {R : RulL} {on : Int32} {np pl ru pl' ru' : Nat} {w : List Nat} {M : Int32} {fpl fru fr : Nat → Int32} (h : STo so un R on np w pl ru 1 fpl fru fr M) : STo so un R on np w pl' ru' 1 fpl fru fr M := by
  rcases h with ⟨a, _⟩ | ⟨a, b⟩
  · exact absurd a (by decide)
  · exact Or.inr ⟨a, b⟩
theorem slt_ne {a b : StpE} (h : slt a b) : a ≠ b := by
  rintro rfl
  rcases h with h | ⟨_, h | ⟨_, h⟩⟩
  · omega
  · omega
  · exact klt_irrefl h
theorem slt_nodup {S : List StpE} (h : S.Pairwise slt) : S.Nodup := h.imp slt_ne
theorem grpS_mem {pl ru : Nat} {D : List (List Nat)} {s : StpE} : s ∈ grpS pl ru D ↔ s.1 = pl ∧ s.2.1 = ru ∧ s.2.2 ∈ D := by
  unfold grpS
  constructor
  · intro h
    obtain ⟨r, hr, rfl⟩ := List.mem_map.mp h
    exact ⟨rfl, rfl, hr⟩
  · rintro ⟨h1, h2, h3⟩
    obtain ⟨a, b, c⟩ := s
    simp only at h1 h2 h3
    subst h1 h2
    exact List.mem_map.mpr ⟨c, h3, rfl⟩
theorem grpS_nodup {pl ru : Nat} {D : List (List Nat)} (h : D.Nodup) : (grpS pl ru D).Nodup := by
  unfold grpS
  refine List.Pairwise.map _ (fun a b hab e => ?_) h
  exact hab (congrArg (fun s : StpE => s.2.2) e)
/-- one group more -/
theorem STo_step {so : Nat → Nat} {un : Nat → Option Nat} {R : RulL} {on : Int32} {np pl ru : Nat} {w : List Nat} {S : List StpE} {tm M : Int32} {fpl fru fr : Nat → Int32} (hpl : pl < np) (hru : ru < R.length) (hon : onb on ru = true)
    (hT : ∀ p r : Nat, (p < pl ∨ (p = pl ∧ r < ru)) → r < R.length → onb on r = true → ¬ TMg so un (rul R r).1 w p) (hS : S.Pairwise slt) (hk : ∀ s ∈ S, sok so s.2.2) (hm : ∀ s : StpE, s ∈ S ↔ isSt so un R on np w s ∧ befo pl ru s)
    (hG : GT so un S pl ru (rul R ru).1 (rul R ru).2 w (bitok so un (rul R ru).1 w pl) tm fpl fru fr M) : STo so un R on np w pl (ru + 1) tm fpl fru fr M := by
  rcases hG with ⟨g1, g2, g3, g4⟩ | ⟨g1, g2⟩ | ⟨g1, L, g2, g3, g4⟩
  · rcases g4 with ⟨_, D, u1, u2, u3, u4, u5, u6⟩ | ⟨a, _⟩
    · refine Or.inl ⟨g1, fun p r h hr ho => ?_, S ++ grpS pl ru D, ?_, ?_, ?_, u3, ?_, fun s => ?_⟩
      · by_cases q : p = pl ∧ r = ru
        · obtain ⟨rfl, rfl⟩ := q
          rintro (h1 | ⟨bits, h1, h2⟩)
          · exact g2 h1
          · exact g3 bits h1 h2
        · refine hT p r ?_ hr ho
          rcases h with h | ⟨h1, h2⟩
          · exact Or.inl h
          · exact Or.inr ⟨h1, by have : r ≠ ru := fun e => q ⟨h1, e⟩; omega⟩
      · refine List.pairwise_append.mpr ⟨hS, ?_, fun a ha b hb' => ?_⟩
        · unfold grpS
          exact List.Pairwise.map _ (fun a b h => Or.inr ⟨rfl, Or.inr ⟨rfl, h⟩⟩) u2
        · obtain ⟨h1, h2, h3⟩ := grpS_mem.mp hb'
          rcases ((hm a).mp ha).2 with h | ⟨h, h'⟩
          · exact Or.inl (by omega)
          · exact Or.inr ⟨by omega, Or.inl (by omega)⟩
      · intro s hs
        rcases List.mem_append.mp hs with h | h
        · exact hk s h
        · exact u1 _ (grpS_mem.mp h).2.2
      · rw [List.length_append]; simpa [grpS] using u5
      · rw [u4, List.length_append]; simp [grpS]
      · rw [List.mem_append, hm s, grpS_mem, u6]
        constructor
        · rintro (⟨h1, h2⟩ | ⟨h1, h2, h3, h4⟩)
          · refine ⟨h1, ?_⟩
            rcases h2 with h | ⟨h, h'⟩
            · exact Or.inl h
            · exact Or.inr ⟨h, by omega⟩
          · refine ⟨⟨by omega, by omega, by rw [h2]; exact hon, ?_⟩, Or.inr ⟨h1, by omega⟩⟩
            rw [h1, h2]; exact ⟨h3, h4⟩
        · rintro ⟨h1, h2⟩
          by_cases q : s.1 = pl ∧ s.2.1 = ru
          · obtain ⟨q1, q2⟩ := q
            obtain ⟨_, _, _, h4⟩ := h1
            rw [q1, q2] at h4
            exact Or.inr ⟨q1, q2, h4⟩
          · refine Or.inl ⟨h1, ?_⟩
            rcases h2 with h | ⟨h, h'⟩
            · exact Or.inl h
            · exact Or.inr ⟨h, by have : s.2.1 ≠ ru := fun e => q ⟨h, e⟩; omega⟩
    · exact absurd a (by decide)
  · exact Or.inr ⟨g1, Or.inl ⟨pl, ru, hpl, hru, hon, g2⟩⟩
  · refine Or.inr ⟨g1, Or.inr ⟨S ++ grpS pl ru L, ?_, ?_, fun s hs => ?_⟩⟩
    · refine List.nodup_append.mpr ⟨slt_nodup hS, grpS_nodup g2, fun a ha b hb' e => ?_⟩
      subst e
      obtain ⟨h1, h2, _⟩ := grpS_mem.mp hb'
      rcases ((hm a).mp ha).2 with h | ⟨h, h'⟩ <;> omega
    · rw [List.length_append]; simpa [grpS] using g3
    · rcases List.mem_append.mp hs with h | h
      · exact ((hm s).mp h).1
      · obtain ⟨h1, h2, h3⟩ := grpS_mem.mp h
        refine ⟨by omega, by omega, by rw [h2]; exact hon, ?_⟩
        rw [h1, h2]; exact g4 _ h3
theorem STo_skip {so : Nat → Nat} {un : Nat → Option Nat} {R : RulL} {on : Int32} {np pl ru : Nat} {w : List Nat} {tm M : Int32} {fpl fru fr : Nat → Int32} (hon : onb on ru = false) (h : STo so un R on np w pl ru tm fpl fru fr M) : STo so un R on np w pl (ru + 1) tm fpl fru fr M := by
  rcases h with ⟨a, b, S, c, d, e, f, g, h⟩ | h
  · refine Or.inl ⟨a, fun p r h1 hr ho => b p r ?_ hr ho, S, c, d, e, f, g, fun s => (h s).trans ⟨fun q => ⟨q.1, ?_⟩, fun q => ⟨q.1, ?_⟩⟩⟩
    · rcases h1 with h1 | ⟨h1, h2⟩
      · exact Or.inl h1
      · refine Or.inr ⟨h1, ?_⟩
        have : r ≠ ru := fun e => by rw [e, hon] at ho; exact absurd ho (by decide)
        omega
    · rcases q.2 with h1 | ⟨h1, h2⟩
      · exact Or.inl h1
      · exact Or.inr ⟨h1, by omega⟩
    · rcases q.2 with h1 | ⟨h1, h2⟩
      · exact Or.inl h1
      · refine Or.inr ⟨h1, ?_⟩
        have : s.2.1 ≠ ru := fun e => by have := q.1.2.2.1; rw [e, hon] at this; exact absurd this (by decide)
        omega
  · exact Or.inr h
theorem STo_next {so : Nat → Nat} {un : Nat → Option Nat} {R : RulL} {on : Int32} {np pl : Nat} {w : List Nat} {tm M : Int32} {fpl fru fr : Nat → Int32} (h : STo so un R on np w pl R.length tm fpl fru fr M) : STo so un R on np w (pl + 1) 0 tm fpl fru fr M := by
  rcases h with ⟨a, b, S, c, d, e, f, g, h⟩ | h
  · refine Or.inl ⟨a, fun p r h1 hr ho => b p r ?_ hr ho, S, c, d, e, f, g, fun s => (h s).trans ⟨fun q => ⟨q.1, ?_⟩, fun q => ⟨q.1, ?_⟩⟩⟩
    · rcases h1 with h1 | ⟨h1, h2⟩
      · by_cases q : p = pl
        · exact Or.inr ⟨q, hr⟩
        · exact Or.inl (by omega)
      · omega
    · rcases q.2 with h1 | ⟨h1, h2⟩
      · exact Or.inl (by omega)
      · exact Or.inl (by omega)
    · rcases q.2 with h1 | ⟨h1, h2⟩
      · by_cases q2 : s.1 = pl
        · exact Or.inr ⟨q2, q.1.2.1⟩
        · exact Or.inl (by omega)
      · omega
  · exact Or.inr h
