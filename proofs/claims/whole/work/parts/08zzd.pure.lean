/-! ===== the stepper: rebuild ===== -/
theorem setp_len {qs : List (List Nat)} {j : Nat} {b : List Nat} : (setp qs j b).length = qs.length := by
  unfold setp; rw [List.length_map, List.length_range]
theorem setp_mem {qs : List (List Nat)} {j : Nat} {b t : List Nat} (h : t ∈ setp qs j b) : t = b ∨ t ∈ qs := by
  obtain ⟨i, i1, i2⟩ := List.mem_map.mp h
  rw [← i2]
  by_cases z : i = j
  · rw [if_pos z]; exact Or.inl rfl
  · rw [if_neg z]; exact Or.inr (nth_mem (List.mem_range.mp i1))
theorem setp_in {qs : List (List Nat)} {j : Nat} {b : List Nat} (h : j < qs.length) : b ∈ setp qs j b := List.mem_map.mpr ⟨j, List.mem_range.mpr h, if_pos rfl⟩
theorem setp_split {qs : List (List Nat)} {j : Nat} {b : List Nat} (h : j < qs.length) : setp qs j b = qs.take j ++ (b :: qs.drop (j + 1)) := by
  apply List.ext_getElem
  · rw [setp_len, List.length_append, List.length_cons, List.length_take, List.length_drop]; omega
  · intro i h1 h2
    rw [setp_len] at h1
    have e0 : (setp qs j b)[i] = (if i = j then b else nth qs i) := by simp [setp]
    rw [e0]
    have e : ∀ z : Nat, (hz : z < qs.length) → nth qs z = qs[z] := fun z hz => by unfold nth; rw [List.getD_eq_getElem?_getD, List.getElem?_eq_getElem hz]; rfl
    have lt : (qs.take j).length = j := by rw [List.length_take]; omega
    by_cases z : i < j
    · rw [if_neg (by omega), e i h1, List.getElem_append_left (by omega), List.getElem_take]
    · by_cases z2 : i = j
      · subst z2
        rw [if_pos rfl, List.getElem_append_right (by omega)]
        simp [lt]
      · rw [if_neg z2, e i h1, List.getElem_append_right (by omega)]
        obtain ⟨y, hy⟩ : ∃ y : Nat, i = j + 1 + y := ⟨i - j - 1, by omega⟩
        subst hy
        simp only [lt, show j + 1 + y - j = y + 1 by omega, List.getElem_cons_succ, List.getElem_drop]
theorem setp_flat {qs : List (List Nat)} {j : Nat} {b : List Nat} (h : j < qs.length) : (setp qs j b).flatten.length + (nth qs j).length = qs.flatten.length + b.length := by
  rw [setp_split h]
  have e := congrArg (fun l => (List.flatten l).length) (nth_split h)
  simp only [List.flatten_append, List.flatten_cons, List.length_append] at e ⊢
  omega
/-- the way up from a place -/
def WUP (w : List Nat) (K : Nat) : Prop := ∀ k : Nat, k < K → k = 0 ∨ ∃ p j : Nat, PTH w k p j
/-- what is built at a place's parent -/
theorem up_ok {so ma : Nat → Nat} {un : Nat → Option Nat} {nv : Nat} {w b : List Nat} {k p j : Nat} (hsv : SV so un ma nv) (h : tok so un ma nv w) (hP : PTH w k p j) (hb1 : nok so un b) (hb2 : sS so ma nv b) (hb3 : b.length ≤ 450 + (sbt w k).length) :
    (opn (sbt w p) < 10 ∧ so (opn (sbt w p)) ≠ 3) ∧ noks so un (setp (pts (sbt w p)) j b) ∧ (setp (pts (sbt w p)) j b).flatten.length < 512 ∧ setp (pts (sbt w p)) j b ≠ [] ∧ b ∈ setp (pts (sbt w p)) j b ∧
    nok so un (stand so un (opn (sbt w p)) (setp (pts (sbt w p)) j b)) ∧ sS so ma nv (stand so un (opn (sbt w p)) (setp (pts (sbt w p)) j b)) ∧ (stand so un (opn (sbt w p)) (setp (pts (sbt w p)) j b)).length ≤ 450 + (sbt w p).length := by
  obtain ⟨c1, c2, c3, c4⟩ := hP
  obtain ⟨ts, tl⟩ := sbt_tokl h c2
  have hsu := SV_SU hsv
  have w20 := tok_len h
  have sp := sbt_part h c2 c3
  rw [← c4] at sp
  have ff := setp_flat (b := b) c3
  rw [← sp.1] at ff
  have sl := congrArg List.length (row_pts ts.1.1.1)
  rw [List.length_cons] at sl
  have pl := pts_len ts.1.1.1
  have h5 : 512 ≤ hd0 (sbt w p) := by
    apply Classical.byContradiction
    intro g
    have : ar (hd0 (sbt w p)) = 0 := by unfold ar; rw [if_pos (by omega)]
    omega
  have hm := hd0_mem ts.1.1.1
  obtain ⟨o1, o2⟩ : opn (sbt w p) < 10 ∧ so (opn (sbt w p)) ≠ 3 := by
    have := ts.1.1.2.2 _ hm h5
    have hc := ts.1.1.2.1 _ hm
    refine ⟨?_, this.1⟩
    unfold opn
    rcases hc with z | z <;> omega
  have nk : noks so un (setp (pts (sbt w p)) j b) := fun q hq => by
    rcases setp_mem hq with e | e
    · rw [e]; exact hb1
    · exact nok_pts ts.1 q e
  have ne : setp (pts (sbt w p)) j b ≠ [] := fun e => by
    have := congrArg List.length e
    rw [setp_len, List.length_nil] at this
    omega
  have fl : (setp (pts (sbt w p)) j b).flatten.length < 512 := by omega
  refine ⟨⟨o1, o2⟩, nk, fl, ne, setp_in c3, stand_nf hsu ⟨o1, o2⟩ nk ne fl, ?_, ?_⟩
  · refine stand_S hsv ⟨o1, o2⟩ (okts_wfs (noks_okts nk)) (fun q hq => ?_) (fun hn => ?_) fl
    · rcases setp_mem hq with e | e
      · rw [e]; exact hb2
      · exact (tok_pts ts q e).2.2
    · rw [setp_len, pl]
      have hs := ts.2.2 _ hm
      have := hsv.1
      rcases hs with z | ⟨_, _, _, z⟩
      · omega
      · exact z hn
  · have := (stand_okt (un := un) hsu ⟨o1, o2⟩ (noks_okts nk) (fun _ => ne) fl).2
    omega
theorem great_reb {so ma : Nat → Nat} {un : Nat → Option Nat} {nv K : Nat} {w : List Nat} (hsv : SV so un ma nv) (h : tok so un ma nv w) (hU : WUP w K) : ∀ (k : Nat) (b : List Nat), k < K → nok so un b → sS so ma nv b → b.length ≤ 450 + (sbt w k).length → great so b = true → great so (reb so un k b w) = true := by
  intro k
  induction k using Nat.strongRecOn with
  | _ k ih =>
    intro b hk b1 b2 b3 b4
    rcases hU k hk with e | ⟨p, j, hP⟩
    · subst e; rw [reb_0 h]; exact b4
    · rw [reb_step h hP]
      obtain ⟨g1, g2, g3, g4, g5, g6, g7, g8⟩ := up_ok hsv h hP b1 b2 b3
      exact ih p hP.1 _ (by have := hP.1; omega) g6 g7 g8 (great_stand (SV_SU hsv) g1 (noks_okts g2) g5 g3 b4)
