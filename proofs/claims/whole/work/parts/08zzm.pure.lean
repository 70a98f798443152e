/-! ===== the stepper: too many matches ===== -/
theorem TMm_of {so : Nat → Nat} {un : Nat → Option Nat} {P T : List Nat} {pv : Int32} (hp : pvs pv P) (h : TOO so un P T pv) : TMm so un P T := by
  obtain ⟨L, a, b, c⟩ := h
  exact ⟨pv, L, hp, a, b, fun k hk => by
    obtain ⟨sg, m, e⟩ := c k hk
    exact ⟨sg, m.1, m.2, e⟩⟩
theorem TMm_not {so : Nat → Nat} {un : Nat → Option Nat} {P T : List Nat} {pv : Int32} {Fs : List Sbs} (hp : pvs pv P) (h3 : Fs.length ≤ 300) (hc : ∀ sg : Sbs, MTG so un P T sg → ∃ f ∈ Fs, key pv f = key pv sg) : ¬ TMm so un P T := by
  rintro ⟨pv', L, a, b, c, d⟩
  have e : ∀ sg : Sbs, key pv' sg = key pv sg := fun sg => keyF_pv (fun v hv => by
    have h1 := a v hv
    have h2 := hp v hv
    cases x : hb pv' v with
    | true => exact ((h2).mpr ((h1).mp x)).symm
    | false =>
      cases y : hb pv v with
      | false => rfl
      | true =>
        have := h1.mpr (h2.mp y)
        rw [x] at this; exact nomatch this) 5 0 (by omega)
  have := nodup_le (F := Fs.map (key pv)) b (fun k hk => by
    obtain ⟨sg, m1, m2, m3⟩ := d k hk
    obtain ⟨f, f1, f2⟩ := hc sg ⟨m1, m2⟩
    rw [m3, e, ← f2]
    exact List.mem_map.mpr ⟨f, f1, rfl⟩)
  rw [List.length_map] at this
  omega
theorem TMm_ex {so : Nat → Nat} {un : Nat → Option Nat} {P T : List Nat} (h : TMm so un P T) : ∃ sg : Sbs, MTG so un P T sg := by
  obtain ⟨pv, L, a, b, c, d⟩ := h
  cases L with
  | nil => simp at c
  | cons k L =>
    obtain ⟨sg, m1, m2, _⟩ := d k List.mem_cons_self
    exact ⟨sg, m1, m2⟩
theorem TMg_iff {so ma : Nat → Nat} {un : Nat → Option Nat} {nv wh pl : Nat} {l w : List Nat} (hsv : SV so un ma nv) (hs2 : ∀ o : Nat, so o ≠ 3 → so o ≤ 2) (hl : tok so un ma nv l) (hw : tok so un ma nv w) (hpl : pl < w.length) (h5 : 512 ≤ hd0 l) (ho : opn l < 10 ∧ so (opn l) ≠ 3) (hwh : whF so l (sbt w pl) wh) : (∃ (b : Nat) (tg : List Nat), b ≤ wh ∧ TGR so un l (sbt w pl) b tg ∧ TMm so un l tg) ↔ TMg so un l w pl := by
  have hs := (sbt_tokl hw hpl).1
  rcases hwh with ⟨hS, ew⟩ | ⟨hS, ew⟩
  · obtain ⟨k2, io⟩ := hS
    obtain ⟨s1, s2, s3, s4⟩ := sum_ar hl k2
    have hf : flat1 so un (opn l) (sbt w pl) = pts (sbt w pl) := by unfold flat1; rw [if_pos s2, if_pos io]
    have h6 : (pts (sbt w pl)).length ≤ 6 := by
      have := flat1_6 (op := opn l) hsv hs2 s2 hs
      rw [hf] at this; exact this
    have p2m : 0 < 2 ^ (pts (sbt w pl)).length := Nat.pow_pos (by decide)
    have p6 := pow64 h6
    obtain ⟨q1, q2, q3, q4⟩ := nf_sum (SV_SU hsv) ho s2 hs.1 io (by have := tok_len hs; omega)
    have wp : wfs (pts (sbt w pl)) := fun q hq => (tok_pts hs q hq).1.1.1
    have hi : ∀ b : Nat, b < 2 ^ (pts (sbt w pl)).length → ∀ j : Nat, (pts (sbt w pl)).length ≤ j → b.testBit j = false := fun b hb9 j hj => Nat.testBit_lt_two_pow (Nat.lt_of_lt_of_le hb9 (Nat.pow_le_pow_right (by decide) hj))
    have sfull := SS_full hsv ho s2 hs io
    have full : sl (2 ^ (pts (sbt w pl)).length - 1) (pts (sbt w pl)) = pts (sbt w pl) := sel_full (fun j _ hj => by rw [Nat.testBit_two_pow_sub_one]; exact decide_eq_true (by omega))
    constructor
    · rintro ⟨b, tg, b1, t1, t2⟩
      rcases t1 with ⟨z, _⟩ | ⟨_, z, _⟩ | ⟨_, _, z1, z2, z3⟩
      · rw [io] at z; exact nomatch z
      · exact absurd k2 z
      · by_cases bf : b = 2 ^ (pts (sbt w pl)).length - 1
        · rw [bf, sfull] at z3
          rw [z3] at t2
          exact Or.inl t2
        · refine Or.inr ⟨b, ⟨s2, io, fun hu => ?_, by omega⟩, ?_⟩
          · have := z1 hu
            apply Classical.byContradiction
            intro g
            have b0 : b = 0 := by omega
            subst b0
            have : pcF 0 6 0 = 0 := by decide
            omega
          · rw [z3, SS_std hsv ho s2 hs io] at t2
            exact t2
    · rintro (t2 | ⟨b, ⟨_, _, c1, c2⟩, t2⟩)
      · obtain ⟨sg, u1, u2⟩ := TMm_ex t2
        refine ⟨2 ^ (pts (sbt w pl)).length - 1, sbt w pl, by omega, Or.inr (Or.inr ⟨io, k2, fun hu => ?_, fun i h1 h2 => ?_, sfull.symm⟩), t2⟩
        · have := (sum_parts hsv hl k2 ho hu u1).2
          rw [u2] at this
          rw [← sl_pc h6 (hi _ (by omega)), full]
          exact this
        · rw [Nat.testBit_two_pow_sub_one] at h1 h2
          have h1' := of_decide_eq_false h1
          have h2' := of_decide_eq_true h2
          omega
      · obtain ⟨sg, u1, u2⟩ := TMm_ex t2
        have hperm : (sel b false 0 (pts (sbt w pl)) ++ sel b true 0 (pts (sbt w pl))).Perm (pts (sbt w pl)).reverse.reverse := by rw [List.reverse_reverse]; exact sel_part
        obtain ⟨b', w1, w2, w3, w4⟩ := first_ex (pts (sbt w pl)).reverse _ _ (by rw [List.length_reverse]; exact h6) hperm
        rw [List.length_reverse] at w1
        rw [List.reverse_reverse] at w2 w3 w4
        have e1 : sl b' (pts (sbt w pl)) = sel b false 0 (pts (sbt w pl)) := sub_same wp q2 sel_sub sel_sub w2
        have et : SS so un (opn l) (sbt w pl) b' = stand so un (opn l) (sel b false 0 (pts (sbt w pl))) := by
          rw [SS_std hsv ho s2 hs io]
          show stand so un (opn l) (sl b' (pts (sbt w pl))) = _
          rw [e1]
        refine ⟨b', SS so un (opn l) (sbt w pl) b', by omega, Or.inr (Or.inr ⟨io, k2, fun hu => ?_, by rw [hf]; exact w4, rfl⟩), by rw [et]; exact t2⟩
        obtain ⟨g1, g2⟩ := sum_parts hsv hl k2 ho hu u1
        rw [u2, ← et] at g1 g2
        have fl := SS_flat (bits := b') hsv ho s2 hs (fun e => by
          rw [hf, e1] at e
          have := (sl_nil (s := b) (by omega) (hi _ (by omega))).mp e
          have := c1 hu
          omega)
        have fp : flat1 so un (opn l) (SS so un (opn l) (sbt w pl) b') = pts (SS so un (opn l) (sbt w pl) b') := by unfold flat1; rw [if_pos s2, if_pos g1]
        rw [fp, hf] at fl
        rw [fl, sl_pc h6 (hi _ w1)] at g2
        exact g2
  · constructor
    · rintro ⟨b, tg, b1, t1, t2⟩
      have et : tg = sbt w pl := by
        rcases t1 with ⟨_, _, _, z⟩ | ⟨_, _, z⟩ | ⟨z1, z2, _⟩
        · exact z
        · exact z
        · exact absurd ⟨z2, z1⟩ hS
      rw [et] at t2
      exact Or.inl t2
    · rintro (t2 | ⟨b, ⟨c0, c9, _⟩, _⟩)
      · obtain ⟨sg, u⟩ := TMm_ex t2
        refine ⟨0, sbt w pl, Nat.zero_le _, ?_, t2⟩
        by_cases io : isop (opn l) (sbt w pl) = true
        · exact Or.inr (Or.inl ⟨io, fun k2 => hS ⟨k2, io⟩, rfl⟩)
        · have hc : kd so l = 2 ∧ un (opn l) ≠ none := by
            apply Classical.byContradiction
            intro g
            exact io (match_head hsv hs2 hl hs h5 ho g u)
          exact Or.inl ⟨by simpa using io, hc.1, hc.2, rfl⟩
      · exact absurd ⟨by unfold kd; rw [if_neg (by omega)]; exact c0, c9⟩ hS
