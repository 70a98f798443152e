/-! ===== the stepper: choices of parts against steps ===== -/
theorem sel_part {s : Nat} : ∀ {qs : List (List Nat)} {k : Nat}, (sel s false k qs ++ sel s true k qs).Perm qs
  | [], _ => List.Perm.refl _
  | q :: qs, k => by
    have ih := sel_part (s := s) (qs := qs) (k := k + 1)
    show ((if s.testBit k = false then sel s false (k + 1) qs else q :: sel s false (k + 1) qs) ++ (if s.testBit k = true then sel s true (k + 1) qs else q :: sel s true (k + 1) qs)).Perm (q :: qs)
    cases s.testBit k with
    | false =>
      rw [if_pos rfl, if_neg (by decide)]
      exact List.perm_middle.trans (ih.cons q)
    | true =>
      rw [if_neg (by decide), if_pos rfl]
      exact ih.cons q
theorem sel_sub {s : Nat} {o : Bool} : ∀ {qs : List (List Nat)} {k : Nat}, (sel s o k qs).Sublist qs
  | [], _ => List.Sublist.refl _
  | q :: qs, k => by
    show (if s.testBit k = o then sel s o (k + 1) qs else q :: sel s o (k + 1) qs).Sublist _
    split
    · exact (sel_sub (qs := qs) (k := k + 1)).cons q
    · exact (sel_sub (qs := qs) (k := k + 1)).cons_cons q
/-- sublists of a sorted list that hold the same are the same -/
theorem sub_same {qs X Y : List (List Nat)} (hw : wfs qs) (hs : srt qs = qs) (hX : X.Sublist qs) (hY : Y.Sublist qs) (h : X.Perm Y) : X = Y := by
  have pw := srt_pw hw hs
  have wY : wfs Y := fun q hq => hw q (hY.subset hq)
  rw [srt_of wY h (pw.sublist hX), srt_id wY (pw.sublist hY)]
def whF (so : Nat → Nat) (l s : List Nat) (wh : Nat) : Prop := (SHD so l s ∧ wh = 2 ^ (pts s).length - 1) ∨ (¬ SHD so l s ∧ wh = 0)
/-- steps by one choice of parts -/
def QB (so : Nat → Nat) (un : Nat → Option Nat) (l right w : List Nat) (pl wh b : Nat) (x : List Nat) : Prop := ∃ (tg : List Nat) (sg : Sbs), TGR so un l (sbt w pl) b tg ∧ MTG so un l tg sg ∧ x = Xo so un right w pl (wh - b) sg ∧ good so w x
theorem QB_iff {so ma : Nat → Nat} {un : Nat → Option Nat} {nv wh pl : Nat} {l right w x : List Nat} (hsv : SV so un ma nv) (hs2 : ∀ o : Nat, so o ≠ 3 → so o ≤ 2) (hl : tok so un ma nv l) (hw : tok so un ma nv w) (hpl : pl < w.length) (h5 : 512 ≤ hd0 l) (ho : opn l < 10 ∧ so (opn l) ≠ 3) (hwh : whF so l (sbt w pl) wh) : (∃ b : Nat, b ≤ wh ∧ QB so un l right w pl wh b x) ↔ stG so un l right w pl x := by
  have hs := (sbt_tokl hw hpl).1
  have kd2 : ∀ (_ : so (opn l) = 2), kd so l = 2 := fun h => by
    unfold kd
    rw [if_neg (by omega)]; exact h
  have Bo0 : ∀ sg : Sbs, Xo so un right w pl 0 sg = reb so un pl (fil so un sg right) w := fun sg => by
    unfold Xo Bo; rw [if_pos rfl]
  rcases hwh with ⟨hS, ew⟩ | ⟨hS, ew⟩
  · obtain ⟨k2, io⟩ := hS
    obtain ⟨s1, s2, s3, s4⟩ := sum_ar hl k2
    have hf : flat1 so un (opn l) (sbt w pl) = pts (sbt w pl) := by unfold flat1; rw [if_pos s2, if_pos io]
    have h6 : (pts (sbt w pl)).length ≤ 6 := by
      have := flat1_6 (op := opn l) hsv hs2 s2 hs
      rw [hf] at this; exact this
    have p2m : 0 < 2 ^ (pts (sbt w pl)).length := Nat.pow_pos (by decide)
    have p6 := pow64 h6
    obtain ⟨q1, q2, q3, q4⟩ := nf_sum (SV_SU hsv) ho s2 hs.1 io (by have := tok_len hs; omega)
    have wp : wfs (pts (sbt w pl)) := fun q hq => (tok_pts hs q hq).1.1.1
    have hi : ∀ b : Nat, b < 2 ^ (pts (sbt w pl)).length → ∀ j : Nat, (pts (sbt w pl)).length ≤ j → b.testBit j = false := fun b hb9 j hj => Nat.testBit_lt_two_pow (Nat.lt_of_lt_of_le hb9 (Nat.pow_le_pow_right (by decide) hj))
    have sfull := SS_full hsv ho s2 hs io
    have full : sl (2 ^ (pts (sbt w pl)).length - 1) (pts (sbt w pl)) = pts (sbt w pl) := sel_full (fun j _ hj => by rw [Nat.testBit_two_pow_sub_one]; exact decide_eq_true (by omega))
    constructor
    · rintro ⟨b, b1, tg, sg, t1, t2, t3, t4⟩
      rcases t1 with ⟨z, _⟩ | ⟨_, z, _⟩ | ⟨_, _, z1, z2, z3⟩
      · rw [io] at z; exact nomatch z
      · exact absurd k2 z
      · refine ⟨t4, ?_⟩
        by_cases bf : b = 2 ^ (pts (sbt w pl)).length - 1
        · rw [bf, sfull] at z3
          rw [ew, bf, Nat.sub_self, Bo0] at t3
          exact Or.inl ⟨sg, t2.1, by rw [t2.2, z3], t3⟩
        · refine Or.inr ⟨b, ⟨s2, io, fun hu => ?_, by omega⟩, sg, t2.1, ?_, ?_⟩
          · have := z1 hu
            apply Classical.byContradiction
            intro g
            have b0 : b = 0 := by omega
            subst b0
            have : pcF 0 6 0 = 0 := by decide
            omega
          · rw [t2.2, z3]
            exact SS_std hsv ho s2 hs io
          · rw [t3]
            unfold Xo Bo
            have o9 := sl_oth h6 (show b < 2 ^ (pts (sbt w pl)).length by omega)
            rw [if_neg (by omega), ew, o9]
            have eo : opn (sbt w pl) = opn l := ((isop_hd hs.1.1.1).mp io).2
            rw [eo]
    · rintro ⟨t4, ⟨sg, u1, u2, u3⟩ | ⟨b, ⟨_, _, c1, c2⟩, sg, u1, u2, u3⟩⟩
      · refine ⟨2 ^ (pts (sbt w pl)).length - 1, by omega, sbt w pl, sg, Or.inr (Or.inr ⟨io, k2, fun hu => ?_, fun i h1 h2 => ?_, sfull.symm⟩), ⟨u1, u2⟩, ?_, t4⟩
        · have := (sum_parts hsv hl k2 ho hu u1).2
          rw [u2] at this
          rw [← sl_pc h6 (hi _ (by omega)), full]
          exact this
        · rw [Nat.testBit_two_pow_sub_one] at h1 h2
          have h1' := of_decide_eq_false h1
          have h2' := of_decide_eq_true h2
          omega
        · rw [ew, Nat.sub_self, Bo0]; exact u3
      · have hperm : (sel b false 0 (pts (sbt w pl)) ++ sel b true 0 (pts (sbt w pl))).Perm (pts (sbt w pl)).reverse.reverse := by rw [List.reverse_reverse]; exact sel_part
        obtain ⟨b', w1, w2, w3, w4⟩ := first_ex (pts (sbt w pl)).reverse _ _ (by rw [List.length_reverse]; exact h6) hperm
        rw [List.length_reverse] at w1
        rw [List.reverse_reverse] at w2 w3 w4
        have e1 : sl b' (pts (sbt w pl)) = sel b false 0 (pts (sbt w pl)) := sub_same wp q2 sel_sub sel_sub w2
        have e2 : sel b' true 0 (pts (sbt w pl)) = sel b true 0 (pts (sbt w pl)) := sub_same wp q2 sel_sub sel_sub w3
        have o1 := sl_oth h6 (show b < 2 ^ (pts (sbt w pl)).length by omega)
        have o2 := sl_oth h6 w1
        have nfull : b' ≠ 2 ^ (pts (sbt w pl)).length - 1 := fun e => by
          rw [e2, ← o1, e, Nat.sub_self] at o2
          have z0 : sl 0 (pts (sbt w pl)) = [] := (sl_nil (by decide) (fun j _ => Nat.zero_testBit j)).mpr rfl
          rw [z0] at o2
          have := (sl_nil (s := 2 ^ (pts (sbt w pl)).length - 1 - b) (by omega) (hi _ (by omega))).mp o2.symm
          omega
        have et : fil so un sg l = SS so un (opn l) (sbt w pl) b' := by
          rw [u2, SS_std hsv ho s2 hs io]
          show _ = stand so un (opn l) (sl b' (pts (sbt w pl)))
          rw [e1]
        refine ⟨b', by omega, SS so un (opn l) (sbt w pl) b', sg, Or.inr (Or.inr ⟨io, k2, fun hu => ?_, by rw [hf]; exact w4, rfl⟩), ⟨u1, et⟩, ?_, t4⟩
        · obtain ⟨g1, g2⟩ := sum_parts hsv hl k2 ho hu u1
          rw [et] at g1 g2
          have fl := SS_flat (bits := b') hsv ho s2 hs (fun e => by
            rw [hf, e1] at e
            have := (sl_nil (s := b) (by omega) (hi _ (by omega))).mp e
            have := c1 hu
            omega)
          have fp : flat1 so un (opn l) (SS so un (opn l) (sbt w pl) b') = pts (SS so un (opn l) (sbt w pl) b') := by unfold flat1; rw [if_pos s2, if_pos g1]
          rw [fp, hf] at fl
          rw [fl, sl_pc h6 (hi _ w1)] at g2
          exact g2
        · rw [u3]
          unfold Xo Bo
          have eo : opn (sbt w pl) = opn l := ((isop_hd hs.1.1.1).mp io).2
          rw [if_neg (by omega), ew, o2, e2, eo]
  · constructor
    · rintro ⟨b, b1, tg, sg, t1, t2, t3, t4⟩
      have b0 : wh - b = 0 := by omega
      rw [b0, Bo0] at t3
      have et : tg = sbt w pl := by
        rcases t1 with ⟨_, _, _, z⟩ | ⟨_, _, z⟩ | ⟨z1, z2, _⟩
        · exact z
        · exact z
        · exact absurd ⟨z2, z1⟩ hS
      exact ⟨t4, Or.inl ⟨sg, t2.1, by rw [t2.2, et], t3⟩⟩
    · rintro ⟨t4, ⟨sg, u1, u2, u3⟩ | ⟨b, ⟨c0, c9, _⟩, _⟩⟩
      · refine ⟨0, Nat.zero_le _, sbt w pl, sg, ?_, ⟨u1, u2⟩, by rw [ew, Nat.sub_self, Bo0]; exact u3, t4⟩
        by_cases io : isop (opn l) (sbt w pl) = true
        · exact Or.inr (Or.inl ⟨io, fun k2 => hS ⟨k2, io⟩, rfl⟩)
        · have hc : kd so l = 2 ∧ un (opn l) ≠ none := by
            apply Classical.byContradiction
            intro g
            exact io (match_head hsv hs2 hl hs h5 ho g ⟨u1, u2⟩)
          exact Or.inl ⟨by simpa using io, hc.1, hc.2, rfl⟩
      · exact absurd ⟨kd2 c0, c9⟩ hS
