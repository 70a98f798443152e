/-! ===== the matcher: every way is looked at ===== -/
theorem sl_mem {s : Nat} : ∀ (qs : List (List Nat)) (k i : Nat), i < qs.length → s.testBit (k + i) = true → nth qs i ∈ sel s false k qs
  | [], _, _, hi, _ => absurd hi (Nat.not_lt_zero _)
  | x :: qs, k, i, hi, hb9 => by
    show nth (x :: qs) i ∈ (if s.testBit k = false then sel s false (k + 1) qs else x :: sel s false (k + 1) qs)
    cases i with
    | zero =>
      rw [Nat.add_zero] at hb9
      rw [hb9, if_neg (by decide)]
      exact List.mem_cons_self
    | succ i =>
      rw [List.length_cons] at hi
      have g := sl_mem (s := s) qs (k + 1) i (by omega) (by rw [show k + 1 + i = k + (i + 1) by omega]; exact hb9)
      have e : nth (x :: qs) (i + 1) = nth qs i := rfl
      rw [e]
      by_cases z : s.testBit k = false
      · rw [if_pos z]; exact g
      · rw [if_neg z]; exact List.mem_cons_of_mem _ g
theorem least_ix {q : List Nat} : ∀ {H : List (List Nat)}, q ∈ H → ∃ i : Nat, i < H.length ∧ nth H i = q ∧ ∀ j : Nat, j < i → nth H j ≠ q
  | [], h => absurd h List.not_mem_nil
  | x :: H, h => by
    by_cases e : x = q
    · exact ⟨0, Nat.succ_pos _, e, fun j hj => absurd hj (Nat.not_lt_zero j)⟩
    · have h' : q ∈ H := by
        rcases List.mem_cons.mp h with g | g
        · exact absurd g.symm e
        · exact g
      obtain ⟨i, i1, i2, i3⟩ := least_ix h'
      refine ⟨i + 1, Nat.succ_lt_succ i1, i2, fun j hj => ?_⟩
      cases j with
      | zero => exact e
      | succ j => exact i3 j (by omega)
theorem pc_pow : ∀ i : Fin 6, pcF (2 ^ i.val) 6 0 = 1 ∧ (2 ^ i.val).testBit i.val = true ∧ ∀ j : Fin 7, (2 ^ i.val).testBit j.val = true → j.val = i.val := by decide +kernel
theorem sum_cover {so ma : Nat → Nat} {un : Nat → Option Nat} {nv bp lim : Nat} {R : GoalC} {C0 : List GoalC} {be : Nat → Option (List Nat)} {sg : Nat → List Nat} (hsv : SV so un ma nv) (hs2 : ∀ o : Nat, so o ≠ 3 → so o ≤ 2) (hp : tok so un ma nv R.1) (ht : tok so un ma nv R.2.2) (hk : kd so R.1 = 2) (ho : opn R.1 < 10 ∧ so (opn R.1) ≠ 3) (hbl : bp < (pts R.1).length) (hb9 : R.2.1.testBit bp = true) (hlim : lim = (if sto so un (nth (pts R.1) bp) = 2 then (flat1 so un (opn R.1) R.2.2).length else 2 ^ (flat1 so un (opn R.1) R.2.2).length)) (h : SolG so un (R :: C0) be sg) : ∃ wy : Nat, wy < lim ∧ SW so un R C0 be bp wy sg := by
  obtain ⟨p, left, S⟩ := R
  have hp : tok so un ma nv p := hp
  have ht : tok so un ma nv S := ht
  have hk : kd so p = 2 := hk
  have ho : opn p < 10 ∧ so (opn p) ≠ 3 := ho
  have hbl : bp < (pts p).length := hbl
  have hb9 : left.testBit bp = true := hb9
  have hlim : lim = (if sto so un (nth (pts p) bp) = 2 then (flat1 so un (opn p) S).length else 2 ^ (flat1 so un (opn p) S).length) := hlim
  have hsu := SV_SU hsv
  obtain ⟨s1, s2, s3, s4⟩ := sum_ar hp hk
  have h6H := flat1_6 (op := opn p) hsv hs2 s2 ht
  have hq : nth (pts p) bp ∈ sl left (pts p) := sl_mem (pts p) 0 bp hbl (by rw [Nat.zero_add]; exact hb9)
  have hne : sl left (pts p) ≠ [] := fun e => by rw [e] at hq; exact absurd hq List.not_mem_nil
  have gs := h.2 _ List.mem_cons_self
  rw [gsum_iff hsv hp hk ho ht hne] at gs
  have tq : tok so un ma nv (nth (pts p) bp) := tok_pts hp _ (nth_mem hbl)
  have lq := tok_len tq
  have hv := gs.1 _ hq
  have hf1 := fils_ok (so := so) (un := un) (sg := sg) (Q := [nth (pts p) bp]) (ma := ma) (nv := nv) hsu (fun q hq => by rw [List.mem_singleton.mp hq]; exact ⟨tq, hv⟩) (by simpa using lq)
  have nq : nok so un (fil so un sg (nth (pts p) bp)) := hf1.1 _ (by simp)
  have l5 : (fil so un sg (nth (pts p) bp)).length < 512 := by simpa using hf1.2
  obtain ⟨a1, a2, a3, a4⟩ := nf_as hsu ho s2 nq l5
  obtain ⟨b1, b2, b3, b4⟩ := nf_as hsu ho s2 ht.1 (by have := tok_len ht; omega)
  obtain ⟨A, B, hAB⟩ := List.append_of_mem hq
  have hperm : (flat1 so un (opn p) (fil so un sg (nth (pts p) bp)) ++ (flats so un (opn p) (A.map (fil so un sg)) ++ flats so un (opn p) (B.map (fil so un sg)))).Perm (flat1 so un (opn p) S) := by
    have g2 := gs.2
    rw [hAB, List.map_append, List.map_cons, flats_app] at g2
    refine List.Perm.trans ?_ g2
    show (flat1 so un (opn p) (fil so un sg (nth (pts p) bp)) ++ (flats so un (opn p) (A.map (fil so un sg)) ++ flats so un (opn p) (B.map (fil so un sg)))).Perm (flats so un (opn p) (A.map (fil so un sg)) ++ (flat1 so un (opn p) (fil so un sg (nth (pts p) bp)) ++ flats so un (opn p) (B.map (fil so un sg))))
    rw [← List.append_assoc, ← List.append_assoc]
    exact List.Perm.append_right _ List.perm_append_comm
  have swE : ∀ wy : Nat, SolG so un ((p, left, S) :: C0) be sg ∧ FST (chs so un (nth (pts p) bp) wy) (flat1 so un (opn p) S) ∧ fil so un sg (nth (pts p) bp) = SS so un (opn p) S (chs so un (nth (pts p) bp) wy) → SW so un (p, left, S) C0 be bp wy sg := fun wy hw => by
    unfold SW
    rw [if_neg (by show ¬ kd so p = 1; omega)]
    exact hw
  by_cases z2 : sto so un (nth (pts p) bp) = 2
  · rw [if_pos z2] at hlim
    have hone : isOneP so un (nth (pts p) bp) := by
      have z2' := z2
      unfold sto at z2'
      by_cases h5 : hd0 (nth (pts p) bp) < 512
      · rw [if_pos h5] at z2'; exact absurd z2' (by decide)
      · rw [if_neg h5] at z2'
        refine ⟨by omega, ?_⟩
        by_cases y9 : so (hd0 (nth (pts p) bp) / 512 - 1) = 2
        · right
          apply Classical.byContradiction
          intro y8
          rw [if_pos ⟨y9, y8⟩] at z2'; exact absurd z2' (by decide)
        · exact Or.inl y9
    have hpln : plain so un (opn p) (nth (pts p) bp) := (nf_sum hsu ho s2 hp.1 s4 (by have := tok_len hp; omega)).1 _ (nth_mem hbl)
    have hpl2 := (one_plain hsu ho s2 tq.1.1 lq hv hpln hone).1
    have hX : flat1 so un (opn p) (fil so un sg (nth (pts p) bp)) = [fil so un sg (nth (pts p) bp)] := hpl2
    have hm : fil so un sg (nth (pts p) bp) ∈ flat1 so un (opn p) S := hperm.mem_iff.mp (List.mem_append_left _ (by rw [hX]; exact List.mem_singleton.mpr rfl))
    obtain ⟨i, i1, i2, i3⟩ := least_ix hm
    have i6 : i < 6 := by omega
    obtain ⟨c1, c2, c3⟩ := pc_pow ⟨i, i6⟩
    have hch : chs so un (nth (pts p) bp) i = 2 ^ i := by unfold chs; rw [if_pos z2]
    have hbits : ∀ j : Nat, (2 ^ i).testBit j = true → j = i := fun j hj => by
      rw [Nat.testBit_two_pow] at hj
      exact (of_decide_eq_true hj).symm
    refine ⟨i, by rw [hlim]; exact i1, swE i ⟨h, ?_, ?_⟩⟩
    · rw [hch]
      intro j _ hj
      have e := hbits _ hj
      rw [e, i2]
      exact i3 j (by omega)
    · rw [hch]
      have hl1 : (sl (2 ^ i) (flat1 so un (opn p) S)).length = 1 := by
        rw [sl_pc h6H (fun k hk9 => by
          cases hq9 : (2 ^ i).testBit k with
          | false => rfl
          | true => have := hbits _ hq9; omega)]
        exact c1
      unfold SS
      rw [sl_one hl1 i1 c2, mkt_one s2, i2]
  · rw [if_neg z2] at hlim
    obtain ⟨wy, w1, w2, w3, w4⟩ := first_ex (flat1 so un (opn p) S).reverse _ _ (by rw [List.length_reverse]; exact h6H) (by rw [List.reverse_reverse]; exact hperm)
    rw [List.length_reverse] at w1
    rw [List.reverse_reverse] at w2 w4
    have hch : chs so un (nth (pts p) bp) wy = wy := by unfold chs; rw [if_neg z2]
    refine ⟨wy, by rw [hlim]; exact w1, swE wy ⟨h, by rw [hch]; exact w4, ?_⟩⟩
    rw [hch]
    have wH : wfs (flat1 so un (opn p) S) := fun t ht9 => (b4 t ht9).1.1
    have wX : wfs (flat1 so un (opn p) (fil so un sg (nth (pts p) bp))) := fun t ht9 => (a4 t ht9).1.1
    have e := srt_of wX w2 ((srt_pw wH b2).sublist sl_sub)
    unfold SS
    rw [e, a2, a3]
