/-! ===== the stepper: the whole term, from a place to its parent ===== -/
theorem prs_map {β : Type} {f : Nat × List Nat → β} : ∀ {qs : List (List Nat)} {a : Nat}, (prs a qs).map f = (List.range qs.length).map (fun i => f (a + (qs.take i).flatten.length, nth qs i))
  | [], _ => rfl
  | q :: qs, a => by
    show f (a, q) :: (prs (a + q.length) qs).map f = _
    rw [prs_map, List.length_cons, List.range_succ_eq_map, List.map_cons, List.map_map]
    congr 1
    apply List.map_congr_left
    intro i _
    show f (a + q.length + (qs.take i).flatten.length, nth qs i) = f (a + ((q :: qs).take (i + 1)).flatten.length, nth (q :: qs) (i + 1))
    rw [List.take_succ_cons, List.flatten_cons, List.length_append, Nat.add_assoc]; rfl
theorem range_nth {qs : List (List Nat)} : (List.range qs.length).map (fun i => nth qs i) = qs := by
  have := map_nth (ps := qs) (g := fun x => x)
  rw [List.map_id'] at this
  exact this.symm
theorem part_pos {qs : List (List Nat)} {i : Nat} (h : i < qs.length) : (qs.take i).flatten.length + (nth qs i).length ≤ qs.flatten.length := by
  have := congrArg (fun l => (List.flatten l).length) (nth_split h)
  simp only [List.flatten_append, List.flatten_cons, List.length_append] at this
  omega
theorem part_ord {qs : List (List Nat)} {i j : Nat} (h : i < j) (hj : j ≤ qs.length) : (qs.take i).flatten.length + (nth qs i).length ≤ (qs.take j).flatten.length := by
  have e : (qs.take j).take i = qs.take i := by rw [List.take_take, Nat.min_eq_left (by omega)]
  have l : i < (qs.take j).length := by rw [List.length_take]; omega
  have n : nth (qs.take j) i = nth qs i := by
    unfold nth
    rw [List.getD_eq_getElem?_getD, List.getD_eq_getElem?_getD, List.getElem?_take, if_pos h]
  have := part_pos l
  rw [e, n] at this
  exact this
/-- where the place is not within, all stays -/
theorem rebT_out {so : Nat → Nat} {un : Nat → Option Nat} {p : Nat} {b : List Nat} : ∀ (d a : Nat) (t : List Nat), nok so un t → t.length ≤ d → (p < a ∨ a + t.length ≤ p) → rebT so un p b d (a, t) = t
  | 0, a, t, h, hd, _ => absurd (wf_pos h.1.1) (by omega)
  | d + 1, a, [], h, _, _ => absurd (wf_pos h.1.1) (by simp)
  | d + 1, a, c :: l, h, hd, hp => by
    simp only [List.length_cons] at hd hp
    rw [rebT_s, if_neg (by omega)]
    by_cases q4 : ar c = 0
    · rw [if_pos q4]
    · rw [if_neg q4, prs_map]
      obtain ⟨k1, k2, k3⟩ := pts_of h.1.1
      have e : (List.range (pts (c :: l)).length).map (fun i => rebT so un p b d (a + 1 + ((pts (c :: l)).take i).flatten.length, nth (pts (c :: l)) i)) = pts (c :: l) := by
        refine Eq.trans (List.map_congr_left (fun i hi => ?_)) range_nth
        have hi' := List.mem_range.mp hi
        have hq := nth_mem hi'
        have pp := part_pos hi'
        rw [k3] at pp
        have := pts_short h.1.1 hq
        exact rebT_out d _ _ (nok_pts h _ hq) (by omega) (by omega)
      rw [e]
      exact nf_std h.2 q4
def setp (qs : List (List Nat)) (j : Nat) (b : List Nat) : List (List Nat) := (List.range qs.length).map (fun i => if i = j then b else nth qs i)
theorem seg2 : ∀ {ps : List (List Nat)} {P t S : List Nat}, wfs ps → wf 1 t → ps.flatten = P ++ (t ++ S) → ∃ (i : Nat) (P1 S1 : List Nat), i < ps.length ∧ nth ps i = P1 ++ (t ++ S1) ∧ P.length = (ps.take i).flatten.length + P1.length
  | [], P, t, S, _, ht, e => by
    have l := congrArg List.length e
    rw [List.length_append, List.length_append] at l
    have := wf_pos ht
    have : ([] : List (List Nat)).flatten.length = 0 := rfl
    omega
  | q :: qs, P, t, S, hw, ht, e => by
    rw [List.flatten_cons] at e
    have hq := hw q List.mem_cons_self
    have hqs : wfs qs := fun z hz => hw z (List.mem_cons_of_mem _ hz)
    have next : ∀ (P' : List Nat), P = q ++ P' → qs.flatten = P' ++ (t ++ S) → ∃ (i : Nat) (P1 S1 : List Nat), i < (q :: qs).length ∧ nth (q :: qs) i = P1 ++ (t ++ S1) ∧ P.length = ((q :: qs).take i).flatten.length + P1.length := fun P' e1 e2 => by
      obtain ⟨i, P1, S1, z1, z2, z3⟩ := seg2 hqs ht e2
      refine ⟨i + 1, P1, S1, Nat.succ_lt_succ z1, z2, ?_⟩
      rw [List.take_succ_cons, List.flatten_cons, List.length_append, e1, List.length_append]
      omega
    rcases List.append_eq_append_iff.mp e with ⟨P', e1, e2⟩ | ⟨C, e1, e2⟩
    · exact next P' e1 e2
    · by_cases hC : C = []
      · subst hC
        exact next [] (by rw [e1]; simp) e2.symm
      · rw [e1] at hq
        obtain ⟨m, hm⟩ := wf_suf hq
        obtain ⟨l1, l2, g1, g2⟩ := wf_fst hm hC
        rw [g1, List.append_assoc] at e2
        have := (wf_uniq ht g2 e2).1
        refine ⟨0, P, l2, Nat.succ_pos _, ?_, ?_⟩
        · show q = _
          rw [e1, g1, this]
        · show P.length = 0 + P.length
          omega
/-- what is built at a part of a term is built at the term -/
theorem rebT_step {so : Nat → Nat} {un : Nat → Option Nat} {p k j : Nat} {b s : List Nat} (hs : wf 1 s) (hj : j < (pts s).length) (hk : k = p + 1 + off s j) : ∀ (d a : Nat) (t A B : List Nat), nok so un t → t.length ≤ d → t = A ++ (s ++ B) → a + A.length = p → rebT so un k b d (a, t) = rebT so un p (stand so un (opn s) (setp (pts s) j b)) d (a, t)
  | 0, a, t, _, _, h, hd, _, _ => absurd (wf_pos h.1.1) (by omega)
  | d + 1, a, [], _, _, h, _, _, _ => absurd (wf_pos h.1.1) (by simp)
  | d + 1, a, c :: l, A, B, h, hd, e, ha => by
    simp only [List.length_cons] at hd
    obtain ⟨k1, k2, k3⟩ := pts_of h.1.1
    have hoff := off_full hs
    have pj := part_pos hj
    have sl := congrArg List.length (row_pts hs)
    rw [List.length_cons] at sl
    have hklt : k < p + s.length := by
      have hq : 0 < (nth (pts s) j).length := wf_pos (by
        obtain ⟨c', l', rfl⟩ : ∃ (c' : Nat) (l' : List Nat), s = c' :: l' := by
          cases s with
          | nil => exact absurd (wf_pos hs) (by simp)
          | cons c' l' => exact ⟨c', l', rfl⟩
        exact (pts_of hs).1 _ (nth_mem hj))
      unfold off at hk
      omega
    have hpk : p < k := by unfold off at hk; omega
    rw [rebT_s, rebT_s]
    cases A with
    | nil =>
      rw [List.nil_append] at e
      have ap : a = p := ha
      have es : c :: l = s := (wf_uniq h.1.1 hs (r := []) (by rw [List.append_nil]; exact e)).1
      rw [if_neg (show ¬ a = k by omega), if_pos ap]
      have q4 : ar c ≠ 0 := by
        rw [← k2, es]
        omega
      rw [if_neg q4, prs_map]
      have eo : c / 512 - 1 = opn s := by rw [← es]; rfl
      rw [eo, es]
      congr 1
      unfold setp
      apply List.map_congr_left
      intro i hi
      have hi' := List.mem_range.mp hi
      have hq := nth_mem hi'
      have nq : nok so un (nth (pts s) i) := nok_pts (by rw [← es]; exact h) _ hq
      have lq := pts_short h.1.1 (by rw [es]; exact hq)
      have l0 := wf_pos nq.1.1
      by_cases z : i = j
      · subst z
        rw [if_pos rfl]
        have ek : a + 1 + ((pts s).take i).flatten.length = k := by rw [hk, ap]; rfl
        obtain ⟨d', rfl⟩ : ∃ d' : Nat, d = d' + 1 := ⟨d - 1, by omega⟩
        show (if a + 1 + ((pts s).take i).flatten.length = k then b else _) = b
        rw [if_pos ek]
      · rw [if_neg z]
        refine rebT_out d _ _ nq (by omega) ?_
        unfold off at hk
        rcases Nat.lt_or_gt_of_ne z with g | g
        · have := part_ord (qs := pts s) g (by omega)
          right; omega
        · have := part_ord (qs := pts s) g (by omega)
          have hq2 : 0 < (nth (pts s) j).length := wf_pos (nok_pts (t := s) (by rw [← es]; exact h) _ (nth_mem hj)).1.1
          left; omega
    | cons c' A =>
      have el : l = A ++ (s ++ B) := (List.cons.inj e).2
      rw [List.length_cons] at ha
      rw [if_neg (show ¬ a = k by omega), if_neg (show ¬ a = p by omega)]
      by_cases q4 : ar c = 0
      · rw [if_pos q4, if_pos q4]
      · rw [if_neg q4, if_neg q4, prs_map, prs_map]
        congr 1
        apply List.map_congr_left
        intro i hi
        have hi' := List.mem_range.mp hi
        have hq := nth_mem hi'
        have nq : nok so un (nth (pts (c :: l)) i) := nok_pts h _ hq
        have lq := pts_short h.1.1 hq
        obtain ⟨i0, P1, S1, z1, z2, z3⟩ := seg2 k1 hs (by rw [k3]; exact el)
        have l0 := congrArg List.length z2
        rw [List.length_append, List.length_append] at l0
        by_cases z : i = i0
        · subst z
          exact rebT_step hs hj hk d _ _ P1 S1 nq (by omega) z2 (by omega)
        · have outs : ∀ x : Nat, p ≤ x → x < p + s.length → (x < a + 1 + ((pts (c :: l)).take i).flatten.length ∨ a + 1 + ((pts (c :: l)).take i).flatten.length + (nth (pts (c :: l)) i).length ≤ x) := fun x x1 x2 => by
            rcases Nat.lt_or_gt_of_ne z with g | g
            · have := part_ord (qs := pts (c :: l)) g (by omega)
              right; omega
            · have := part_ord (qs := pts (c :: l)) g (by omega)
              left; omega
          rw [rebT_out d _ _ nq (by omega) (outs k (by omega) hklt), rebT_out d _ _ nq (by omega) (outs p (Nat.le_refl _) (by omega))]
theorem reb_step {so ma : Nat → Nat} {un : Nat → Option Nat} {nv : Nat} {w b : List Nat} {k p j : Nat} (h : tok so un ma nv w) (hP : PTH w k p j) : reb so un k b w = reb so un p (stand so un (opn (sbt w p)) (setp (pts (sbt w p)) j b)) w := by
  obtain ⟨c1, c2, c3, c4⟩ := hP
  obtain ⟨A, s, B, e1, e2, e3⟩ := sub_nok h.1 c2
  have es : sbt w p = s := by rw [e1, ← e2]; exact sbt_app e3.1.1
  rw [es] at c3 c4 ⊢
  have h20 := tok_len h
  exact rebT_step e3.1.1 c3 c4 21 0 w A B h.1 (by omega) e1 (by omega)
theorem reb_0 {so ma : Nat → Nat} {un : Nat → Option Nat} {nv : Nat} {w b : List Nat} (h : tok so un ma nv w) : reb so un 0 b w = b := by
  cases w with
  | nil => exact absurd (wf_pos h.1.1.1) (by simp)
  | cons c l =>
    unfold reb
    rw [rebT_s, if_pos rfl]
