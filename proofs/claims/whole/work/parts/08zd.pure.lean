/-! ===== parts of a sum without those of another; each choice has a first form ===== -/
theorem bit_hi {w k : Nat} (h : w < 64) (hk : 6 ≤ k) : w.testBit k = false := Nat.testBit_lt_two_pow (Nat.lt_of_lt_of_le h (by
  have : 2 ^ 6 ≤ 2 ^ k := Nat.pow_le_pow_right (by decide) hk
  exact this))
theorem lx_wo36_c {n x op no nv b p' : Nat} {ga v : Nat → Nat → Int32} {w : Nat → Nat → Int64} {las : Nat → Bool} {N : List (List Nat)} {so ma : Nat → Nat} {un : Nat → Option Nat} {nmL : Nat → List Nat} {P2 P3 x6 x7 : Int32} {k15 : Int32 → Int32 → Int32 → Option Int32} (he : ENV ga las so ma un no nv nmL) (hT : TB v w las N) (hx : x < N.length) (h2 : so op = 2) (hbt : b < 64) (hbl : ∀ k : Nat, (flat1 so un op (nth N x)).length ≤ k → b.testBit k = false) (hp : p' < N.length) :
    ∀ (d i m : Nat), i + d = 6 → d < m → (∀ z : Nat, z < i → b.testBit z = true → nth (flat1 so un op (nth N x)) z ≠ nth N p') →
      (∃ z : Nat, z < (flat1 so un op (nth N x)).length ∧ b.testBit z = true ∧ nth (flat1 so un op (nth N x)) z = nth N p' ∧ lx_X8_without_36 n v ga (nI x) (nI op) P2 P3 k15 m (nI b) x6 x7 (nI p') (nI i) = k15 (nI (clr b z)) x6 (x7 + 1)) ∨
      ((∀ z : Nat, b.testBit z = true → nth (flat1 so un op (nth N x)) z ≠ nth N p') ∧ lx_X8_without_36 n v ga (nI x) (nI op) P2 P3 k15 m (nI b) x6 x7 (nI p') (nI i) = some (-1))
  | 0, i, m + 1, hi, _, hz => by
    have ei : i = 6 := by omega
    subst ei
    refine Or.inr ⟨fun z h1 => ?_, ?_⟩
    · by_cases q : z < 6
      · exact hz z q h1
      · rw [bit_hi hbt (by omega)] at h1; exact nomatch h1
    · show bx_X8_without_36 n v ga (nI x) (nI op) P2 P3 k15 (lx_X8_without_36 n v ga (nI x) (nI op) P2 P3 k15 m) (nI b) x6 x7 (nI p') (nI 6) = _
      unfold bx_X8_without_36 jx_X8_without_72
      rw [if_pos (by decide), if_neg (by decide)]
  | d + 1, i, m + 1, hi, hm, hz => by
    obtain ⟨a1, h6, a3⟩ := asSum_c (n := n) he hT hx h2
    have h1 := hT.1
    have hsh : lx_X8_without_36 n v ga (nI x) (nI op) P2 P3 k15 (m + 1) (nI b) x6 x7 (nI p') (nI i) = bx_X8_without_36 n v ga (nI x) (nI op) P2 P3 k15 (lx_X8_without_36 n v ga (nI x) (nI op) P2 P3 k15 m) (nI b) x6 x7 (nI p') (nI i) := rfl
    rw [hsh]
    unfold bx_X8_without_36
    rw [if_neg (by rw [show (6 : Int32) = nI 6 from rfl, nI_le_iff (by decide) (by omega)]; omega), xl_eq, xl_eq]
    cases hb9 : b.testBit i with
    | false =>
      rw [if_pos ((bit0 hbt (by omega)).mpr hb9), xl_eq, nI_1]
      refine lx_wo36_c he hT hx h2 hbt hbl hp d (i + 1) m (by omega) (by omega) (fun z hz9 h0 => ?_)
      by_cases e : z = i
      · subst e; rw [hb9] at h0; exact nomatch h0
      · exact hz z (by omega) h0
    | true =>
      have hlt : i < (flat1 so un op (nth N x)).length := by
        apply Classical.byContradiction
        intro g
        rw [hbl i (by omega)] at hb9; exact nomatch hb9
      obtain ⟨p, p1, p2, p3⟩ := a3 i hlt
      rw [if_neg (fun q => by rw [(bit0 hbt (by omega)).mp q] at hb9; exact nomatch hb9), p3, xb1_s]
      by_cases g : p = p'
      · refine Or.inl ⟨i, hlt, hb9, by rw [← p2, g], ?_⟩
        have c := (clr_ok ⟨b, hbt⟩ ⟨i, by omega⟩).2.1
        have c' : (nI b &&& (((1 : Int32) <<< (nI i &&& 31)) ^^^ (-1))) = nI (clr b i) := c
        rw [if_pos (by rw [g])]
        unfold jx_X8_without_72
        rw [if_pos (by rw [show (6 : Int32) = nI 6 from rfl, nI_lt_iff (by omega) (by decide)]; omega), xl_eq, xl_eq, xl_eq, c', xl_eq]
      · rw [if_neg (by rw [nI_inj (by omega) (by omega)]; exact g), xl_eq, nI_1]
        refine lx_wo36_c he hT hx h2 hbt hbl hp d (i + 1) m (by omega) (by omega) (fun z hz9 h0 => ?_)
        by_cases e : z = i
        · subst e
          intro e9
          exact g (nth_inj hT.2.2.1 p1 hp (by rw [p2, e9]))
        · exact hz z (by omega) h0
/-- what is left of some parts without others -/
def WOT (bits : Nat) (H O : List (List Nat)) (o : Option Int32) : Prop :=
  (∃ b : Nat, b < 64 ∧ (∀ k : Nat, b.testBit k = true → bits.testBit k = true) ∧ o = some (nI b) ∧ (sl bits H).Perm (O ++ sl b H)) ∨ (o = some (-1) ∧ ∀ R : List (List Nat), ¬ (sl bits H).Perm (O ++ R))
theorem lx_wo15_c {n x y op no nv bits : Nat} {ga v : Nat → Nat → Int32} {w : Nat → Nat → Int64} {las : Nat → Bool} {N : List (List Nat)} {so ma : Nat → Nat} {un : Nat → Option Nat} {nmL : Nat → List Nat} {P2 : Int32} (hn : 100000 ≤ n) (he : ENV ga las so ma un no nv nmL) (hT : TB v w las N) (hx : x < N.length) (hy : y < N.length) (h2 : so op = 2) (hbl0 : ∀ k : Nat, (flat1 so un op (nth N x)).length ≤ k → bits.testBit k = false) :
    ∀ (d k m b : Nat), k + d = (flat1 so un op (nth N y)).length → d < m → b < 64 → (∀ k : Nat, b.testBit k = true → bits.testBit k = true) → (sl bits (flat1 so un op (nth N x))).Perm ((flat1 so un op (nth N y)).take k ++ sl b (flat1 so un op (nth N x))) →
      WOT bits (flat1 so un op (nth N x)) (flat1 so un op (nth N y)) (lx_X8_without_15 n v ga (nI x) (nI op) P2 (nI y) m (nI b) (nI (flat1 so un op (nth N y)).length) (nI k))
  | 0, k, m + 1, b, hk, _, hb9, hsub, hp => by
    have ek : k = (flat1 so un op (nth N y)).length := by omega
    refine Or.inl ⟨b, hb9, hsub, ?_, by rw [ek, List.take_length] at hp; exact hp⟩
    show bx_X8_without_15 n v ga (nI x) (nI op) P2 (nI y) (lx_X8_without_15 n v ga (nI x) (nI op) P2 (nI y) m) (nI b) (nI (flat1 so un op (nth N y)).length) (nI k) = _
    unfold bx_X8_without_15
    rw [ek, if_pos (Int32.le_refl _)]
  | d + 1, k, m + 1, b, hk, hm, hb9, hsub, hp => by
    obtain ⟨a1, h6, a3⟩ := asSum_c (n := n) he hT hy h2
    obtain ⟨p, p1, p2, p3⟩ := a3 k (by omega)
    have hbl : ∀ z : Nat, (flat1 so un op (nth N x)).length ≤ z → b.testBit z = false := fun z hz => by
      cases q : b.testBit z with
      | false => rfl
      | true => have := hsub z q; rw [hbl0 z hz] at this; exact nomatch this
    have hsh : lx_X8_without_15 n v ga (nI x) (nI op) P2 (nI y) (m + 1) (nI b) (nI (flat1 so un op (nth N y)).length) (nI k) = bx_X8_without_15 n v ga (nI x) (nI op) P2 (nI y) (lx_X8_without_15 n v ga (nI x) (nI op) P2 (nI y) m) (nI b) (nI (flat1 so un op (nth N y)).length) (nI k) := rfl
    rw [hsh]
    unfold bx_X8_without_15
    rw [if_neg (by rw [nI_le_iff (by omega) (by omega)]; omega), p3, xb1_s]
    have e0 : nI 0 = (0 : Int32) := rfl
    have inner := lx_wo36_c (n := n) (P2 := P2) (P3 := nI y) (x6 := nI (flat1 so un op (nth N y)).length) (x7 := nI k) (k15 := lx_X8_without_15 n v ga (nI x) (nI op) P2 (nI y) m) he hT hx h2 hb9 hbl p1 6 0 n rfl (by omega) (fun z hz => absurd hz (Nat.not_lt_zero _))
    rw [e0, p2] at inner
    rcases inner with ⟨z, z1, z2, z3, z4⟩ | ⟨z1, z2⟩
    · rw [z4, nI_1]
      have hz6 : z < 6 := by
        apply Classical.byContradiction
        intro g
        rw [bit_hi hb9 (by omega)] at z2; exact nomatch z2
      obtain ⟨c1, c2, c3⟩ := clr_ok ⟨b, hb9⟩ ⟨z, hz6⟩
      have cb : ∀ j : Nat, (clr b z).testBit j = (b.testBit j && decide (j ≠ z)) := fun j => by
        by_cases g : j < 6
        · exact c3 ⟨j, g⟩
        · rw [bit_hi c1 (by omega), bit_hi hb9 (by omega)]; rfl
      refine lx_wo15_c hn he hT hx hy h2 hbl0 d (k + 1) m (clr b z) (by omega) (by omega) c1 (fun j hj => by
        rw [cb j] at hj
        exact hsub j (by simp at hj; exact hj.1)) ?_
      have sc := sel_clr (s := b) (s' := clr b z) (i := z) (qs := flat1 so un op (nth N x)) (k := 0) (Nat.zero_le _) (by omega) z2 (by rw [cb z]; simp) (fun j hj _ _ => by rw [cb j]; simp [hj])
      rw [Nat.sub_zero, z3] at sc
      rw [take_nth (by omega), List.append_assoc]
      exact hp.trans (List.Perm.append_left _ sc)
    · rw [z2]
      refine Or.inr ⟨rfl, fun R hR => ?_⟩
      have e1 : flat1 so un op (nth N y) = (flat1 so un op (nth N y)).take k ++ nth (flat1 so un op (nth N y)) k :: (flat1 so un op (nth N y)).drop (k + 1) := by
        rw [← drop_nth (by omega), List.take_append_drop]
      have e2 : flat1 so un op (nth N y) ++ R = (flat1 so un op (nth N y)).take k ++ (nth (flat1 so un op (nth N y)) k :: ((flat1 so un op (nth N y)).drop (k + 1) ++ R)) := by
        conv => lhs; rw [e1]
        rw [List.append_assoc]; rfl
      rw [e2] at hR
      have pm := (List.perm_append_left_iff _).mp (hp.symm.trans hR)
      have hm9 : nth (flat1 so un op (nth N y)) k ∈ sl b (flat1 so un op (nth N x)) := pm.mem_iff.mpr List.mem_cons_self
      obtain ⟨i, i1, i2, i3⟩ := sel_mem_bit hm9
      rw [Nat.zero_add] at i2
      exact z1 i i2 i3
theorem fx_without_c {n x y op no nv bits : Nat} {ga v : Nat → Nat → Int32} {w : Nat → Nat → Int64} {las : Nat → Bool} {N : List (List Nat)} {so ma : Nat → Nat} {un : Nat → Option Nat} {nmL : Nat → List Nat} (hn : 100000 ≤ n) (he : ENV ga las so ma un no nv nmL) (hT : TB v w las N) (hx : x < N.length) (hy : y < N.length) (h2 : so op = 2) (hbt : bits < 64) (hbl : ∀ k : Nat, (flat1 so un op (nth N x)).length ≤ k → bits.testBit k = false) :
    WOT bits (flat1 so un op (nth N x)) (flat1 so un op (nth N y)) (fx_X8_without n v ga (nI x) (nI op) (nI bits) (nI y)) := by
  obtain ⟨a1, h6, a3⟩ := asSum_c (n := n) he hT hy h2
  unfold fx_X8_without
  rw [a1, xb1_s]
  exact lx_wo15_c hn he hT hx hy h2 hbl (flat1 so un op (nth N y)).length 0 n bits (by omega) (by omega) hbt (fun k hk => hk) (by rw [List.take_zero]; exact List.Perm.refl _)
theorem sel_snoc2 {s : Nat} {o : Bool} {q : List Nat} : ∀ {qs : List (List Nat)} {k : Nat}, sel s o k (qs ++ [q]) = sel s o k qs ++ (if s.testBit (k + qs.length) = o then [] else [q])
  | [], k => by
    show (if s.testBit k = o then [] else [q]) = [] ++ _
    rw [List.nil_append]; rfl
  | x :: qs, k => by
    show (if s.testBit k = o then sel s o (k + 1) (qs ++ [q]) else x :: sel s o (k + 1) (qs ++ [q])) = (if s.testBit k = o then sel s o (k + 1) qs else x :: sel s o (k + 1) qs) ++ _
    rw [sel_snoc2, List.length_cons, show k + 1 + qs.length = k + (qs.length + 1) by omega]
    by_cases z : s.testBit k = o
    · rw [if_pos z, if_pos z]
    · rw [if_neg z, if_neg z]; rfl
theorem sel_same2 {s s' : Nat} {o : Bool} : ∀ {qs : List (List Nat)} {k : Nat}, (∀ j : Nat, k ≤ j → j < k + qs.length → s'.testBit j = s.testBit j) → sel s' o k qs = sel s o k qs
  | [], _, _ => rfl
  | x :: qs, k, h => by
    rw [List.length_cons] at h
    show (if s'.testBit k = o then sel s' o (k + 1) qs else x :: sel s' o (k + 1) qs) = (if s.testBit k = o then sel s o (k + 1) qs else x :: sel s o (k + 1) qs)
    rw [h k (by omega) (by omega), sel_same2 (qs := qs) (k := k + 1) (fun j h1 h2 => h j (by omega) (by omega))]
theorem sel_not {s : Nat} : ∀ {qs : List (List Nat)} {k i : Nat}, i < qs.length → s.testBit (k + i) = false → nth qs i ∈ sel s true k qs
  | [], _, _, h, _ => absurd h (Nat.not_lt_zero _)
  | x :: qs, k, 0, _, h => by
    show nth (x :: qs) 0 ∈ (if s.testBit k = true then sel s true (k + 1) qs else x :: sel s true (k + 1) qs)
    rw [Nat.add_zero] at h
    rw [h, if_neg (by decide)]
    exact List.mem_cons_self
  | x :: qs, k, i + 1, hi, h => by
    rw [List.length_cons] at hi
    have ih := sel_not (s := s) (qs := qs) (k := k + 1) (i := i) (by omega) (by rw [show k + 1 + i = k + (i + 1) by omega]; exact h)
    show nth (x :: qs) (i + 1) ∈ (if s.testBit k = true then sel s true (k + 1) qs else x :: sel s true (k + 1) qs)
    have e : nth (x :: qs) (i + 1) = nth qs i := rfl
    rw [e]
    by_cases z : s.testBit k = true
    · rw [if_pos z]; exact ih
    · rw [if_neg z]; exact List.mem_cons_of_mem _ ih
theorem addbit : ∀ n : Fin 6, ∀ w : Fin 64, w.val < 2 ^ n.val → w.val + 2 ^ n.val < 2 ^ (n.val + 1) ∧ w.val + 2 ^ n.val < 64 ∧ ∀ j : Fin 6, (w.val + 2 ^ n.val).testBit j.val = (w.val.testBit j.val || decide (j.val = n.val)) := by decide +kernel
theorem pow64 {n : Nat} (h : n ≤ 6) : 2 ^ n ≤ 64 := by
  have : 2 ^ n ≤ 2 ^ 6 := Nat.pow_le_pow_right (by decide) h
  exact this
theorem first_ex : ∀ (R X Y : List (List Nat)), R.length ≤ 6 → (X ++ Y).Perm R.reverse → ∃ w : Nat, w < 2 ^ R.length ∧ (sl w R.reverse).Perm X ∧ (sel w true 0 R.reverse).Perm Y ∧ FST w R.reverse
  | [], X, Y, _, h => by
    have e : X ++ Y = [] := h.eq_nil
    obtain ⟨e1, e2⟩ := List.append_eq_nil_iff.mp e
    rw [e1, e2]
    exact ⟨0, by decide, List.Perm.refl _, List.Perm.refl _, fun i _ h1 => by rw [Nat.zero_testBit] at h1; exact nomatch h1⟩
  | q :: R, X, Y, hl, h => by
    rw [List.length_cons] at hl ⊢
    rw [List.reverse_cons] at h ⊢
    have h' : (X ++ Y).Perm (q :: R.reverse) := h.trans (List.perm_append_singleton q R.reverse)
    have hrl : R.reverse.length = R.length := List.length_reverse
    by_cases g : q ∈ Y
    · have pe := List.perm_cons_erase g
      have h2 : (X ++ Y.erase q).Perm R.reverse := by
        have : (q :: (X ++ Y.erase q)).Perm (q :: R.reverse) := (List.perm_middle.symm.trans (List.Perm.append_left X pe.symm)).trans h'
        exact this.cons_inv
      obtain ⟨w, w1, w2, w3, w4⟩ := first_ex R X (Y.erase q) (by omega) h2
      have wb : ∀ k : Nat, R.length ≤ k → w.testBit k = false := fun k hk => Nat.testBit_lt_two_pow (Nat.lt_of_lt_of_le w1 (Nat.pow_le_pow_right (by decide) hk))
      refine ⟨w, Nat.lt_of_lt_of_le w1 (Nat.pow_le_pow_right (by decide) (by omega)), ?_, ?_, fun i h0 h1 => ?_⟩
      · show (sel w false 0 (R.reverse ++ [q])).Perm X
        rw [sel_snoc2, hrl, wb _ (by omega), if_pos rfl, List.append_nil]; exact w2
      · rw [sel_snoc2, hrl, wb _ (by omega), if_neg (by decide)]
        exact ((List.perm_append_singleton q _).trans (w3.cons q)).trans pe.symm
      · by_cases z : i + 1 < R.length
        · rw [nth_app1 (by omega), nth_app1 (by omega)]
          exact w4 i h0 h1
        · rw [wb _ (by omega)] at h1; exact nomatch h1
    · have gx : q ∈ X := by
        have : q ∈ X ++ Y := h'.mem_iff.mpr List.mem_cons_self
        exact (List.mem_append.mp this).elim id (fun z => absurd z g)
      have pe := List.perm_cons_erase gx
      have h2 : (X.erase q ++ Y).Perm R.reverse := by
        have : (q :: (X.erase q ++ Y)).Perm (q :: R.reverse) := (List.Perm.append_right Y pe.symm).trans h'
        exact this.cons_inv
      obtain ⟨w, w1, w2, w3, w4⟩ := first_ex R (X.erase q) Y (by omega) h2
      have wb : ∀ k : Nat, R.length ≤ k → w.testBit k = false := fun k hk => Nat.testBit_lt_two_pow (Nat.lt_of_lt_of_le w1 (Nat.pow_le_pow_right (by decide) hk))
      have w64 : w < 64 := Nat.lt_of_lt_of_le w1 (pow64 (by omega))
      obtain ⟨c1, c2, c3⟩ := addbit ⟨R.length, by omega⟩ ⟨w, w64⟩ w1
      have cb : ∀ j : Nat, (w + 2 ^ R.length).testBit j = (w.testBit j || decide (j = R.length)) := fun j => by
        by_cases z : j < 6
        · exact c3 ⟨j, z⟩
        · rw [bit_hi c2 (by omega), bit_hi w64 (by omega), decide_eq_false (by omega)]; rfl
      have same : ∀ o : Bool, sel (w + 2 ^ R.length) o 0 R.reverse = sel w o 0 R.reverse := fun o => sel_same2 (fun j _ hj => by
        rw [cb j, decide_eq_false (by omega), Bool.or_false])
      have bn9 : (w + 2 ^ R.length).testBit (0 + R.reverse.length) = true := by rw [Nat.zero_add, hrl, cb, decide_eq_true rfl, Bool.or_true]
      refine ⟨w + 2 ^ R.length, c1, ?_, ?_, fun i h0 h1 => ?_⟩
      · show (sel (w + 2 ^ R.length) false 0 (R.reverse ++ [q])).Perm X
        rw [sel_snoc2, bn9, if_neg (by decide), same]
        exact ((List.perm_append_singleton q _).trans (w2.cons q)).trans pe.symm
      · rw [sel_snoc2, bn9, if_pos rfl, List.append_nil, same]
        exact w3
      · rw [cb] at h0 h1
        by_cases z : i + 1 < R.length
        · rw [nth_app1 (by omega), nth_app1 (by omega)]
          rw [decide_eq_false (by omega), Bool.or_false] at h0 h1
          exact w4 i h0 h1
        · by_cases y : i + 1 = R.length
          · rw [decide_eq_false (by omega), Bool.or_false] at h0
            rw [nth_app1 (by omega), show i + 1 = R.reverse.length by omega, nth_app2]
            intro e
            have hm9 := sel_not (s := w) (qs := R.reverse) (k := 0) (i := i) (by omega) (by rw [Nat.zero_add]; exact h0)
            rw [e] at hm9
            exact g (w3.mem_iff.mp hm9)
          · rw [wb _ (by omega), decide_eq_false (by omega)] at h1; exact nomatch h1
