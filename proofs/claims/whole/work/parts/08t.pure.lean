/-! ===== nodes given back; nodes compared ===== -/
theorem nth_take {N : List (List Nat)} {k i : Nat} (h : i < k) : nth (N.take k) i = nth N i := by
  unfold nth
  rw [List.getD_eq_getElem?_getD, List.getD_eq_getElem?_getD, List.getElem?_take_of_lt h]
theorem TB_frame {v v' : Nat → Nat → Int32} {w : Nat → Nat → Int64} {las : Nat → Bool} {N : List (List Nat)} (h : TB v w las N) (h0 : v' 0 0 = v 0 0) (ha : ∀ a : Nat, 1 ≤ a → a ≤ 7 → v' a = v a) : TB v' w las N := by
  obtain ⟨h1, h2, h3, h4, h5⟩ := h
  refine ⟨h1, h0.trans h2, h3, fun i hi => ?_, fun z hz => ?_⟩
  · unfold nod
    rw [ha 1 (by decide) (by decide), ha 2 (by decide) (by decide), ha 3 (by decide) (by decide), ha 4 (by decide) (by decide), ha 5 (by decide) (by decide), ha 6 (by decide) (by decide)]
    exact h4 i hi
  · rw [ha 7 (by decide) (by decide), ha 5 (by decide) (by decide)]
    exact h5 z hz
theorem lx_giveBack_c {n f0 : Nat} {v : Nat → Nat → Int32} {w : Nat → Nat → Int64} {las : Nat → Bool} {N : List (List Nat)} (h : TB v w las N) (hf : f0 ≤ N.length) : ∀ (d m : Nat) (v1 : Nat → Nat → Int32), f0 + d ≤ N.length → d < m → (∀ a : Nat, a ≠ 7 → v1 a = v a) → (∀ z : Nat, z < 256 → v1 7 z = oI (lst (v 5) (nI z) (f0 + d))) →
    ∃ v' : Nat → Nat → Int32, lx_X8_giveBack_7 n (nI f0) m (nI (f0 + d) - 1) v1 = some v' ∧ TB v' w las (N.take f0) ∧ (∀ a : Nat, a ≠ 7 → a ≠ 0 → v' a = v a) ∧ ∀ j : Nat, j ≠ 0 → v' 0 j = v 0 j
  | 0, m + 1, v1, hd, _, ho, hb7 => by
    obtain ⟨h1, h2, h3, h4, h5⟩ := h
    have hp := nI_prd (k := f0) (by omega)
    refine ⟨mu v1 0 0 (nI f0), ?_, ⟨by rw [List.length_take]; omega, ?_, ?_, fun i hi => ?_, fun z hz => ?_⟩, fun a h7 h0 => ?_, fun j hj => ?_⟩
    · show bx_X8_giveBack_7 n (nI f0) (lx_X8_giveBack_7 n (nI f0) m) (nI (f0 + 0) - 1) v1 = _
      unfold bx_X8_giveBack_7
      rw [Nat.add_zero, if_pos (Int32.lt_iff_toInt_lt.mpr (by rw [hp, nI_toInt (by omega)]; omega)), xl_eq, ho 0 (by decide), h2]
      have m1 : (if nI f0 < nI N.length then nI f0 else nI N.length) = nI f0 := by
        by_cases q : f0 < N.length
        · rw [if_pos ((nI_lt_iff (by omega) (by omega)).mpr q)]
        · rw [if_neg (fun z => q ((nI_lt_iff (by omega) (by omega)).mp z)), show N.length = f0 by omega]
      have m2 : (if (0 : Int32) < nI f0 then nI f0 else (0 : Int32)) = nI f0 := by
        by_cases z : 0 < f0
        · have hz : (0 : Int32) < nI f0 := (nI_lt_iff (a := 0) (by decide) (by omega)).mpr z
          rw [if_pos hz]
        · have e : f0 = 0 := by omega
          rw [e]; rfl
      rw [m1, xl_eq, m2, xl_eq]
    · rw [mu_eq, upd_eq, List.length_take, Nat.min_eq_left hf]
    · exact h3.sublist (List.take_sublist _ _)
    · rw [List.length_take, Nat.min_eq_left hf] at hi
      have := h4 i (by omega)
      unfold nod at this ⊢
      rw [mu_ne (by decide), mu_ne (by decide), mu_ne (by decide), mu_ne (by decide), mu_ne (by decide), mu_ne (by decide), ho 1 (by decide), ho 2 (by decide), ho 3 (by decide), ho 4 (by decide), ho 5 (by decide), ho 6 (by decide), nth_take hi]
      obtain ⟨a, b, c, d⟩ := this
      refine ⟨a, b, fun j hj => ?_, d⟩
      obtain ⟨p, p1, p2, p3⟩ := c j hj
      exact ⟨p, p1, by rw [nth_take (by omega)]; exact p2, p3⟩
    · rw [mu_ne (by decide), mu_ne (by decide), ho 5 (by decide), hb7 z hz, List.length_take, Nat.min_eq_left hf, Nat.add_zero]
    · rw [mu_ne h0, ho a h7]
    · rw [mu_eq, upd_ne hj, ho 0 (by decide)]
  | d + 1, m + 1, v1, hd, hm, ho, hb7 => by
    have h1 := h.1
    have nd := TB_get h (show f0 + d < N.length by omega)
    obtain ⟨hs, hs1, hs2⟩ := hfin_ok (hsF (v 4) (ar (hd0 (nth N (f0 + d)))) (6 * (f0 + d)) (nI (cc (hd0 (nth N (f0 + d))))))
    have e5 : v 5 (f0 + d) = nI hs := by rw [nd.2.2.2.1, hs2]
    have e6 : v 6 (f0 + d) = oI (lst (v 5) (nI hs) (f0 + d)) := by rw [nd.2.2.2.2, e5]
    obtain ⟨v', y1, y2, y3, y4⟩ := lx_giveBack_c (n := n) h hf d m (mu v1 7 hs (v 6 (f0 + d))) (by omega) (by omega) (fun a ha => by rw [mu_ne ha, ho a ha]) (fun z hz => by
      rw [mu_eq]
      have b7 := hb7 z hz
      by_cases q : z = hs
      · rw [q, upd_eq, e6]
      · rw [upd_ne q, b7]
        show oI (if v 5 (f0 + d) = nI z then some (f0 + d) else lst (v 5) (nI z) (f0 + d)) = _
        rw [e5, if_neg (by rw [nI_inj (by omega) (by omega)]; omega)])
    refine ⟨v', ?_, y2, y3, y4⟩
    rw [← y1]
    show bx_X8_giveBack_7 n (nI f0) (lx_X8_giveBack_7 n (nI f0) m) (nI (f0 + (d + 1)) - 1) v1 = _
    unfold bx_X8_giveBack_7
    rw [i1, nI_sub (by omega), show f0 + (d + 1) - 1 = f0 + d by omega, if_neg (by rw [nI_lt_iff (by omega) (by omega)]; omega), if_neg (by rw [show (0 : Int32) = nI 0 from rfl, nI_lt_iff (by omega) (by decide)]; omega), if_neg (by rw [show (1024 : Int32) = nI 1024 from rfl, nI_le_iff (by decide) (by omega)]; omega), xr_n (by omega) (by decide), ho 5 (by decide), e5, if_neg (by rw [show (0 : Int32) = nI 0 from rfl, nI_lt_iff (by omega) (by decide)]; omega), if_neg (by rw [show (256 : Int32) = nI 256 from rfl, nI_le_iff (by decide) (by omega)]; omega), xr_n (by omega) (by decide), ho 6 (by decide), xwp_n hs1 (by decide), xl_eq]
    rw [← Int32.sub_eq_add_neg]
theorem fx_giveBack_c {n f0 : Nat} {v : Nat → Nat → Int32} {w : Nat → Nat → Int64} {las : Nat → Bool} {N : List (List Nat)} (hn : 100000 ≤ n) (h : TB v w las N) (hf : f0 ≤ N.length) :
    ∃ v' : Nat → Nat → Int32, fx_X8_giveBack n v (nI f0) = some v' ∧ TB v' w las (N.take f0) ∧ (∀ a : Nat, a ≠ 7 → a ≠ 0 → v' a = v a) ∧ ∀ j : Nat, j ≠ 0 → v' 0 j = v 0 j := by
  have h1 := h.1
  obtain ⟨v', y1, y2, y3, y4⟩ := lx_giveBack_c (n := n) h hf (N.length - f0) n v (by omega) (by omega) (fun _ _ => rfl) (fun z hz => by rw [show f0 + (N.length - f0) = N.length by omega]; exact h.2.2.2.2 z hz)
  refine ⟨v', ?_, y2, y3, y4⟩
  rw [show f0 + (N.length - f0) = N.length by omega] at y1
  unfold fx_X8_giveBack
  rw [h.2.1, xl_eq]
  exact y1
theorem fx_clear8_c {n : Nat} {v : Nat → Nat → Int32} {w : Nat → Nat → Int64} {las : Nat → Bool} {N : List (List Nat)} (hn : 100000 ≤ n) (h : TB v w las N) :
    ∃ v' : Nat → Nat → Int32, fx_X8_clear n v = some v' ∧ TB v' w las [] ∧ v' 0 1 = 0 := by
  obtain ⟨v', y1, y2, y3, y4⟩ := fx_giveBack_c (n := n) (f0 := 0) hn h (Nat.zero_le _)
  have e0 : nI 0 = (0 : Int32) := rfl
  rw [e0] at y1
  refine ⟨mu v' 0 1 0, ?_, TB_frame y2 (by rw [mu_eq, upd_ne (by decide)]) (fun a ha _ => mu_ne (by omega)), by rw [mu_eq, upd_eq]⟩
  unfold fx_X8_clear
  rw [y1, xb1_s, xl_eq]
/-- rows compared behind what is alike -/
theorem cmpL_pre : ∀ {X l r : List Nat}, cmpL (X ++ l) (X ++ r) = cmpL l r
  | [], _, _ => rfl
  | c :: X, l, r => by
    show (if c = c then cmpL (X ++ l) (X ++ r) else _) = _
    rw [if_pos rfl]; exact cmpL_pre
theorem cmpL_app : ∀ {a b r s : List Nat} {k : Nat}, wf k a → wf k b → a ≠ b → cmpL (a ++ r) (b ++ s) = cmpL a b
  | [], [], _, _, _, _, _, h => absurd rfl h
  | [], d :: b, _, _, k, ha, hb9, _ => by
    have e : k = 0 := ha
    subst e
    exact absurd hb9.1 (Nat.lt_irrefl 0)
  | c :: a, [], _, _, k, ha, hb9, _ => by
    have e : k = 0 := hb9
    subst e
    exact absurd ha.1 (Nat.lt_irrefl 0)
  | c :: a, d :: b, r, s, k, ha, hb9, h => by
    show (if c = d then cmpL (a ++ r) (b ++ s) else if c < d then -1 else 1) = if c = d then cmpL a b else if c < d then -1 else 1
    by_cases q : c = d
    · subst q
      rw [if_pos rfl, if_pos rfl]
      exact cmpL_app ha.2 hb9.2 (fun e => h (by rw [e]))
    · rw [if_neg q, if_neg q]
theorem cmpL_refl : ∀ {l : List Nat}, cmpL l l = 0
  | [] => rfl
  | c :: l => by
    show (if c = c then cmpL l l else _) = 0
    rw [if_pos rfl]; exact cmpL_refl
theorem first_diff {A B : List (List Nat)} (hl : A.length = B.length) (h : A ≠ B) : ∃ j : Nat, j < A.length ∧ nth A j ≠ nth B j ∧ ∀ z : Nat, z < j → nth A z = nth B z := by
  have hex : ∃ j : Nat, j < A.length ∧ nth A j ≠ nth B j := by
    apply Classical.byContradiction
    intro q
    refine h (nth_ext hl (fun j hj => ?_))
    apply Classical.byContradiction
    intro z
    exact q ⟨j, hj, z⟩
  obtain ⟨j, hj⟩ := hex
  obtain ⟨m, m1, m2, m3⟩ := least (P := fun j => j < A.length ∧ nth A j ≠ nth B j) j hj
  refine ⟨m, m2.1, m2.2, fun z hz => ?_⟩
  apply Classical.byContradiction
  intro q
  exact m3 z hz ⟨by omega, q⟩
theorem cmpL_parts : ∀ {A B : List (List Nat)} {j : Nat}, wfs A → wfs B → A.length = B.length → j < A.length → nth A j ≠ nth B j → (∀ z : Nat, z < j → nth A z = nth B z) → cmpL A.flatten B.flatten = cmpL (nth A j) (nth B j)
  | [], _, _, _, _, _, hj, _, _ => absurd hj (Nat.not_lt_zero _)
  | a :: A, [], _, _, _, hl, _, _, _ => nomatch hl
  | a :: A, b :: B, 0, ha, hb9, hl, hj, hne, hz => by
    rw [List.flatten_cons, List.flatten_cons]
    exact cmpL_app (ha a List.mem_cons_self) (hb9 b List.mem_cons_self) hne
  | a :: A, b :: B, j + 1, ha, hb9, hl, hj, hne, hz => by
    have e : a = b := hz 0 (by omega)
    subst e
    rw [List.flatten_cons, List.flatten_cons, cmpL_pre]
    exact cmpL_parts (fun q hq => ha q (List.mem_cons_of_mem _ hq)) (fun q hq => hb9 q (List.mem_cons_of_mem _ hq)) (by simpa using hl) (by simpa using hj) hne (fun z h => hz (z + 1) (by omega))
theorem lx_cmp93_c {n a b j0 : Nat} {v : Nat → Nat → Int32} {p0 p1 x5 : Int32} {k8 : Int32 → Int32 → Int32 → Option Int32} (ha : a < 1024) (hb9 : b < 1024) (h5 : j0 ≤ 5) (hne : v 4 (6 * a + j0) ≠ v 4 (6 * b + j0)) (hz : ∀ z : Nat, z < j0 → v 4 (6 * a + z) = v 4 (6 * b + z)) : ∀ (d i m : Nat), i + d = j0 → d < m → lx_X8_compare_93 n v p0 p1 k8 m (nI a) (nI b) x5 (nI i) = k8 (v 4 (6 * a + j0)) (v 4 (6 * b + j0)) (x5 + 1)
  | 0, i, m + 1, hi, _ => by
    have e : i = j0 := by omega
    subst e
    have jx : jx_X8_compare_133 n v p0 p1 k8 (nI a) (nI b) x5 (nI i) = k8 (v 4 (6 * a + i)) (v 4 (6 * b + i)) (x5 + 1) := by
      unfold jx_X8_compare_133
      rw [xl_eq, show (6 : Int32) = nI 6 from rfl, nI_mul (by omega) (by omega) (by decide), xl_eq, nI_add, xr_n (by omega) (by decide), xl_eq, nI_mul (by omega) (by omega) (by decide), xl_eq, nI_add, xr_n (by omega) (by decide), xl_eq, show a * 6 + i = 6 * a + i by omega, show b * 6 + i = 6 * b + i by omega]
    show bx_X8_compare_93 n v p0 p1 k8 (lx_X8_compare_93 n v p0 p1 k8 m) (nI a) (nI b) x5 (nI i) = _
    unfold bx_X8_compare_93
    by_cases q : (5 : Int32) ≤ nI i
    · rw [if_pos q, jx]
    · rw [if_neg q, xl_eq, show (6 : Int32) = nI 6 from rfl, nI_mul (by omega) (by omega) (by decide), xl_eq, nI_add, xr_n (by omega) (by decide), xl_eq, nI_mul (by omega) (by omega) (by decide), xl_eq, nI_add, xr_n (by omega) (by decide), show a * 6 + i = 6 * a + i by omega, show b * 6 + i = 6 * b + i by omega, if_neg hne, jx]
  | d + 1, i, m + 1, hi, hm => by
    show bx_X8_compare_93 n v p0 p1 k8 (lx_X8_compare_93 n v p0 p1 k8 m) (nI a) (nI b) x5 (nI i) = _
    unfold bx_X8_compare_93
    rw [if_neg (by rw [show (5 : Int32) = nI 5 from rfl, nI_le_iff (by decide) (by omega)]; omega), xl_eq, show (6 : Int32) = nI 6 from rfl, nI_mul (by omega) (by omega) (by decide), xl_eq, nI_add, xr_n (by omega) (by decide), xl_eq, nI_mul (by omega) (by omega) (by decide), xl_eq, nI_add, xr_n (by omega) (by decide), show a * 6 + i = 6 * a + i by omega, show b * 6 + i = 6 * b + i by omega, if_pos (hz i (by omega)), xl_eq, nI_1]
    exact lx_cmp93_c ha hb9 h5 hne hz d (i + 1) m (by omega) (by omega)
theorem lx_cmp8_c {n : Nat} {v : Nat → Nat → Int32} {w : Nat → Nat → Int64} {las : Nat → Bool} {N : List (List Nat)} {P0 P1 : Int32} (hn : 100000 ≤ n) (h : TB v w las N) : ∀ (d m a b deep : Nat), a < N.length → b < N.length → (nth N a).length ≤ d → deep + d ≤ 20 → d < m → lx_X8_compare_8 n v P0 P1 m (nI a) (nI b) (nI deep) = some (cmpL (nth N a) (nth N b))
  | 0, m, a, b, deep, ha, _, hd, _, _ => by
    have := wf_pos (TB_get h ha).1.1
    omega
  | d + 1, m + 1, a, b, deep, ha, hb9, hd, hdd, hm => by
    have h1 := h.1
    show bx_X8_compare_8 n v P0 P1 (lx_X8_compare_8 n v P0 P1 m) (nI a) (nI b) (nI deep) = _
    unfold bx_X8_compare_8
    rw [if_neg (by rw [show (20 : Int32) = nI 20 from rfl, nI_lt_iff (by decide) (by omega)]; omega)]
    by_cases q : a = b
    · subst q
      rw [if_pos rfl, cmpL_refl]
    · obtain ⟨⟨n1, n2, n3, n4, n5⟩, ⟨n6, _⟩, n7, _⟩ := TB_get h ha
      obtain ⟨⟨k1, k2, k3, k4, k5⟩, ⟨k6, _⟩, k7, _⟩ := TB_get h hb9
      have hne : nth N a ≠ nth N b := fun e => q (nth_inj h.2.2.1 ha hb9 e)
      have c1 := n2 _ (hd0_mem n1)
      have c2 := k2 _ (hd0_mem k1)
      have l1 := cc_lt c1
      have l2 := cc_lt c2
      rw [if_neg (by rw [nI_inj (by omega) (by omega)]; exact q), if_neg (by rw [show (0 : Int32) = nI 0 from rfl, nI_lt_iff (by omega) (by decide)]; omega), if_neg (by rw [show (0 : Int32) = nI 0 from rfl, nI_lt_iff (by omega) (by decide)]; omega), if_neg (by rw [show (1024 : Int32) = nI 1024 from rfl, nI_le_iff (by decide) (by omega)]; omega), if_pos (by rw [show (1024 : Int32) = nI 1024 from rfl, nI_lt_iff (by omega) (by decide)]; omega), xr_n (by omega) (by decide), xr_n (by omega) (by decide), n6, k6]
      have ra := row_pts n1
      have rb := row_pts k1
      by_cases z : hd0 (nth N a) = hd0 (nth N b)
      · rw [if_pos (by rw [z])]
        have la9 := pts_len n1
        have lb9 := pts_len k1
        have hpne : pts (nth N a) ≠ pts (nth N b) := fun e => hne (by rw [ra, rb, e, z])
        obtain ⟨j, j1, j2, j3⟩ := first_diff (by rw [la9, lb9, z]) hpne
        obtain ⟨p, p1, p2, p3⟩ := n7 j (by omega)
        obtain ⟨p', q1, q2, q3⟩ := k7 j (by rw [← z]; omega)
        have hpp : p ≠ p' := fun e => j2 (by rw [← p2, ← q2, e])
        have hwa : wfs (pts (nth N a)) := by
          cases hh : nth N a with
          | nil => rw [hh] at n1; exact absurd n1.symm (by decide)
          | cons c l => rw [hh] at n1; exact (pts_of n1).1
        have hwb : wfs (pts (nth N b)) := by
          cases hh : nth N b with
          | nil => rw [hh] at k1; exact absurd k1.symm (by decide)
          | cons c l => rw [hh] at k1; exact (pts_of k1).1
        have e := lx_cmp93_c (n := n) (v := v) (p0 := P0) (p1 := P1) (x5 := nI deep) (k8 := lx_X8_compare_8 n v P0 P1 m) (a := a) (b := b) (j0 := j) (by omega) (by omega) (by omega) (by rw [p3, q3, Ne, nI_inj (by omega) (by omega)]; exact hpp) (fun y hy => by
          obtain ⟨s, s1, s2, s3⟩ := n7 y (by omega)
          obtain ⟨s', t1, t2, t3⟩ := k7 y (by rw [← z]; omega)
          have : s = s' := nth_inj h.2.2.1 (by omega) (by omega) (by rw [s2, t2]; exact j3 y hy)
          rw [s3, t3, this]) j 0 n (by omega) (by omega)
        have e' : lx_X8_compare_93 n v P0 P1 (lx_X8_compare_8 n v P0 P1 m) n (nI a) (nI b) (nI deep) 0 = lx_X8_compare_8 n v P0 P1 m (v 4 (6 * a + j)) (v 4 (6 * b + j)) (nI deep + 1) := e
        have hlen : (nth (pts (nth N a)) j).length < (nth N a).length := by
          have m1 := mem_len (nth_mem j1)
          have m2 := congrArg List.length ra
          rw [List.length_cons] at m2
          omega
        rw [e', p3, q3, nI_1, lx_cmp8_c hn h d m p p' (deep + 1) (by omega) (by omega) (by rw [p2]; omega) (by omega) (by omega), p2, q2]
        have fin : cmpL (nth N a) (nth N b) = cmpL (pts (nth N a)).flatten (pts (nth N b)).flatten := by
          rw [congrArg (fun t => cmpL t (nth N b)) ra, congrArg (fun t => cmpL (hd0 (nth N a) :: (pts (nth N a)).flatten) t) rb]
          show (if hd0 (nth N a) = hd0 (nth N b) then _ else _) = _
          rw [if_pos z]
        rw [fin, cmpL_parts hwa hwb (by rw [la9, lb9, z]) j1 j2 j3]
      · have cne : ¬ cc (hd0 (nth N a)) = cc (hd0 (nth N b)) := fun e => z ((cc_inj c1 c2).mp e)
        rw [if_neg (by rw [nI_inj (by omega) (by omega)]; exact cne), xr_n (by omega) (by decide), xr_n (by omega) (by decide), n6, k6]
        have fin : cmpL (nth N a) (nth N b) = if hd0 (nth N a) < hd0 (nth N b) then -1 else 1 := by
          rw [congrArg (fun t => cmpL t (nth N b)) ra, congrArg (fun t => cmpL (hd0 (nth N a) :: (pts (nth N a)).flatten) t) rb]
          show (if hd0 (nth N a) = hd0 (nth N b) then _ else _) = _
          rw [if_neg z]
        have mo := cc_mono c1 c2
        rw [fin]
        by_cases y : hd0 (nth N a) < hd0 (nth N b)
        · rw [if_neg (by rw [nI_le_iff (by omega) (by omega)]; omega), if_pos y]
        · rw [if_pos (by rw [nI_le_iff (by omega) (by omega)]; omega), if_neg y]
theorem fx_compare8_c {n a b : Nat} {v : Nat → Nat → Int32} {w : Nat → Nat → Int64} {las : Nat → Bool} {N : List (List Nat)} (hn : 100000 ≤ n) (h : TB v w las N) (ha : a < N.length) (hb9 : b < N.length) : fx_X8_compare n v (nI a) (nI b) = some (cmpL (nth N a) (nth N b)) := by
  have h4 := (TB_get h ha).1.2.2.2.1
  exact lx_cmp8_c hn h 20 n a b 0 ha hb9 h4 (by omega) (by omega)
