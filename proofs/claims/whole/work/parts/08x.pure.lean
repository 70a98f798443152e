/-! ===== nodes of rows ===== -/
theorem wf_inj : ∀ {l : List Nat} {a b : Nat}, wf a l → wf b l → a = b
  | [], a, b, ha, hb9 => by
    have h1 : a = 0 := ha
    have h2 : b = 0 := hb9
    omega
  | c :: l, a, b, ha, hb9 => by
    have := wf_inj ha.2 hb9.2
    have h1 := ha.1
    have h2 := hb9.1
    omega
theorem wf_suf : ∀ {p s : List Nat} {k : Nat}, wf k (p ++ s) → ∃ m : Nat, wf m s
  | [], s, k, h => ⟨k, h⟩
  | c :: p, s, k, h => wf_suf (p := p) h.2
theorem fx_push_c {n k : Nat} {v : Nat → Nat → Int32} {x : Int32} (hk : v 0 1 = nI k) (h : k < 120) : fx_X8_push n v x = some (mu (mu v 9 k x) 0 1 (nI (k + 1))) := by
  unfold fx_X8_push
  rw [hk, if_neg (by rw [show (0 : Int32) = nI 0 from rfl, nI_lt_iff (by omega) (by decide)]; omega), if_neg (by rw [show (120 : Int32) = nI 120 from rfl, nI_le_iff (by decide) (by omega)]; omega), xwp_n h (by decide), mu_ne (by decide), hk, xl_eq, nI_1, xl_eq]
theorem fx_pop_c {n k : Nat} {v : Nat → Nat → Int32} (hk : v 0 1 = nI (k + 1)) (h : k < 120) : fx_X8_pop n v = some (v 9 k, mu v 0 1 (nI k)) := by
  unfold fx_X8_pop
  rw [hk, if_neg (by rw [show (0 : Int32) = nI 0 from rfl, nI_le_iff (by omega) (by decide)]; omega), if_pos (by rw [show (120 : Int32) = nI 120 from rfl, nI_le_iff (by omega) (by decide)]; omega), xl_eq, i1, nI_sub (by omega), show k + 1 - 1 = k by omega, xl_eq, mu_eq, upd_eq, mu_ne (by decide), xr_n h (by decide)]
/-- the nodes of some terms lie on the stack, the first on top -/
def SKN (v : Nat → Nat → Int32) (N : List (List Nat)) (held : Nat) (ts : List (List Nat)) : Prop :=
  v 0 1 = nI (held + ts.length) ∧ ∀ j : Nat, j < ts.length → ∃ p : Nat, p < N.length ∧ nth N p = nth ts j ∧ v 9 (held + (ts.length - 1 - j)) = nI p
theorem nth_drop {ts : List (List Nat)} {k j : Nat} : nth (ts.drop k) j = nth ts (k + j) := by
  unfold nth
  rw [List.getD_eq_getElem?_getD, List.getD_eq_getElem?_getD, List.getElem?_drop]
theorem lx_fr38_c {n held K rn : Nat} {ga vr : Nat → Nat → Int32} {w : Nat → Nat → Int64} {N ts : List (List Nat)} {P0 x3 x4 x5 : Int32} {k14 : Int32 → Int32 → (Nat → Nat → Int32) → (Nat → Nat → Int64) → Option (Int32 × (Nat → Nat → Int32) × (Nat → Nat → Int64))} (hK : K ≤ 6) (hh : held + ts.length < 120) (hKt : K ≤ ts.length) :
    ∀ (d j m : Nat) (v : Nat → Nat → Int32), j + d = K → d < m → SKN v N held (ts.drop j) → (∀ z : Nat, z < j → ∃ p : Nat, p < N.length ∧ nth N p = nth ts z ∧ v 8 z = nI p) →
      ∃ v' : Nat → Nat → Int32, lx_X8_fromRow_38 n ga rn vr P0 k14 m x3 x4 x5 (nI K) (nI j) v w = (xb3 (fx_X8_intern n v' w ga x5 (nI K)) fun r va wa => xb1 (fx_X8_push n va r) fun vb => k14 x3 (x4 + (-1)) vb wa) ∧ SKN v' N held (ts.drop K) ∧ LI v' N (ts.take K) ∧ (∀ a : Nat, a ≠ 0 → a ≠ 8 → v' a = v a) ∧ v' 0 0 = v 0 0
  | 0, j, m + 1, v, hj, _, hS, hL => by
    have e : j = K := by omega
    subst e
    refine ⟨v, ?_, hS, fun z hz => ?_, fun _ _ _ => rfl, rfl⟩
    · show bx_X8_fromRow_38 n ga rn vr P0 k14 (lx_X8_fromRow_38 n ga rn vr P0 k14 m) x3 x4 x5 (nI j) (nI j) v w = _
      unfold bx_X8_fromRow_38
      rw [if_pos (Int32.le_refl _)]; rfl
    · rw [List.length_take] at hz
      obtain ⟨p, p1, p2, p3⟩ := hL z (by omega)
      exact ⟨p, p1, by rw [nth_take (by omega)]; exact p2, p3⟩
  | d + 1, j, m + 1, v, hj, hm, hS, hL => by
    obtain ⟨s1, s2⟩ := hS
    rw [List.length_drop] at s1
    have e1 : held + (ts.length - j) = (held + (ts.length - j - 1)) + 1 := by omega
    rw [e1] at s1
    obtain ⟨p, p1, p2, p3⟩ := s2 0 (by rw [List.length_drop]; omega)
    rw [nth_drop, Nat.add_zero] at p2
    rw [List.length_drop, Nat.sub_zero] at p3
    have pp := fx_pop_c (n := n) s1 (by omega)
    obtain ⟨v', y1, y2, y3, y4, y5⟩ := lx_fr38_c (n := n) (rn := rn) (ga := ga) (vr := vr) (w := w) (P0 := P0) (x3 := x3) (x4 := x4) (x5 := x5) (k14 := k14) hK hh hKt d (j + 1) m (mu (mu v 0 1 (nI (held + (ts.length - j - 1)))) 8 j (nI p)) (by omega) (by omega) ⟨by rw [mu_ne (by decide), mu_eq, upd_eq, List.length_drop]; exact congrArg nI (by omega), fun z hz => by
        rw [List.length_drop] at hz
        obtain ⟨q, q1, q2, q3⟩ := s2 (z + 1) (by rw [List.length_drop]; omega)
        rw [nth_drop] at q2
        rw [List.length_drop] at q3
        exact ⟨q, q1, by rw [nth_drop, show j + 1 + z = j + (z + 1) by omega]; exact q2, by rw [mu_ne (by decide), mu_ne (by decide), List.length_drop, show ts.length - (j + 1) - 1 - z = ts.length - j - 1 - (z + 1) by omega]; exact q3⟩⟩ (fun z hz => by
        rw [mu_eq]
        by_cases e : z = j
        · subst e
          exact ⟨p, p1, p2, by rw [upd_eq]⟩
        · obtain ⟨q, q1, q2, q3⟩ := hL z (by omega)
          exact ⟨q, q1, q2, by rw [upd_ne e, mu_ne (by decide)]; exact q3⟩)
    refine ⟨v', ?_, y2, y3, fun a a0 a8 => by rw [y4 a a0 a8, mu_ne a8, mu_ne a0], by rw [y5, mu_ne (by decide), mu_eq, upd_ne (by decide)]⟩
    rw [← y1]
    show bx_X8_fromRow_38 n ga rn vr P0 k14 (lx_X8_fromRow_38 n ga rn vr P0 k14 m) x3 x4 x5 (nI K) (nI j) v w = _
    unfold bx_X8_fromRow_38
    rw [if_neg (by rw [nI_le_iff (by omega) (by omega)]; omega), if_neg (by rw [show (6 : Int32) = nI 6 from rfl, nI_le_iff (by decide) (by omega)]; omega), pp, xb2_s, xwp_n (by omega) (by decide), xl_eq, nI_1, p3]
theorem wf_take {ts : List (List Nat)} (h : wfs ts) (k : Nat) : wfs (ts.take k) := fun q hq => h q (List.mem_of_mem_take hq)
theorem nI_m1s {k : Nat} : nI (k + 1) + (-1 : Int32) = nI k := nI_less (k := k + 1) (by omega)
theorem lx_fr14_c {n held rn i : Nat} {ga vr : Nat → Nat → Int32} {las : Nat → Bool} {A : List (List Nat)} {so : Nat → Nat} (hn : 100000 ≤ n) (hlb : LB ga las) (hr : rn ≤ 1000) (hR : RWS rn vr A) (hi : i < A.length) (hwf : wf 1 (nth A i)) (hcol : col (nth A i)) (h6 : ∀ c ∈ nth A i, ar c ≤ 6 ∧ big1 so c = false) (hh : held ≤ 90) :
    ∀ (k m : Nat) (ts N : List (List Nat)) (v : Nat → Nat → Int32) (w : Nat → Nat → Int64), k ≤ (nth A i).length → k < m → (nth A i).drop k = ts.flatten → wfs ts → TB v w las N → N.length + k ≤ 1024 → SKN v N held ts →
      ∃ (x : Nat) (v' : Nat → Nat → Int32) (w' : Nat → Nat → Int64) (E : List (List Nat)), lx_X8_fromRow_14 n ga rn vr (nI i) m (nI held) (nI k - 1) v w = some (nI x, v', w') ∧ TB v' w' las (N ++ E) ∧ x < (N ++ E).length ∧ nth (N ++ E) x = nth A i ∧ E.length ≤ k ∧ v' 0 1 = nI held ∧ (∀ j : Nat, j < held → v' 9 j = v 9 j) ∧ ∀ t ∈ E, t.length ≤ 20 ∧ ∃ P S : List Nat, nth A i = P ++ (t ++ S)
  | 0, m + 1, ts, N, v, w, _, _, hd, hw, hT, _, hS => by
    rw [List.drop_zero] at hd
    have hlen : ts.length = 1 := wf_inj (wf_flat hw) (by rw [← hd]; exact hwf)
    obtain ⟨t, ht⟩ := List.length_eq_one_iff.mp hlen
    have et : t = nth A i := by rw [hd, ht]; simp
    obtain ⟨s1, s2⟩ := hS
    obtain ⟨p, p1, p2, p3⟩ := s2 0 (by omega)
    rw [hlen] at s1 p3
    have pp := fx_pop_c (n := n) s1 (by omega)
    refine ⟨p, mu (mu v 0 1 (nI held)) 0 1 (nI held), w, [], ?_, by rw [List.append_nil]; exact TB_frame hT (by rw [mu_eq, upd_ne (by decide), mu_eq, upd_ne (by decide)]) (fun a a1 _ => by rw [mu_ne (by omega), mu_ne (by omega)]), by rw [List.append_nil]; exact p1, by rw [List.append_nil, p2, ht, ← et]; rfl, Nat.zero_le _, by rw [mu_eq, upd_eq], fun j _ => by rw [mu_ne (by decide), mu_ne (by decide)], fun q hq => absurd hq List.not_mem_nil⟩
    show bx_X8_fromRow_14 n ga rn vr (nI i) (lx_X8_fromRow_14 n ga rn vr (nI i) m) (nI held) (nI 0 - 1) v w = _
    unfold bx_X8_fromRow_14
    rw [if_pos (by decide), pp, xb2_s, xl_eq]
    rw [show held + (1 - 1 - 0) = held by omega] at p3
    rw [p3]
  | k + 1, m + 1, ts, N, v, w, hk, hm, hd, hw, hT, hN, hS => by
    obtain ⟨a1, h20, a3, a4⟩ := hR.2.2 i hi
    have hkl : k < (nth A i).length := by omega
    have hc : cck (gb (nth A i) k) := a3 _ (gb_mem hkl)
    have hcm := gb_mem hkl
    have hck := hcol _ hcm
    obtain ⟨g6, gb9⟩ := h6 _ hcm
    have edrop : (nth A i).drop k = gb (nth A i) k :: ts.flatten := by
      rw [List.drop_eq_getElem_cons hkl, hd]
      congr 1
      unfold gb
      rw [List.getD_eq_getElem?_getD, List.getElem?_eq_getElem hkl]; rfl
    generalize hcc : gb (nth A i) k = c at *
    obtain ⟨q, hq⟩ := wf_suf (p := (nth A i).take k) (s := (nth A i).drop k) (k := 1) (by rw [List.take_append_drop]; exact hwf)
    rw [edrop] at hq
    have hq2 := wf_inj hq.2 (wf_flat hw)
    have hq1 := hq.1
    have har : ar c ≤ ts.length := by omega
    have htl : ts.length ≤ 20 := by
      have l1 := wf_len (wf_flat hw)
      have l2 := congrArg List.length hd
      rw [List.length_drop] at l2
      omega
    have e0 : nI 0 = (0 : Int32) := rfl
    obtain ⟨v1, y1, y2, y3, y4, y5⟩ := lx_fr38_c (n := n) (rn := rn) (ga := ga) (vr := vr) (w := w) (N := N) (ts := ts) (P0 := nI i) (x3 := nI held) (x4 := nI k) (x5 := nI (cc c)) (k14 := lx_X8_fromRow_14 n ga rn vr (nI i) m) (K := ar c) (held := held) g6 (by omega) har (ar c) 0 n v (by omega) (by omega) (by rw [List.drop_zero]; exact hS) (fun z hz => absurd hz (Nat.not_lt_zero _))
    rw [e0] at y1
    have hT1 : TB v1 w las N := TB_frame hT y5 (fun a a1 a7 => y4 a (by omega) (by omega))
    have hlt : (ts.take (ar c)).length = ar c := by rw [List.length_take]; omega
    have hsub : ∀ d ∈ c :: (ts.take (ar c)).flatten, d ∈ nth A i := fun d hd9 => by
      have : d ∈ (nth A i).drop k := by
        rw [edrop]
        rcases List.mem_cons.mp hd9 with g | g
        · rw [g]; exact List.mem_cons_self
        · refine List.mem_cons_of_mem _ ?_
          obtain ⟨z, z1, z2⟩ := List.mem_flatten.mp g
          exact List.mem_flatten.mpr ⟨z, List.mem_of_mem_take z1, z2⟩
      exact List.mem_of_mem_drop this
    have hsplit : nth A i = (nth A i).take k ++ ((c :: (ts.take (ar c)).flatten) ++ (ts.drop (ar c)).flatten) := by
      have e1 : (ts.take (ar c)).flatten ++ (ts.drop (ar c)).flatten = ts.flatten := by rw [← List.flatten_append, List.take_append_drop]
      rw [List.cons_append, e1, ← edrop, List.take_append_drop]
    have hlen20 : (c :: (ts.take (ar c)).flatten).length ≤ 20 := by
      have := congrArg List.length hsplit
      simp only [List.length_append] at this
      omega
    have an := intern_ANS (n := n) (qs := ts.take (ar c)) (so := so) hn hlb hT1 (by omega) y3 hc hck hlt.symm (by omega) (fun d hd9 => (h6 d (hsub d hd9)).2)
    rw [hlt] at an
    obtain ⟨r, v2, w2, E, u1, u2, u3, u4, u5⟩ := an
    rcases u4 with ⟨bad, _⟩ | ⟨ng, x, x1, x2, x3⟩
    · rw [not_great hlen20 (fun d hd9 => (h6 d (hsub d hd9)).2)] at bad
      exact nomatch bad
    · obtain ⟨s1, s2⟩ := y2
      have k2 : v2 0 1 = nI (held + (ts.drop (ar c)).length) := by rw [u5.2.2 1 (by decide)]; exact s1
      have hdl : (ts.drop (ar c)).length ≤ 20 := by rw [List.length_drop]; omega
      have ps := fx_push_c (n := n) (x := r) k2 (by omega)
      have hEl : E.length ≤ 1 := by
        rcases u3 with g | ⟨g, _⟩
        · rw [g]; exact Nat.zero_le _
        · rw [g]; exact Nat.le_refl _
      have hts' : wfs ((c :: (ts.take (ar c)).flatten) :: ts.drop (ar c)) := fun z hz => by
        rcases List.mem_cons.mp hz with g | g
        · rw [g]; exact wf_mk (by have := wf_flat (wf_take hw (ar c)); rw [hlt] at this; exact this)
        · exact hw z (List.mem_of_mem_drop g)
      obtain ⟨x', v', w', E', t1, t2, t3, t4, t5, t6, t7, t8⟩ := lx_fr14_c hn hlb hr hR hi hwf hcol h6 hh k m ((c :: (ts.take (ar c)).flatten) :: ts.drop (ar c)) (N ++ E) (mu (mu v2 9 (held + (ts.drop (ar c)).length) r) 0 1 (nI (held + (ts.drop (ar c)).length + 1))) w2 (by omega) (by omega) (by
          rw [edrop, List.flatten_cons, List.cons_append, ← List.flatten_append, List.take_append_drop]) hts' (TB_frame u2 (by rw [mu_eq, upd_ne (by decide), mu_ne (by decide)]) (fun a a1 a7 => by rw [mu_ne (by omega), mu_ne (by omega)])) (by rw [List.length_append]; omega) ⟨by rw [mu_eq, upd_eq, List.length_cons, Nat.add_assoc], fun j hj => by
          rw [List.length_cons] at hj
          rw [mu_ne (by decide), mu_eq, List.length_cons]
          cases j with
          | zero => exact ⟨x, x1, x2, by rw [show held + ((ts.drop (ar c)).length + 1 - 1 - 0) = held + (ts.drop (ar c)).length by omega, upd_eq]; exact x3⟩
          | succ j =>
            obtain ⟨p, p1, p2, p3⟩ := s2 j (by omega)
            refine ⟨p, (nth_pre p1).1, by rw [(nth_pre p1).2]; exact p2, ?_⟩
            rw [show held + ((ts.drop (ar c)).length + 1 - 1 - (j + 1)) = held + ((ts.drop (ar c)).length - 1 - j) by omega, upd_ne (by omega), u5.2.1]
            exact p3⟩
      refine ⟨x', v', w', E ++ E', ?_, by rw [← List.append_assoc]; exact t2, by rw [← List.append_assoc]; exact t3, by rw [← List.append_assoc]; exact t4, by rw [List.length_append]; omega, t6, fun j hj => ?_, fun t ht => ?_⟩
      · rw [← t1]
        show bx_X8_fromRow_14 n ga rn vr (nI i) (lx_X8_fromRow_14 n ga rn vr (nI i) m) (nI held) (nI (k + 1) - 1) v w = _
        unfold bx_X8_fromRow_14
        rw [i1, nI_sub (by omega), show k + 1 - 1 = k by omega, if_neg (by rw [show (0 : Int32) = nI 0 from rfl, nI_lt_iff (by omega) (by decide)]; omega), fx_cellAt_c hr hR hi hkl, xb1_s, hcc, fx_partsIn_c hc, xb1_s, y1, u1, xb3_s, ps, xb1_s]
        rw [← i1, Int32.sub_eq_add_neg]
      · rw [t7 j hj, mu_ne (by decide), mu_eq, upd_ne (by omega), u5.2.1, y4 9 (by decide) (by decide)]
      · rcases List.mem_append.mp ht with g | g
        · rcases u3 with z | ⟨z, _⟩
          · rw [z] at g; exact absurd g List.not_mem_nil
          · rw [z] at g
            rw [List.mem_singleton.mp g]
            exact ⟨hlen20, _, _, hsplit⟩
        · exact t8 t g
theorem fx_fromRow_c {n held rn i : Nat} {ga vr v : Nat → Nat → Int32} {w : Nat → Nat → Int64} {las : Nat → Bool} {A N : List (List Nat)} {so : Nat → Nat} (hn : 100000 ≤ n) (hlb : LB ga las) (hr : rn ≤ 1000) (hR : RWS rn vr A) (hi : i < A.length) (hwf : wf 1 (nth A i)) (hcol : col (nth A i)) (h6 : ∀ c ∈ nth A i, ar c ≤ 6 ∧ big1 so c = false) (hh : held ≤ 90) (hT : TB v w las N) (hN : N.length + (nth A i).length ≤ 1024) (hs : v 0 1 = nI held) :
    ∃ (x : Nat) (v' : Nat → Nat → Int32) (w' : Nat → Nat → Int64) (E : List (List Nat)), fx_X8_fromRow n v w ga rn vr (nI i) = some (nI x, v', w') ∧ TB v' w' las (N ++ E) ∧ x < (N ++ E).length ∧ nth (N ++ E) x = nth A i ∧ E.length ≤ (nth A i).length ∧ v' 0 1 = nI held ∧ (∀ j : Nat, j < held → v' 9 j = v 9 j) ∧ ∀ t ∈ E, t.length ≤ 20 ∧ ∃ P S : List Nat, nth A i = P ++ (t ++ S) := by
  obtain ⟨a1, h20, a3, a4⟩ := hR.2.2 i hi
  obtain ⟨x, v', w', E, y⟩ := lx_fr14_c (n := n) hn hlb hr hR hi hwf hcol h6 hh (nth A i).length n [] N v w (Nat.le_refl _) (by omega) (by rw [List.drop_eq_nil_of_le (Nat.le_refl _)]; rfl) (fun q hq => absurd hq List.not_mem_nil) hT hN ⟨by rw [hs]; rfl, fun j hj => absurd hj (Nat.not_lt_zero _)⟩
  refine ⟨x, v', w', E, ?_, y.2⟩
  rw [← y.1]
  unfold fx_X8_fromRow
  rw [fx_lengthOf_c hr hR hi, xb1_s, xl_eq, hs]
