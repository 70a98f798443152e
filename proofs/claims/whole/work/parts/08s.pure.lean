/-! ===== intern: a new node ===== -/
theorem p64 : ∀ k : Fin 10, (1 : Int64) <<< (((6 : Int32) * nI k.val).toInt64 &&& 63) = nL (64 ^ k.val) := by decide +kernel
theorem jx_i373_c {n u hd : Nat} {ga v : Nat → Nat → Int32} {w : Nat → Nat → Int64} {las : Nat → Bool} {c p1 x3 x4 x5 : Int32} (hu : u < 1024) (hh : hd < 15) :
    ∃ w2 : Nat → Nat → Int64, jx_X8_intern_373 n ga c p1 x3 x4 x5 (nI u) (nI hd) (if las hd then 1 else 0) v w = lx_X8_intern_441 n ga c p1 n x3 x4 x5 (nI u) (nI hd) (if las hd then 1 else 0) 0 v w2 ∧
      w2 0 u = nL (if las hd = true ∧ hd < 10 then 64 ^ hd else 0) ∧ w2 1 u = nL (if las hd = true ∧ 10 ≤ hd then 64 ^ (hd - 10) else 0) ∧ ∀ p : Nat, p ≠ u → w2 0 p = w 0 p ∧ w2 1 p = w 1 p := by
  have key : ∀ (a b : Int64), (mul (mul w 0 u a) 1 u b) 0 u = a ∧ (mul (mul w 0 u a) 1 u b) 1 u = b ∧ ∀ p : Nat, p ≠ u → (mul (mul w 0 u a) 1 u b) 0 p = w 0 p ∧ (mul (mul w 0 u a) 1 u b) 1 p = w 1 p := fun a b => by
    refine ⟨?_, ?_, fun p hp => ⟨?_, ?_⟩⟩
    · rw [mul_ne (by decide), mul_eq, updL_eq]
    · rw [mul_eq, updL_eq]
    · rw [mul_ne (by decide), mul_eq, updL_ne hp]
    · rw [mul_eq, updL_ne hp, mul_ne (by decide)]
  unfold jx_X8_intern_373
  cases hl : las hd with
  | false =>
    rw [if_pos (by decide)]
    unfold jx_X8_intern_404
    rw [xwpl_n hu (by decide), if_pos (by decide), xwpl_n hu (by decide)]
    obtain ⟨k1, k2, k3⟩ := key 0 0
    exact ⟨_, rfl, by rw [k1, if_neg (fun q => absurd q.1 (by decide))]; rfl, by rw [k2, if_neg (fun q => absurd q.1 (by decide))]; rfl, k3⟩
  | true =>
    rw [if_neg (by decide)]
    by_cases q : hd < 10
    · have pw9 := p64 ⟨hd, q⟩
      have pw' : (1 : Int64) <<< (((6 : Int32) * nI hd).toInt64 &&& 63) = nL (64 ^ hd) := pw9
      rw [if_neg (by rw [show (10 : Int32) = nI 10 from rfl, nI_le_iff (by decide) (by omega)]; omega), xl_eq, xl_eq, pw']
      unfold jx_X8_intern_404
      rw [xwpl_n hu (by decide), if_neg (by decide), if_pos (by rw [show (10 : Int32) = nI 10 from rfl, nI_lt_iff (by omega) (by decide)]; exact q), xwpl_n hu (by decide)]
      obtain ⟨k1, k2, k3⟩ := key (nL (64 ^ hd)) 0
      exact ⟨_, rfl, by rw [k1, if_pos ⟨rfl, q⟩], by rw [k2, if_neg (fun z => by omega)]; rfl, k3⟩
    · have pw9 := p64 ⟨hd - 10, by omega⟩
      have pw' : (1 : Int64) <<< (((6 : Int32) * nI (hd - 10)).toInt64 &&& 63) = nL (64 ^ (hd - 10)) := pw9
      rw [if_pos (by rw [show (10 : Int32) = nI 10 from rfl, nI_le_iff (by decide) (by omega)]; omega)]
      unfold jx_X8_intern_404
      rw [xwpl_n hu (by decide), if_neg (by decide), if_neg (by rw [show (10 : Int32) = nI 10 from rfl, nI_lt_iff (by omega) (by decide)]; exact q), show (10 : Int32) = nI 10 from rfl, xl_eq, nI_sub (by omega), xl_eq, xl_eq, pw', xwpl_n hu (by decide)]
      obtain ⟨k1, k2, k3⟩ := key 0 (nL (64 ^ (hd - 10)))
      exact ⟨_, rfl, by rw [k1, if_neg (fun z => q z.2)]; rfl, by rw [k2, if_pos ⟨rfl, by omega⟩], k3⟩
/-- what the nodes below count -/
def CW (w : Nat → Nat → Int64) (las : Nat → Bool) (N : List (List Nat)) : Prop := ∀ p : Nat, p < N.length → w 0 p = nL (cnt (loC las) (nth N p)) ∧ w 1 p = nL (cnt (hiC las) (nth N p))
theorem lx_i441_c {n u K : Nat} {ga : Nat → Nat → Int32} {las : Nat → Bool} {N : List (List Nat)} {c x3 x4 x5 x7 x8 : Int32} (hu : u < 1024) (hN : N.length = u) (hK : K ≤ 6) : ∀ (B : List (List Nat)) (k m A0 A1 : Nat) (v : Nat → Nat → Int32) (w : Nat → Nat → Int64), k + B.length = K → B.length < m →
    (∀ j : Nat, j < B.length → ∃ p : Nat, p < N.length ∧ nth N p = nth B j ∧ v 8 (k + j) = nI p) → CW w las N → w 0 u = nL A0 → w 1 u = nL A1 →
    ∃ (v' : Nat → Nat → Int32) (w' : Nat → Nat → Int64), lx_X8_intern_441 n ga c (nI K) m x3 x4 x5 (nI u) x7 x8 (nI k) v w = some (nI u, v', w') ∧ (∀ a : Nat, a ≠ 4 → v' a = v a) ∧ (∀ z : Nat, ¬ (6 * u + k ≤ z ∧ z < 6 * u + K) → v' 4 z = v 4 z) ∧ (∀ j : Nat, j < B.length → v' 4 (6 * u + k + j) = v 8 (k + j)) ∧
      (∀ p : Nat, p ≠ u → w' 0 p = w 0 p ∧ w' 1 p = w 1 p) ∧ w' 0 u = nL (A0 + cnt (loC las) B.flatten) ∧ w' 1 u = nL (A1 + cnt (hiC las) B.flatten)
  | [], k, m + 1, A0, A1, v, w, hk, _, _, _, h0, h1 => by
    have e : k = K := by rw [← hk]; rfl
    subst e
    refine ⟨v, w, ?_, fun _ _ => rfl, fun _ _ => rfl, fun j hj => absurd hj (Nat.not_lt_zero _), fun _ _ => ⟨rfl, rfl⟩, h0, h1⟩
    show bx_X8_intern_441 n ga c (nI k) (lx_X8_intern_441 n ga c (nI k) m) x3 x4 x5 (nI u) x7 x8 (nI k) v w = _
    unfold bx_X8_intern_441
    rw [if_pos (Int32.le_refl _)]
  | q :: B, k, m + 1, A0, A1, v, w, hk, hm, hl, hc, h0, h1 => by
    simp only [List.length_cons] at hk hm
    obtain ⟨p, p1, p2, p3⟩ := hl 0 (by simp)
    rw [Nat.add_zero] at p3
    have e2 : nth N p = q := p2
    obtain ⟨c0, c1⟩ := hc p p1
    rw [e2] at c0 c1
    have hpu : p ≠ u := by omega
    obtain ⟨v', w', y1, y2, y3, y4, y5, y6, y7⟩ := lx_i441_c (n := n) (ga := ga) (c := c) (x3 := x3) (x4 := x4) (x5 := x5) (x7 := x7) (x8 := x8) hu hN hK B (k + 1) m (A0 + cnt (loC las) q) (A1 + cnt (hiC las) q) (mu v 4 (6 * u + k) (nI p)) (mul (mul w 0 u (nL (A0 + cnt (loC las) q))) 1 u (nL (A1 + cnt (hiC las) q))) (by omega) (by omega) (fun j hj => by
      obtain ⟨p', q1, q2, q3⟩ := hl (j + 1) (by simp; omega)
      exact ⟨p', q1, q2, by rw [mu_ne (by decide), show k + 1 + j = k + (j + 1) by omega]; exact q3⟩) (fun p' hp' => by
        rw [mul_ne (by decide), mul_eq, updL_ne (by omega), mul_eq, updL_ne (by omega), mul_ne (by decide)]
        exact hc p' hp') (by rw [mul_ne (by decide), mul_eq, updL_eq]) (by rw [mul_eq, updL_eq])
    refine ⟨v', w', ?_, ?_, ?_, ?_, ?_, ?_, ?_⟩
    · rw [← y1]
      show bx_X8_intern_441 n ga c (nI K) (lx_X8_intern_441 n ga c (nI K) m) x3 x4 x5 (nI u) x7 x8 (nI k) v w = _
      unfold bx_X8_intern_441
      rw [if_neg (by rw [nI_le_iff (by omega) (by omega)]; omega), xl_eq, show (6 : Int32) = nI 6 from rfl, nI_mul (by omega) (by omega) (by decide), xl_eq, nI_add, xr_n (by omega) (by decide), p3, xwp_n (by omega) (by decide), xr_n hu (by decide), xr_n (by omega) (by decide), mu_ne (by decide), p3, xr_n (by omega) (by decide), h0, c0, xl_eq, nL_add, xwpl_n hu (by decide), xr_n hu (by decide), xr_n (by omega) (by decide), p3, xr_n (by omega) (by decide), mul_ne (by decide), h1, c1, xl_eq, nL_add, xwpl_n hu (by decide), xl_eq, nI_1, show u * 6 + k = 6 * u + k by omega]
    · intro a ha
      rw [y2 a ha, mu_ne ha]
    · intro z hz
      rw [y3 z (by omega), mu_eq, upd_ne (by omega)]
    · intro j hj
      cases j with
      | zero => rw [y3 _ (by omega), Nat.add_zero, mu_eq, upd_eq, Nat.add_zero, p3]
      | succ j =>
        have := y4 j (by simpa using hj)
        rw [mu_ne (by decide)] at this
        rw [show 6 * u + k + (j + 1) = 6 * u + (k + 1) + j by omega, this, show k + 1 + j = k + (j + 1) by omega]
    · intro p' hp'
      obtain ⟨z1, z2⟩ := y5 p' hp'
      rw [z1, z2, mul_ne (by decide), mul_eq, updL_ne hp', mul_eq, updL_ne hp', mul_ne (by decide)]
      exact ⟨rfl, rfl⟩
    · rw [y6, List.flatten_cons, cnt_app, Nat.add_assoc]
    · rw [y7, List.flatten_cons, cnt_app, Nat.add_assoc]
/-- what a new node leaves as it was -/
def TFr (v v' : Nat → Nat → Int32) : Prop := v' 8 = v 8 ∧ v' 9 = v 9 ∧ ∀ j : Nat, j ≠ 0 → v' 0 j = v 0 j
theorem TFr.refl {v : Nat → Nat → Int32} : TFr v v := ⟨rfl, rfl, fun _ _ => rfl⟩
theorem hed_cc {c : Nat} (hc : cck c) (hk : cok c) (h : ¬ c < 512) : nI (cc c) >>> ((3 : Int32) &&& 31) = nI (c / 512) ∧ hed c = c / 512 + 4 ∧ hed c < 15 := by
  have h1 := cc_lt hc
  have e : cc c = 8 * (c / 512) + c % 512 := by unfold cc; rw [if_neg h]
  have k := (sr3 ⟨cc c, by omega⟩).1
  have k' : nI (cc c) >>> ((3 : Int32) &&& 31) = nI (cc c / 8) := k
  have e2 : cc c / 8 = c / 512 := by
    rcases hc with g | ⟨g1, g2, g3⟩
    · omega
    · omega
  rw [k', e2]
  refine ⟨rfl, by unfold hed; rw [if_neg h], ?_⟩
  unfold hed; rw [if_neg h]
  rcases hk with g | g <;> omega
theorem nth_old {N : List (List Nat)} {t : List Nat} {i : Nat} (h : i < N.length) : nth (N ++ [t]) i = nth N i := nth_app1 h
theorem jx_i244_c {n c hs : Nat} {ga v : Nat → Nat → Int32} {w : Nat → Nat → Int64} {las : Nat → Bool} {N qs : List (List Nat)} {a b x5 : Int32} (hn : 100000 ≤ n) (hlb : LB ga las) (h : TB v w las N) (hN : N.length < 1024) (hq : LI v N qs) (hc : cck c) (hk : cok c) (har : ar c = qs.length) (hw : wfs qs) (h6 : qs.length ≤ 6) (hs9 : hs < 256) (hsv : hfin (hsF (v 8) qs.length 0 (nI (cc c))) = nI hs) (ht : c :: qs.flatten ∉ N) (h20 : (c :: qs.flatten).length ≤ 20) (hx5 : x5 = vrF (c :: qs.flatten) 0) :
    ∃ (v' : Nat → Nat → Int32) (w' : Nat → Nat → Int64), jx_X8_intern_244 n ga (nI (cc c)) (nI qs.length) (nI hs) (nI (c :: qs.flatten).length) x5 a b v w = some (nI N.length, v', w') ∧ TB v' w' las (N ++ [c :: qs.flatten]) ∧ TFr v v' := by
  have h1 := h.1
  have cl := cc_lt hc
  have cv := cc_var hc
  generalize hu : N.length = u at *
  have hcw : CW w las N := fun p hp => ⟨(TB_get h hp).2.1.2.2.2.1, (TB_get h hp).2.1.2.2.2.2⟩
  -- the table before the parts are written
  let V1 : Nat → Nat → Int32 := mu (mu (mu (mu (mu (mu (mu v 0 0 (nI (u + 1))) 1 u (nI (cc c))) 2 u (nI (c :: qs.flatten).length)) 3 u x5) 5 u (nI hs)) 6 u (v 7 hs)) 7 hs (nI u)
  have e0 : V1 0 = upd (v 0) 0 (nI (u + 1)) := by
    show mu (mu (mu (mu (mu (mu (mu v 0 0 _) 1 u _) 2 u _) 3 u x5) 5 u _) 6 u _) 7 hs _ 0 = _
    rw [mu_ne (by decide), mu_ne (by decide), mu_ne (by decide), mu_ne (by decide), mu_ne (by decide), mu_ne (by decide), mu_eq]
  have e1 : V1 1 = upd (v 1) u (nI (cc c)) := by
    show mu (mu (mu (mu (mu (mu (mu v 0 0 _) 1 u _) 2 u _) 3 u x5) 5 u _) 6 u _) 7 hs _ 1 = _
    rw [mu_ne (by decide), mu_ne (by decide), mu_ne (by decide), mu_ne (by decide), mu_ne (by decide), mu_eq, mu_ne (by decide)]
  have e2 : V1 2 = upd (v 2) u (nI (c :: qs.flatten).length) := by
    show mu (mu (mu (mu (mu (mu (mu v 0 0 _) 1 u _) 2 u _) 3 u x5) 5 u _) 6 u _) 7 hs _ 2 = _
    rw [mu_ne (by decide), mu_ne (by decide), mu_ne (by decide), mu_ne (by decide), mu_eq, mu_ne (by decide), mu_ne (by decide)]
  have e3 : V1 3 = upd (v 3) u x5 := by
    show mu (mu (mu (mu (mu (mu (mu v 0 0 _) 1 u _) 2 u _) 3 u x5) 5 u _) 6 u _) 7 hs _ 3 = _
    rw [mu_ne (by decide), mu_ne (by decide), mu_ne (by decide), mu_eq, mu_ne (by decide), mu_ne (by decide), mu_ne (by decide)]
  have e5 : V1 5 = upd (v 5) u (nI hs) := by
    show mu (mu (mu (mu (mu (mu (mu v 0 0 _) 1 u _) 2 u _) 3 u x5) 5 u _) 6 u _) 7 hs _ 5 = _
    rw [mu_ne (by decide), mu_ne (by decide), mu_eq, mu_ne (by decide), mu_ne (by decide), mu_ne (by decide), mu_ne (by decide)]
  have e6 : V1 6 = upd (v 6) u (v 7 hs) := by
    show mu (mu (mu (mu (mu (mu (mu v 0 0 _) 1 u _) 2 u _) 3 u x5) 5 u _) 6 u _) 7 hs _ 6 = _
    rw [mu_ne (by decide), mu_eq, mu_ne (by decide), mu_ne (by decide), mu_ne (by decide), mu_ne (by decide), mu_ne (by decide)]
  have e7 : V1 7 = upd (v 7) hs (nI u) := by
    show mu (mu (mu (mu (mu (mu (mu v 0 0 _) 1 u _) 2 u _) 3 u x5) 5 u _) 6 u _) 7 hs _ 7 = _
    rw [mu_eq, mu_ne (by decide), mu_ne (by decide), mu_ne (by decide), mu_ne (by decide), mu_ne (by decide), mu_ne (by decide)]
  have eo : ∀ z : Nat, z = 4 ∨ z = 8 ∨ z = 9 → V1 z = v z := fun z hz => by
    show mu (mu (mu (mu (mu (mu (mu v 0 0 _) 1 u _) 2 u _) 3 u x5) 5 u _) 6 u _) 7 hs _ z = _
    rw [mu_ne (by omega), mu_ne (by omega), mu_ne (by omega), mu_ne (by omega), mu_ne (by omega), mu_ne (by omega), mu_ne (by omega)]
  have hh15 : hed c < 15 := by
    by_cases q : c < 512
    · unfold hed; rw [if_pos q]
      rcases hk with g | g <;> omega
    · exact (hed_cc hc hk q).2.2
  obtain ⟨w2, g1, g2, g3, g4⟩ := jx_i373_c (n := n) (ga := ga) (v := V1) (w := w) (las := las) (c := nI (cc c)) (p1 := nI qs.length) (x3 := nI hs) (x4 := nI (c :: qs.flatten).length) (x5 := x5) hN hh15
  obtain ⟨v', w', y1, y2, y3, y4, y5, y6, y7⟩ := lx_i441_c (n := n) (ga := ga) (las := las) (N := N) (c := nI (cc c)) (x3 := nI hs) (x4 := nI (c :: qs.flatten).length) (x5 := x5) (x7 := nI (hed c)) (x8 := if las (hed c) then 1 else 0) hN hu h6 qs 0 n (loC las c) (hiC las c) V1 w2 (by omega) (by omega) (fun j hj => by
    obtain ⟨p, q1, q2, q3⟩ := hq j hj
    exact ⟨p, q1, q2, by rw [eo 8 (by omega), Nat.zero_add]; exact q3⟩) (fun p hp => by
      obtain ⟨z1, z2⟩ := g4 p (by omega)
      rw [z1, z2]; exact hcw p hp) g2 g3
  have e0' : nI 0 = (0 : Int32) := rfl
  rw [e0'] at y1
  have hed0 : hd0 (nth (N ++ [c :: qs.flatten]) u) = c := by rw [← hu, nth_app2]; rfl
  have hrow : nth (N ++ [c :: qs.flatten]) u = c :: qs.flatten := by rw [← hu, nth_app2]
  have hwr : wf 1 (c :: qs.flatten) := wf_mk (by rw [har]; exact wf_flat hw)
  have hpts : pts (c :: qs.flatten) = qs := pts_mk hw har
  have hqN : ∀ q ∈ qs, ∃ p : Nat, p < u ∧ nth N p = q := fun q hq9 => by
    obtain ⟨j, j1, j2⟩ := mem_nth hq9
    obtain ⟨p, q1, q2, q3⟩ := hq j j1
    exact ⟨p, by omega, q2.trans j2⟩
  have l5 : ∀ (x : Int32) (m : Nat), m ≤ u → lst (v' 5) x m = lst (v 5) x m := fun x m hm => lst_congr (fun j hj => by rw [y2 5 (by decide), e5, upd_ne (by omega)])
  refine ⟨v', w', ?_, ⟨by rw [List.length_append, List.length_singleton]; omega, ?_, ?_, fun i hi => ?_, fun z hz => ?_⟩, ?_, ?_, fun j hj => ?_⟩
  · unfold jx_X8_intern_244
    rw [h.2.1, hu, if_neg (by rw [show (0 : Int32) = nI 0 from rfl, nI_lt_iff (by omega) (by decide)]; omega), if_pos (by rw [show (1024 : Int32) = nI 1024 from rfl, nI_lt_iff (by omega) (by decide)]; omega), xl_eq, nI_1, xl_eq, xwp_n hN (by decide), xwp_n hN (by decide), xwp_n hN (by decide), xwp_n hN (by decide), xr_n hs9 (by decide), xwp_n hN (by decide), xwp_n hs9 (by decide)]
    rw [mu_ne (by decide), mu_ne (by decide), mu_ne (by decide), mu_ne (by decide), mu_ne (by decide)]
    show (if (8 : Int32) ≤ nI (cc c) then _ else _) = _
    by_cases q : c < 512
    · have hhed : hed c = cc c := by unfold hed; rw [if_pos q, cc_v q]
      rw [if_neg (fun z => (le8 hc).mp z q), xl_eq, xl_eq]
      have lb := hlb (cc c) (by rw [← hhed]; exact hh15)
      rw [hhed] at g1 y1
      rw [lb]
      cases hl : las (cc c) with
      | false =>
        rw [hl] at g1 y1
        rw [if_pos (by decide)]
        exact g1.trans y1
      | true =>
        rw [hl] at g1 y1
        rw [if_neg (by decide)]
        exact g1.trans y1
    · obtain ⟨k1, k2, k3⟩ := hed_cc hc hk q
      rw [if_pos ((le8 hc).mpr q), xl_eq, k1, xl_eq, show (5 : Int32) = nI 5 from rfl, nI_add, xl_eq, i1, nI_sub (by omega), show 5 + c / 512 - 1 = c / 512 + 4 by omega, ← k2, xl_eq, xl_eq]
      have lb := hlb (hed c) k3
      have lb' : (ga 0 2 >>> (nI (hed c) &&& 31)) &&& nI 1 = if las (hed c) then 1 else 0 := lb
      rw [lb']
      cases hl : las (hed c) with
      | false =>
        rw [hl] at g1 y1
        rw [if_pos (by decide)]
        exact g1.trans y1
      | true =>
        rw [hl] at g1 y1
        rw [if_neg (by decide)]
        exact g1.trans y1
  · rw [y2 0 (by decide), e0, upd_eq, List.length_append, List.length_singleton, hu]
  · rw [List.nodup_append]
    refine ⟨h.2.2.1, by simp, fun x hx y hy => ?_⟩
    rw [List.mem_singleton.mp hy]
    intro e; rw [e] at hx; exact ht hx
  · rw [List.length_append, List.length_singleton, hu] at hi
    by_cases q : i < u
    · have on := nth_old (t := c :: qs.flatten) (show i < N.length by omega)
      obtain ⟨a1, ⟨b1, b2, b3, b4, b5⟩, c1, d1, d2⟩ := TB_get h (show i < N.length by omega)
      unfold nod
      rw [on]
      have p4 : ∀ j : Nat, j < 6 → v' 4 (6 * i + j) = v 4 (6 * i + j) := fun j hj => by
        rw [y3 _ (by omega), eo 4 (by omega)]
      obtain ⟨z1, z2⟩ := y5 i (by omega)
      obtain ⟨z3, z4⟩ := g4 i (by omega)
      refine ⟨a1, ⟨?_, ?_, ?_, ?_, ?_⟩, fun j hj => ?_, ?_, ?_⟩
      · rw [y2 1 (by decide), e1, upd_ne (by omega), b1]
      · rw [y2 2 (by decide), e2, upd_ne (by omega), b2]
      · rw [y2 3 (by decide), e3, upd_ne (by omega), b3]
      · rw [z1, z3, b4]
      · rw [z2, z4, b5]
      · obtain ⟨p, p1, p2, p3⟩ := c1 j hj
        exact ⟨p, p1, by rw [nth_old (by omega)]; exact p2, by rw [p4 j (by omega)]; exact p3⟩
      · rw [y2 5 (by decide), e5, upd_ne (by omega), d1]
        exact congrArg hfin (hsF_congr (fun j hj => (p4 j (by omega)).symm))
      · rw [y2 6 (by decide), e6, upd_ne (by omega), d2, l5 _ i (by omega), y2 5 (by decide), e5, upd_ne (by omega)]
    · have ei : i = u := by omega
      subst ei
      unfold nod
      rw [hrow]
      have hd : hd0 (c :: qs.flatten) = c := rfl
      rw [hd, hpts]
      refine ⟨⟨hwr, ?_, ?_, h20, by omega⟩, ⟨?_, ?_, ?_, ?_, ?_⟩, fun j hj => ?_, ?_, ?_⟩
      · intro d hd9
        rcases List.mem_cons.mp hd9 with g | g
        · rw [g]; exact hc
        · obtain ⟨q, q1, q2⟩ := List.mem_flatten.mp g
          obtain ⟨p, p1, p2⟩ := hqN q q1
          exact (TB_get h (show p < N.length by omega)).1.2.1 d (by rw [p2]; exact q2)
      · intro d hd9
        rcases List.mem_cons.mp hd9 with g | g
        · rw [g]; exact hk
        · obtain ⟨q, q1, q2⟩ := List.mem_flatten.mp g
          obtain ⟨p, p1, p2⟩ := hqN q q1
          exact (TB_get h (show p < N.length by omega)).1.2.2.1 d (by rw [p2]; exact q2)
      · rw [y2 1 (by decide), e1, upd_eq]
      · rw [y2 2 (by decide), e2, upd_eq]
      · rw [y2 3 (by decide), e3, upd_eq, hx5]
      · rw [y6]; rfl
      · rw [y7]; rfl
      · obtain ⟨p, p1, p2, p3⟩ := hq j (by omega)
        refine ⟨p, by omega, by rw [nth_old p1]; exact p2, ?_⟩
        have := y4 j (by omega)
        rw [Nat.add_zero, Nat.zero_add, eo 8 (by omega)] at this
        rw [this, p3]
      · rw [y2 5 (by decide), e5, upd_eq, ← hsv, har]
        refine congrArg hfin (hsF_congr (fun j hj => ?_))
        have := y4 j (by omega)
        rw [Nat.add_zero, Nat.zero_add, eo 8 (by omega)] at this
        rw [this, Nat.zero_add]
      · rw [y2 6 (by decide), e6, upd_eq, l5 _ i (by omega), y2 5 (by decide), e5, upd_eq, h.2.2.2.2 hs hs9, hu]
  · rw [y2 7 (by decide), e7, List.length_append, List.length_singleton, hu]
    show _ = oI (if v' 5 u = nI z then some u else lst (v' 5) (nI z) u)
    rw [y2 5 (by decide), e5, upd_eq, ← e5, ← y2 5 (by decide), l5 _ u (by omega)]
    by_cases q : hs = z
    · rw [← q, upd_eq, if_pos rfl]; rfl
    · rw [upd_ne (by omega), if_neg (by rw [nI_inj (by omega) (by omega)]; exact q), h.2.2.2.2 z hz, hu]
  · rw [y2 8 (by decide), eo 8 (by omega)]
  · rw [y2 9 (by decide), eo 9 (by omega)]
  · rw [y2 0 (by decide), e0, upd_ne hj]
theorem fx_intern_c {n c : Nat} {ga v : Nat → Nat → Int32} {w : Nat → Nat → Int64} {las : Nat → Bool} {N qs : List (List Nat)} (hn : 100000 ≤ n) (hlb : LB ga las) (h : TB v w las N) (hN : N.length < 1024) (hq : LI v N qs) (hc : cck c) (hk : cok c) (har : ar c = qs.length) (h6 : qs.length ≤ 6) :
    (20 < (c :: qs.flatten).length ∧ fx_X8_intern n v w ga (nI (cc c)) (nI qs.length) = some (-1, v, w)) ∨
    ((c :: qs.flatten).length ≤ 20 ∧ ((∃ i : Nat, i < N.length ∧ nth N i = c :: qs.flatten ∧ fx_X8_intern n v w ga (nI (cc c)) (nI qs.length) = some (nI i, v, w)) ∨
      (c :: qs.flatten ∉ N ∧ ∃ (v' : Nat → Nat → Int32) (w' : Nat → Nat → Int64), fx_X8_intern n v w ga (nI (cc c)) (nI qs.length) = some (nI N.length, v', w') ∧ TB v' w' las (N ++ [c :: qs.flatten]) ∧ TFr v v'))) := by
  have h1 := h.1
  have cl := cc_lt hc
  have hw : wfs qs := fun q hq9 => by
    obtain ⟨j, j1, j2⟩ := mem_nth hq9
    obtain ⟨p, q1, q2, q3⟩ := hq j j1
    have := (TB_get h q1).1.1
    rw [q2, j2] at this; exact this
  have hlen : qs.flatten.length ≤ 120 := by
    have : ∀ (l : List (List Nat)), (∀ q ∈ l, q.length ≤ 20) → l.flatten.length ≤ 20 * l.length := by
      intro l
      induction l with
      | nil => intro _; simp
      | cons x l ih =>
        intro hx
        have a := hx x List.mem_cons_self
        have b := ih (fun q hq9 => hx q (List.mem_cons_of_mem _ hq9))
        rw [List.flatten_cons, List.length_append, List.length_cons]
        omega
    have := this qs (fun q hq9 => by
      obtain ⟨j, j1, j2⟩ := mem_nth hq9
      obtain ⟨p, q1, q2, q3⟩ := hq j j1
      have := (TB_get h q1).1.2.2.2.1
      rw [q2, j2] at this; exact this)
    omega
  have st : fx_X8_intern n v w ga (nI (cc c)) (nI qs.length) = jx_X8_intern_107 n ga (nI (cc c)) (nI qs.length) (hsF (v 8) qs.length 0 (nI (cc c))) (nI (1 + qs.flatten.length)) (vrF (c :: qs.flatten) 0) (nI qs.length) v w := by
    have l := fun x5 => lx_i23_c (n := n) (ga := ga) (c := nI (cc c)) h qs 0 qs.length 1 n (nI (cc c)) x5 (by omega) h6 (fun j hj => by rw [Nat.zero_add]; exact hq j hj) (by omega)
    have e0 : nI 0 = (0 : Int32) := rfl
    have e1 : nI 1 = (1 : Int32) := rfl
    rw [e0, e1] at l
    unfold fx_X8_intern
    by_cases q : c < 512
    · rw [if_neg (fun z => (le8 hc).mp z q), xl_eq, l]
      show _ = jx_X8_intern_107 n ga (nI (cc c)) (nI qs.length) _ _ (vrF qs.flatten (if c < 512 then 0 ||| ((1 : Int32) <<< (nI c &&& 31)) else 0)) _ v w
      rw [if_pos q, Int32.zero_or, cc_v q]
    · rw [if_pos ((le8 hc).mpr q), l]
      show _ = jx_X8_intern_107 n ga (nI (cc c)) (nI qs.length) _ _ (vrF qs.flatten (if c < 512 then 0 ||| ((1 : Int32) <<< (nI c &&& 31)) else 0)) _ v w
      rw [if_neg q]
  have eL : (c :: qs.flatten).length = 1 + qs.flatten.length := by rw [List.length_cons]; omega
  rw [st]
  unfold jx_X8_intern_107
  by_cases q : 20 < (c :: qs.flatten).length
  · rw [if_pos (by rw [show (20 : Int32) = nI 20 from rfl, nI_lt_iff (by decide) (by omega)]; omega)]
    exact Or.inl ⟨q, rfl⟩
  · obtain ⟨hs, hs1, hs2⟩ := hfin_ok (hsF (v 8) qs.length 0 (nI (cc c)))
    have hs2' : ((hsF (v 8) qs.length 0 (nI (cc c)) ^^^ ((hsF (v 8) qs.length 0 (nI (cc c))).toUInt32 >>> (((8 : Int32)).toUInt32 &&& Int32.toUInt32 31)).toInt32) &&& 255) = nI hs := hs2
    rw [if_neg (by rw [show (20 : Int32) = nI 20 from rfl, nI_lt_iff (by decide) (by omega)]; omega), if_pos (by rw [show (6 : Int32) = nI 6 from rfl, nI_le_iff (by omega) (by decide)]; omega), xl_eq, xl_eq, xl_eq, hs2', xr_n hs1 (by decide), h.2.2.2.2 hs hs1]
    refine Or.inr ⟨by omega, ?_⟩
    have wk := lx_i144_c (n := n) (ga := ga) (x4 := nI (1 + qs.flatten.length)) (x5 := vrF (c :: qs.flatten) 0) (hs := hs) hn h hq hc har hw h6 (fun i hi e => by
      have sn := (same_node h hi hq hc har hw).mpr e
      obtain ⟨n1, n2, n3, n4, n5⟩ := TB_get h hi
      rw [n4, ← hs2]
      have ehd : hd0 (nth N i) = c := by rw [e]; rfl
      rw [ehd, har]
      refine congrArg hfin (hsF_congr (fun j hj => ?_))
      rw [Nat.zero_add, sn.2 j hj]) n N.length 0 (by omega) (Nat.le_refl _) (by omega) (fun i hi _ => hi)
    have e0 : nI 0 = (0 : Int32) := rfl
    rw [e0] at wk
    rcases wk with ⟨i, i1, i2, i3⟩ | ⟨z1, a, b, z2⟩
    · exact Or.inl ⟨i, i1, i2, i3⟩
    · obtain ⟨v', w', y1, y2, y3⟩ := jx_i244_c (n := n) (a := a) (b := b) (x5 := vrF (c :: qs.flatten) 0) hn hlb h hN hq hc hk har hw h6 hs1 hs2 z1 (by omega) rfl
      rw [eL] at y1
      exact Or.inr ⟨z1, v', w', z2.trans y1, y2, y3⟩
