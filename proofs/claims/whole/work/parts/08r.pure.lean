/-! ===== intern: one node for terms that stand alike ===== -/
theorem hd0_mem {t : List Nat} (h : wf 1 t) : hd0 t ∈ t := by
  cases t with
  | nil => exact absurd h.symm (by decide)
  | cons c l => exact List.mem_cons_self
theorem lx_i23_c {n : Nat} {ga v : Nat → Nat → Int32} {w : Nat → Nat → Int64} {las : Nat → Bool} {N : List (List Nat)} {c : Int32} (h : TB v w las N) : ∀ (B : List (List Nat)) (k K s m : Nat) (x3 x5 : Int32),
    k + B.length = K → K ≤ 6 → (∀ j : Nat, j < B.length → ∃ p : Nat, p < N.length ∧ nth N p = nth B j ∧ v 8 (k + j) = nI p) → B.length < m →
    lx_X8_intern_23 n ga c (nI K) m x3 (nI s) x5 (nI k) v w = jx_X8_intern_107 n ga c (nI K) (hsF (v 8) B.length k x3) (nI (s + B.flatten.length)) (vrF B.flatten x5) (nI K) v w
  | [], k, K, s, m + 1, x3, x5, hk, _, _, _ => by
    have e : k = K := by rw [← hk]; rfl
    subst e
    show bx_X8_intern_23 n ga c (nI k) (lx_X8_intern_23 n ga c (nI k) m) x3 (nI s) x5 (nI k) v w = _
    unfold bx_X8_intern_23
    rw [if_pos (Int32.le_refl _)]; rfl
  | q :: B, k, K, s, m + 1, x3, x5, hk, h6, hl, hm => by
    have h1 := h.1
    obtain ⟨p, p1, p2, p3⟩ := hl 0 (by simp)
    rw [Nat.add_zero] at p3
    have nd := (TB_get h p1).2.1
    have e2 : nth N p = q := p2
    rw [e2] at nd
    simp only [List.length_cons] at hk hm
    have ih := lx_i23_c h (n := n) (ga := ga) (c := c) B (k + 1) K (s + q.length) m (x3 * 31 + nI p) (x5 ||| vrF q 0) (by omega) h6 (fun j hj => by
      obtain ⟨p', q1, q2, q3⟩ := hl (j + 1) (by simp; omega)
      exact ⟨p', q1, q2, by rw [show k + 1 + j = k + (j + 1) by omega]; exact q3⟩) (by omega)
    show bx_X8_intern_23 n ga c (nI K) (lx_X8_intern_23 n ga c (nI K) m) x3 (nI s) x5 (nI k) v w = _
    unfold bx_X8_intern_23
    rw [if_neg (by rw [nI_le_iff (by omega) (by omega)]; omega), if_neg (by rw [show (6 : Int32) = nI 6 from rfl, nI_le_iff (by decide) (by omega)]; omega), xr_n (by omega) (by decide), p3, if_neg (by rw [show (0 : Int32) = nI 0 from rfl, nI_lt_iff (by omega) (by decide)]; omega), h.2.1, if_neg (by rw [nI_le_iff (by omega) (by omega)]; omega), if_pos (by rw [show (1024 : Int32) = nI 1024 from rfl, nI_lt_iff (by omega) (by decide)]; omega), xl_eq, xl_eq, xr_n (by omega) (by decide), nd.2.1, xl_eq, nI_add, xr_n (by omega) (by decide), nd.2.2.1, xl_eq, xl_eq, nI_1, ih]
    have e3 : hsF (v 8) (B.length + 1) k x3 = hsF (v 8) B.length (k + 1) (x3 * 31 + nI p) := by
      show hsF (v 8) B.length (k + 1) (x3 * 31 + v 8 k) = _
      rw [p3]
    rw [List.length_cons, e3, List.flatten_cons, vrF_app (a := 0), vrF_or (l := q) (a := x5), List.length_append, Nat.add_assoc]
theorem same_node {v : Nat → Nat → Int32} {w : Nat → Nat → Int64} {las : Nat → Bool} {N qs : List (List Nat)} {c i : Nat} (h : TB v w las N) (hi : i < N.length) (hq : LI v N qs) (hc : cck c) (har : ar c = qs.length) (hw : wfs qs) :
    (v 1 i = nI (cc c) ∧ ∀ j : Nat, j < qs.length → v 4 (6 * i + j) = v 8 j) ↔ nth N i = c :: qs.flatten := by
  have h1 := h.1
  obtain ⟨⟨n1, n2, n3, n4, n5⟩, ⟨n6, _⟩, n7, _⟩ := TB_get h hi
  constructor
  · rintro ⟨e1, e2⟩
    have hcd : cck (hd0 (nth N i)) := n2 _ (hd0_mem n1)
    have l1 := cc_lt hc
    have l2 := cc_lt hcd
    have ec : hd0 (nth N i) = c := by
      rw [n6] at e1
      exact (cc_inj hcd hc).mp ((nI_inj (by omega) (by omega)).mp e1)
    rw [ec] at n7
    have ep : pts (nth N i) = qs := by
      refine nth_ext (by rw [pts_len n1, ec, har]) (fun j hj => ?_)
      rw [pts_len n1, ec] at hj
      obtain ⟨p, p1, p2, p3⟩ := n7 j hj
      obtain ⟨p', q1, q2, q3⟩ := hq j (by omega)
      rw [e2 j (by omega), q3] at p3
      have : p' = p := (nI_inj (by omega) (by omega)).mp p3
      rw [← p2, ← this, q2]
    have r := row_pts n1
    rw [ep, ec] at r
    exact r
  · intro e
    have ec : hd0 (nth N i) = c := by rw [e]; rfl
    have ep : pts (nth N i) = qs := by rw [e]; exact pts_mk hw har
    rw [ec] at n6 n7
    rw [ep] at n7
    refine ⟨n6, fun j hj => ?_⟩
    obtain ⟨p, p1, p2, p3⟩ := n7 j (by omega)
    obtain ⟨p', q1, q2, q3⟩ := hq j hj
    have : p = p' := nth_inj h.2.2.1 (by omega) q1 (p2.trans q2.symm)
    rw [p3, q3, this]
theorem lx_i185_c {n K i : Nat} {ga v : Nat → Nat → Int32} {w : Nat → Nat → Int64} {c x3 x4 x5 x7 : Int32} {k144 : Int32 → Int32 → Int32 → Int32 → Int32 → (Nat → Nat → Int32) → (Nat → Nat → Int64) → Option (Int32 × (Nat → Nat → Int32) × (Nat → Nat → Int64))} (hK : K ≤ 6) (hi : i < 1024) : ∀ (d j m : Nat), j + d = K → d < m → (∀ z : Nat, z < j → v 4 (6 * i + z) = v 8 z) →
    ((∀ z : Nat, z < K → v 4 (6 * i + z) = v 8 z) ∧ lx_X8_intern_185 n ga c (nI K) k144 m x3 x4 x5 (nI i) x7 (nI j) v w = some (nI i, v, w)) ∨ ((¬ ∀ z : Nat, z < K → v 4 (6 * i + z) = v 8 z) ∧ lx_X8_intern_185 n ga c (nI K) k144 m x3 x4 x5 (nI i) x7 (nI j) v w = k144 x3 x4 x5 (v 6 i) (x7 + 1) v w)
  | 0, j, m + 1, hj, _, hz => by
    have e : j = K := by omega
    subst e
    refine Or.inl ⟨hz, ?_⟩
    show bx_X8_intern_185 n ga c (nI j) k144 (lx_X8_intern_185 n ga c (nI j) k144 m) x3 x4 x5 (nI i) x7 (nI j) v w = _
    unfold bx_X8_intern_185
    rw [if_pos (Int32.le_refl _), if_pos rfl]
  | d + 1, j, m + 1, hj, hm, hz => by
    have st : lx_X8_intern_185 n ga c (nI K) k144 (m + 1) x3 x4 x5 (nI i) x7 (nI j) v w = if v 4 (6 * i + j) = v 8 j then lx_X8_intern_185 n ga c (nI K) k144 m x3 x4 x5 (nI i) x7 (nI (j + 1)) v w else k144 x3 x4 x5 (v 6 i) (x7 + 1) v w := by
      show bx_X8_intern_185 n ga c (nI K) k144 (lx_X8_intern_185 n ga c (nI K) k144 m) x3 x4 x5 (nI i) x7 (nI j) v w = _
      unfold bx_X8_intern_185
      rw [if_neg (by rw [nI_le_iff (by omega) (by omega)]; omega), xl_eq, show (6 : Int32) = nI 6 from rfl, nI_mul (by omega) (by omega) (by decide), xl_eq, nI_add, xr_n (by omega) (by decide), xr_n (by omega) (by decide), show i * 6 + j = 6 * i + j by omega]
      by_cases q : v 4 (6 * i + j) = v 8 j
      · rw [if_pos q, if_pos q, xl_eq, nI_1]
      · rw [if_neg q, if_neg q, if_neg (by rw [nI_inj (by omega) (by omega)]; omega), xr_n hi (by decide), xl_eq]
    rw [st]
    by_cases q : v 4 (6 * i + j) = v 8 j
    · rw [if_pos q]
      exact lx_i185_c hK hi d (j + 1) m (by omega) (by omega) (fun z h1 => by
        by_cases e : z = j
        · rw [e]; exact q
        · exact hz z (by omega))
    · rw [if_neg q]
      exact Or.inr ⟨fun g => q (g j (by omega)), rfl⟩
theorem lx_i185_far {n K i : Nat} {ga v : Nat → Nat → Int32} {w : Nat → Nat → Int64} {c x3 x4 x5 x7 : Int32} {k144 : Int32 → Int32 → Int32 → Int32 → Int32 → (Nat → Nat → Int32) → (Nat → Nat → Int64) → Option (Int32 × (Nat → Nat → Int32) × (Nat → Nat → Int64))} (hK : K ≤ 6) (hi : i < 1024) : ∀ (m : Nat), 0 < m →
    lx_X8_intern_185 n ga c (nI K) k144 m x3 x4 x5 (nI i) x7 (nI (K + 1)) v w = k144 x3 x4 x5 (v 6 i) (x7 + 1) v w
  | m + 1, _ => by
    show bx_X8_intern_185 n ga c (nI K) k144 (lx_X8_intern_185 n ga c (nI K) k144 m) x3 x4 x5 (nI i) x7 (nI (K + 1)) v w = _
    unfold bx_X8_intern_185
    rw [if_pos (by rw [nI_le_iff (by omega) (by omega)]; omega), if_neg (by rw [nI_inj (by omega) (by omega)]; omega), xr_n hi (by decide), xl_eq]
theorem oI_neg : (oI none : Int32) = -1 := rfl
theorem oI_some {i : Nat} : oI (some i) = nI i := rfl
theorem lx_i144_c {n : Nat} {ga v : Nat → Nat → Int32} {w : Nat → Nat → Int64} {las : Nat → Bool} {N qs : List (List Nat)} {c hs : Nat} {x4 x5 : Int32} (hn : 100000 ≤ n) (h : TB v w las N) (hq : LI v N qs) (hc : cck c) (har : ar c = qs.length) (hw : wfs qs) (h6 : qs.length ≤ 6) (hv5 : ∀ i : Nat, i < N.length → nth N i = c :: qs.flatten → v 5 i = nI hs) : ∀ (m k g : Nat), k < m → k ≤ N.length → g + k ≤ 1024 → (∀ i : Nat, i < N.length → nth N i = c :: qs.flatten → i < k) →
    (∃ i : Nat, i < N.length ∧ nth N i = c :: qs.flatten ∧ lx_X8_intern_144 n ga (nI (cc c)) (nI qs.length) m (nI hs) x4 x5 (oI (lst (v 5) (nI hs) k)) (nI g) v w = some (nI i, v, w)) ∨ (c :: qs.flatten ∉ N ∧ ∃ a b : Int32, lx_X8_intern_144 n ga (nI (cc c)) (nI qs.length) m (nI hs) x4 x5 (oI (lst (v 5) (nI hs) k)) (nI g) v w = jx_X8_intern_244 n ga (nI (cc c)) (nI qs.length) (nI hs) x4 x5 a b v w)
  | 0, k, g, hm, _, _, _ => absurd hm (Nat.not_lt_zero _)
  | m + 1, k, g, hm, hk, hg, hi9 => by
    have h1 := h.1
    have hsh : ∀ x : Int32, lx_X8_intern_144 n ga (nI (cc c)) (nI qs.length) (m + 1) (nI hs) x4 x5 x (nI g) v w = bx_X8_intern_144 n ga (nI (cc c)) (nI qs.length) (lx_X8_intern_144 n ga (nI (cc c)) (nI qs.length) m) (nI hs) x4 x5 x (nI g) v w := fun x => rfl
    rw [hsh]
    cases hl : lst (v 5) (nI hs) k with
    | none =>
      refine Or.inr ⟨fun hm9 => ?_, -1, nI g, ?_⟩
      · obtain ⟨i, i1, i2⟩ := mem_nth hm9
        exact lst_none hl i (hi9 i i1 i2) (hv5 i i1 i2)
      · unfold bx_X8_intern_144
        rw [oI_neg]
        by_cases q : (1024 : Int32) ≤ nI g
        · rw [if_pos q]
        · rw [if_neg q, if_pos (by decide)]
    | some i =>
      obtain ⟨i1, i2, i3⟩ := lst_some hl
      have nd := TB_get h (show i < N.length by omega)
      have sn := same_node h (show i < N.length by omega) hq hc har hw
      have hl2 := cc_lt hc
      have l2 := cc_lt (nd.1.2.1 _ (hd0_mem nd.1.1))
      have nx : v 6 i = oI (lst (v 5) (nI hs) i) := by rw [nd.2.2.2.2, i2]
      have ih := lx_i144_c (n := n) (ga := ga) (x4 := x4) (x5 := x5) hn h hq hc har hw h6 hv5 m i (g + 1) (by omega) (by omega) (by omega)
      have go : (∀ i' : Nat, i' < N.length → nth N i' = c :: qs.flatten → i' < i) → lx_X8_intern_144 n ga (nI (cc c)) (nI qs.length) m (nI hs) x4 x5 (v 6 i) (nI g + 1) v w = lx_X8_intern_144 n ga (nI (cc c)) (nI qs.length) m (nI hs) x4 x5 (oI (lst (v 5) (nI hs) i)) (nI (g + 1)) v w := fun _ => by rw [nx, nI_1]
      have lower : nth N i ≠ c :: qs.flatten → ∀ i' : Nat, i' < N.length → nth N i' = c :: qs.flatten → i' < i := fun hne i' a b => by
        have b1 := hi9 i' a b
        have b2 := hv5 i' a b
        have b3 : i' ≠ i := fun e => hne (e ▸ b)
        have b4 : ¬ i < i' := fun q => i3 i' q b1 b2
        omega
      rw [oI_some]
      unfold bx_X8_intern_144
      rw [if_neg (by rw [show (1024 : Int32) = nI 1024 from rfl, nI_le_iff (by decide) (by omega)]; omega), if_neg (by rw [show (0 : Int32) = nI 0 from rfl, nI_lt_iff (by omega) (by decide)]; omega), if_neg (by rw [show (1024 : Int32) = nI 1024 from rfl, nI_le_iff (by decide) (by omega)]; omega), xr_n (by omega) (by decide)]
      by_cases q : v 1 i = nI (cc c)
      · rw [if_pos q]
        rcases lx_i185_c (n := n) (ga := ga) (v := v) (w := w) (c := nI (cc c)) (x3 := nI hs) (x4 := x4) (x5 := x5) (x7 := nI g) (k144 := lx_X8_intern_144 n ga (nI (cc c)) (nI qs.length) m) h6 (show i < 1024 by omega) qs.length 0 n (by omega) (by omega) (fun z hz => absurd hz (Nat.not_lt_zero _)) with ⟨a, b⟩ | ⟨a, b⟩
        · have b' : lx_X8_intern_185 n ga (nI (cc c)) (nI qs.length) (lx_X8_intern_144 n ga (nI (cc c)) (nI qs.length) m) n (nI hs) x4 x5 (nI i) (nI g) 0 v w = some (nI i, v, w) := b
          rw [b']
          exact Or.inl ⟨i, by omega, sn.mp ⟨q, a⟩, rfl⟩
        · have b' : lx_X8_intern_185 n ga (nI (cc c)) (nI qs.length) (lx_X8_intern_144 n ga (nI (cc c)) (nI qs.length) m) n (nI hs) x4 x5 (nI i) (nI g) 0 v w = lx_X8_intern_144 n ga (nI (cc c)) (nI qs.length) m (nI hs) x4 x5 (v 6 i) (nI g + 1) v w := b
          have lw := lower (fun e => a (sn.mpr e).2)
          rw [b', go lw]
          exact ih lw
      · rw [if_neg q, xl_eq, nI_1, lx_i185_far h6 (show i < 1024 by omega) n (by omega)]
        have lw := lower (fun e => q (sn.mpr e).1)
        rw [go lw]
        exact ih lw
