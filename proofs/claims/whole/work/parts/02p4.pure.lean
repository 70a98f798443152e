/-! ===== sorts: rows whose addresses lie in spots, put in order ===== -/
theorem nI_dec (n : Nat) : nI (n + 1) + (-1) = nI n := by rw [nI_succ]; grind
def lep (x y : Nat × List Nat) : Prop := leL x.2 y.2
def insR (x : Nat × List Nat) : List (Nat × List Nat) → List (Nat × List Nat) → List (Nat × List Nat)
  | [], q => x :: q
  | y :: r, q => if cmpL y.2 x.2 = 1 then insR x r (y :: q) else (y :: r).reverse ++ x :: q
theorem insR_perm (x : Nat × List Nat) : ∀ r q : List (Nat × List Nat), (insR x r q).Perm (x :: (r.reverse ++ q))
  | [], q => List.Perm.refl _
  | y :: r, q => by
    unfold insR
    split
    · refine (insR_perm x r (y :: q)).trans ?_
      rw [List.reverse_cons, List.append_assoc]; exact List.Perm.refl _
    · exact List.perm_middle
/-- a row that lies at an address of the pool -/
def okp (f : Nat → Int32) (x : Nat × List Nat) : Prop := la f x.1 x.2 ∧ wf 1 x.2 ∧ col x.2 ∧ x.1 + x.2.length ≤ 60000
def okps (f : Nat → Int32) (xs : List (Nat × List Nat)) : Prop := ∀ x ∈ xs, okp f x
theorem okps_perm {f : Nat → Int32} {xs ys : List (Nat × List Nat)} (h : xs.Perm ys) (hw : okps f ys) : okps f xs := fun t ht => hw t (h.mem_iff.mp ht)
theorem insR_sorted {f : Nat → Int32} {x : Nat × List Nat} (hx : wf 1 x.2) : ∀ r q : List (Nat × List Nat), okps f r → okps f q → (r.reverse ++ q).Pairwise lep → (∀ y ∈ q, leL x.2 y.2) → (insR x r q).Pairwise lep
  | [], q, _, _, h, hq => by
    unfold insR
    exact List.pairwise_cons.mpr ⟨hq, h⟩
  | y :: r, q, hr, hoq, h, hq => by
    have hy := hr y (List.mem_cons_self ..)
    have hr2 : okps f r := fun z hz => hr z (List.mem_cons_of_mem _ hz)
    unfold insR
    split
    · rename_i e
      refine insR_sorted hx r (y :: q) hr2 ?_ ?_ ?_
      · intro z hz
        rcases List.mem_cons.mp hz with g | g
        · rw [g]; exact hy
        · exact hoq z g
      · rw [List.reverse_cons, List.append_assoc] at h; exact h
      · intro z hz
        rcases List.mem_cons.mp hz with g | g
        · rw [g]; unfold leL; rw [cmpL_swap y.2 x.2, e]; exact Or.inl rfl
        · exact hq z g
    · rename_i e
      have hyx : leL y.2 x.2 := by
        rcases cmpL_vals y.2 x.2 with g | g | g
        · exact Or.inl g
        · exact Or.inr g
        · exact absurd g e
      have h1 := List.pairwise_append.mp h
      refine List.pairwise_append.mpr ⟨h1.1, List.pairwise_cons.mpr ⟨hq, h1.2.1⟩, ?_⟩
      intro a ha b hb
      rcases List.mem_cons.mp hb with g | g
      · subst g
        have ha2 := List.mem_reverse.mp ha
        rcases List.mem_cons.mp ha2 with g2 | g2
        · rw [g2]; exact hyx
        · have h2 := h1.1
          rw [List.reverse_cons] at h2
          have h3 := (List.pairwise_append.mp h2).2.2 a (List.mem_reverse.mpr g2) y (List.mem_singleton.mpr rfl)
          exact leL_trans (hr2 a g2).2.1 hy.2.1 hx h3 hyx
      · exact h1.2.2 a ha b g
abbrev adr (xs : List (Nat × List Nat)) : List Nat := xs.map Prod.fst
theorem la_snoc {f : Nat → Int32} {l : List Nat} {a c : Nat} (h : la f a l) (hc : f (a + l.length) = nI c) : la f a (l ++ [c]) := la_app.mpr ⟨h, hc, trivial⟩
theorem lx_sorts_17_ok {n : Nat} {fp : Nat → Int32} {p0 : Int32} {k2 : Int32 → (Nat → Int32) → Option (Nat → Int32)} {x : Nat × List Nat} (hx : okp fp x) (hn : 100000 ≤ n) : ∀ (r q : List (Nat × List Nat)) (f : Nat → Int32) (m k : Nat) (rest : List Nat),
    okps fp r → la f 0 (adr r.reverse) → la f (r.length + 1) (adr q ++ rest) → r.length + 1 + q.length + rest.length ≤ 512 → k = r.length + q.length → r.length < m →
    ∃ f' : Nat → Int32, lx_sorts_17 n fp p0 k2 m (nI k) (nI x.1) (nI r.length) f = k2 (nI (k + 1)) f' ∧ la f' 0 (adr (insR x r q) ++ rest)
  | [], q, f, m + 1, k, rest, hr, h1, h2, hb, hk, hm => by
    simp only [List.length_nil] at hb hk h2 ⊢
    refine ⟨upd f 0 (nI x.1), ?_, ?_⟩
    · show bx_sorts_17 n fp p0 k2 (lx_sorts_17 n fp p0 k2 m) _ _ _ _ = _
      unfold bx_sorts_17
      rw [if_pos (show nI 0 ≤ (0 : Int32) by decide), xw_n (by omega) (by decide), xl_eq, nI_1]
    · show la (upd f 0 (nI x.1)) 0 (x.1 :: (adr q ++ rest))
      exact ⟨upd_eq f 0 (nI x.1), la_upd (Or.inl (by omega)) h2⟩
  | y :: r, q, f, m + 1, k, rest, hr, h1, h2, hb, hk, hm => by
    have hy := hr y (List.mem_cons_self ..)
    have hr2 : okps fp r := fun z hz => hr z (List.mem_cons_of_mem _ hz)
    simp only [List.length_cons] at hb hk hm h2 ⊢
    have e1 : adr (y :: r).reverse = adr r.reverse ++ [y.1] := by simp [adr]
    rw [e1] at h1
    obtain ⟨h3, h4⟩ := la_app.mp h1
    have hlen : (adr r.reverse).length = r.length := by simp [adr]
    rw [hlen, Nat.zero_add] at h4
    have h5 : f r.length = nI y.1 := h4.1
    have eL : lx_sorts_17 n fp p0 k2 (m + 1) (nI k) (nI x.1) (nI (r.length + 1)) f = bx_sorts_17 n fp p0 k2 (lx_sorts_17 n fp p0 k2 m) (nI k) (nI x.1) (nI (r.length + 1)) f := rfl
    rw [eL]
    unfold bx_sorts_17
    rw [if_neg (nI_nle (by omega) (by omega)), xl_eq, nI_pred, xr_n (by omega) (by decide), h5, fx_compares_ok hy.1 hy.2.1 hy.2.2.1 hy.2.2.2 hx.1 hx.2.1 hx.2.2.1 hx.2.2.2 hn]
    by_cases e : cmpL y.2 x.2 = 1
    · have hgo : ¬ cmpL y.2 x.2 ≤ (0 : Int32) := by rw [e]; decide
      obtain ⟨f', hf1, hf2⟩ := lx_sorts_17_ok (k2 := k2) (p0 := p0) hx hn r (y :: q) (upd f (r.length + 1) (nI y.1)) m k rest hr2 (la_upd (Or.inr (by rw [hlen]; omega)) h3)
        (by
          refine ⟨upd_eq _ _ _, ?_⟩
          have := la_upd (i := r.length + 1) (v := nI y.1) (Or.inl (by omega)) h2
          exact this) (by simp only [List.length_cons]; omega) (by simp only [List.length_cons]; omega) (by omega)
      refine ⟨f', ?_, ?_⟩
      · show (if cmpL y.2 x.2 ≤ (0 : Int32) then _ else _) = _
        rw [if_neg hgo, xl_eq, xr_n (by omega) (by decide), h5, xw_n (by omega) (by decide), xl_eq, nI_dec]
        exact hf1
      · rw [show insR x (y :: r) q = insR x r (y :: q) by rw [insR, if_pos e]]; exact hf2
    · have hgo : cmpL y.2 x.2 ≤ (0 : Int32) := by
        rcases cmpL_vals y.2 x.2 with g | g | g
        · rw [g]; decide
        · rw [g]; decide
        · exact absurd g e
      refine ⟨upd f (r.length + 1) (nI x.1), ?_, ?_⟩
      · show (if cmpL y.2 x.2 ≤ (0 : Int32) then _ else _) = _
        rw [if_pos hgo, xw_n (by omega) (by decide), xl_eq, nI_1]
      · rw [show insR x (y :: r) q = (y :: r).reverse ++ x :: q by rw [insR, if_neg e]]
        have hlen2 : (adr (y :: r).reverse).length = r.length + 1 := by simp [adr]
        have e3 : adr ((y :: r).reverse ++ x :: q) ++ rest = adr (y :: r).reverse ++ (x.1 :: (adr q ++ rest)) := by simp [adr]
        rw [e3]
        refine la_app.mpr ⟨la_upd (Or.inr (by rw [hlen2]; omega)) (by rw [e1]; exact h1), ?_⟩
        rw [hlen2, Nat.zero_add]
        exact ⟨upd_eq _ _ _, la_upd (Or.inl (by omega)) h2⟩
theorem lx_sorts_2_ok {n N : Nat} {fp : Nat → Int32} (hn : 100000 ≤ n) : ∀ (q r : List (Nat × List Nat)) (f : Nat → Int32) (m : Nat),
    okps fp r → okps fp q → r.Pairwise lep → la f 0 (adr r ++ adr q) → r.length + q.length = N → N ≤ 512 → 0 < r.length → q.length < m →
    ∃ (f' : Nat → Int32) (s : List (Nat × List Nat)), lx_sorts_2 n fp (nI N) m (nI r.length) f = some f' ∧ la f' 0 (adr s) ∧ s.Perm (r ++ q) ∧ s.Pairwise lep
  | [], r, f, m + 1, hr, _, hs, hl, hN, hb, h0, hm => by
    simp only [List.length_nil, Nat.add_zero] at hN
    refine ⟨f, r, ?_, by simpa using hl, by simp, hs⟩
    show bx_sorts_2 n fp (nI N) (lx_sorts_2 n fp (nI N) m) _ _ = _
    unfold bx_sorts_2
    rw [if_pos (by rw [nI_le_iff (by omega) (by omega)]; omega)]
  | x :: q, r, f, m + 1, hr, hq, hs, hl, hN, hb, h0, hm => by
    simp only [List.length_cons] at hN hm
    have hx := hq x (List.mem_cons_self ..)
    have hq2 : okps fp q := fun z hz => hq z (List.mem_cons_of_mem _ hz)
    have h1 := la_app.mp hl
    have hlr : (adr r).length = r.length := by simp [adr]
    rw [hlr, Nat.zero_add] at h1
    have hx0 : f r.length = nI x.1 := h1.2.1
    have hrest : la f (r.length + 1) (adr q) := h1.2.2
    obtain ⟨f1, hf1, hf2⟩ := lx_sorts_17_ok (k2 := lx_sorts_2 n fp (nI N) m) (p0 := nI N) hx hn r.reverse [] f n r.length (adr q) (fun z hz => hr z (List.mem_reverse.mp hz)) (by rw [List.reverse_reverse]; exact h1.1) (by rw [List.length_reverse]; exact hrest) (by simp [adr]; omega) (by simp) (by simp; omega)
    rw [List.length_reverse] at hf1
    have hperm := insR_perm x r.reverse []
    rw [List.reverse_reverse, List.append_nil] at hperm
    have hsor := insR_sorted (f := fp) hx.2.1 r.reverse [] (fun z hz => hr z (List.mem_reverse.mp hz)) (fun z hz => absurd hz List.not_mem_nil) (by rw [List.reverse_reverse, List.append_nil]; exact hs) (fun z hz => absurd hz List.not_mem_nil)
    have hlen := hperm.length_eq
    simp only [List.length_cons] at hlen
    obtain ⟨f', s, g1, g2, g3, g4⟩ := lx_sorts_2_ok hn q (insR x r.reverse []) f1 m (okps_perm hperm (fun z hz => by
        rcases List.mem_cons.mp hz with g | g
        · rw [g]; exact hx
        · exact hr z g)) hq2 hsor hf2 (by omega) hb (by omega) (by omega)
    refine ⟨f', s, ?_, g2, ?_, g4⟩
    · show bx_sorts_2 n fp (nI N) (lx_sorts_2 n fp (nI N) m) _ _ = _
      unfold bx_sorts_2
      rw [if_neg (by rw [nI_le_iff (by omega) (by omega)]; omega), xr_n (by omega) (by decide), hx0, hf1, ← hlen]
      exact g1
    · refine g3.trans ((hperm.append_right q).trans ?_)
      exact List.perm_middle.symm
theorem fx_sorts_ok {n : Nat} {fp f : Nat → Int32} {xs : List (Nat × List Nat)} (hx : okps fp xs) (hl : la f 0 (adr xs)) (hb : xs.length ≤ 512) (hn : 100000 ≤ n) :
    ∃ (f' : Nat → Int32) (s : List (Nat × List Nat)), fx_sorts n fp f (nI xs.length) = some f' ∧ la f' 0 (adr s) ∧ s.Perm xs ∧ s.map Prod.snd = srt (xs.map Prod.snd) := by
  have fin : ∀ s : List (Nat × List Nat), s.Perm xs → s.Pairwise lep → s.map Prod.snd = srt (xs.map Prod.snd) := by
    intro s hp hs
    refine srt_of ?_ (hp.map _) (List.pairwise_map.mpr hs)
    intro t ht
    obtain ⟨y, hy, rfl⟩ := List.mem_map.mp ht
    exact (hx y hy).2.1
  cases xs with
  | nil =>
    refine ⟨f, [], ?_, trivial, List.Perm.refl _, rfl⟩
    unfold fx_sorts
    obtain ⟨m, rfl⟩ : ∃ m, n = m + 1 := ⟨n - 1, by omega⟩
    show bx_sorts_2 (m + 1) fp (nI 0) (lx_sorts_2 (m + 1) fp (nI 0) m) 1 f = _
    unfold bx_sorts_2
    rw [if_pos (by decide)]
  | cons x q =>
    obtain ⟨f', s, g1, g2, g3, g4⟩ := lx_sorts_2_ok (N := (x :: q).length) hn q [x] f n (fun z hz => hx z (by rw [List.mem_singleton.mp hz]; exact List.mem_cons_self ..)) (fun z hz => hx z (List.mem_cons_of_mem _ hz)) (List.pairwise_singleton _ _) hl (by simp; omega) hb (by simp) (by simp at hb; omega)
    exact ⟨f', s, g1, g2, g3, fin s g3 g4⟩
