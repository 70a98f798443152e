/-! ===== stands, its loops ===== -/
abbrev SRes := Option (Int32 × (Nat → Int32) × Int32 × (Nat → Int32))
/-- cells moved down -/
theorem lx_stands_287_ok {n : Nat} {fs fu fsp : Nat → Int32} {p0 x3 top : Int32} {from_ row : Nat} (hfr : from_ ≤ row) : ∀ (l : List Nat) (f : Nat → Int32) (j K m : Nat), la f (row + j) l → K = j + l.length → row + K ≤ 60000 → l.length < m →
    ∃ f' : Nat → Int32, lx_stands_287 n fs fu p0 (nI from_) m x3 (nI row) (nI K) (nI j) f top fsp = some (nI from_, f', nI (from_ + K), fsp) ∧ la f' (from_ + j) l ∧ ∀ i : Nat, i < from_ + j → f' i = f i
  | [], f, j, K, m + 1, _, hK, hb, _ => by
    simp only [List.length_nil, Nat.add_zero] at hK
    subst hK
    refine ⟨f, ?_, trivial, fun _ _ => rfl⟩
    show bx_stands_287 n fs fu p0 (nI from_) (lx_stands_287 n fs fu p0 (nI from_) m) _ _ _ _ _ _ _ = _
    unfold bx_stands_287
    rw [if_pos (Int32.le_refl _), xl_eq, nI_add]
  | c :: l, f, j, K, m + 1, hl, hK, hb, hm => by
    simp only [List.length_cons] at hK hm
    have hl2 : la (upd f (from_ + j) (nI c)) (row + (j + 1)) l := by
      refine la_upd (Or.inl (by omega)) ?_
      rw [show row + (j + 1) = row + j + 1 by omega]; exact hl.2
    obtain ⟨f', g1, g2, g3⟩ := lx_stands_287_ok (n := n) (fs := fs) (fu := fu) (fsp := fsp) (p0 := p0) (x3 := x3) (top := top) hfr l (upd f (from_ + j) (nI c)) (j + 1) K m hl2 (by omega) hb (by omega)
    refine ⟨f', ?_, ⟨?_, ?_⟩, fun i hi => ?_⟩
    · show bx_stands_287 n fs fu p0 (nI from_) (lx_stands_287 n fs fu p0 (nI from_) m) _ _ _ _ _ _ _ = _
      unfold bx_stands_287
      rw [if_neg (by rw [nI_le_iff (by omega) (by omega)]; omega), xl_eq, nI_add, xl_eq, nI_add, xr_n (by omega) (by decide), hl.1, xw_n (by omega) (by decide), xl_eq, nI_1]
      exact g1
    · rw [g3 _ (by omega), upd_eq]
    · rw [show from_ + j + 1 = from_ + (j + 1) by omega]; exact g2
    · rw [g3 i (by omega), upd_ne (by omega)]
/-- parts copied behind the top -/
theorem lx_stands_250_ok {n : Nat} {fs fu fsp : Nat → Int32} {p0 : Int32} {from_ row N : Nat} (hn : 100000 ≤ n) (hfr : from_ ≤ row) : ∀ (xs : List (Nat × List Nat)) (f : Nat → Int32) (t m j : Nat) (W : List Nat),
    la fsp j (adr xs) → j + xs.length = N → N ≤ 512 → (∀ x ∈ xs, okp f x ∧ x.1 + x.2.length ≤ row) → la f row W → t = row + W.length → t + (xs.map Prod.snd).flatten.length ≤ 60000 → xs.length < m →
    ∃ f' : Nat → Int32, lx_stands_250 n fs fu p0 (nI from_) m (nI N) (nI row) (nI j) f (nI t) fsp = some (nI from_, f', nI (from_ + (W ++ (xs.map Prod.snd).flatten).length), fsp) ∧ la f' from_ (W ++ (xs.map Prod.snd).flatten) ∧ ∀ i : Nat, i < from_ → f' i = f i
  | [], f, t, m + 1, j, W, _, hj, hN, _, hW, ht, hb, _ => by
    simp only [List.map_nil, List.flatten_nil, List.length_nil, Nat.add_zero, List.append_nil] at hj hb ⊢
    obtain ⟨f', g1, g2, g3⟩ := lx_stands_287_ok (n := n) (fs := fs) (fu := fu) (fsp := fsp) (p0 := p0) (x3 := nI N) (top := nI t) hfr W f 0 W.length n hW (by omega) (by omega) (by omega)
    refine ⟨f', ?_, g2, g3⟩
    show bx_stands_250 n fs fu p0 (nI from_) (lx_stands_250 n fs fu p0 (nI from_) m) _ _ _ _ _ _ = _
    unfold bx_stands_250
    rw [if_pos (by rw [nI_le_iff (by omega) (by omega)]; omega), xl_eq, nI_sub (by omega), show t - row = W.length by omega]
    exact g1
  | x :: xs, f, t, m + 1, j, W, hs, hj, hN, hx, hW, ht, hb, hm => by
    simp only [List.length_cons, List.map_cons, List.flatten_cons, List.length_append] at hj hb hm
    obtain ⟨h1, h2⟩ := hx x (List.mem_cons_self ..)
    obtain ⟨f', g1, g2, g3⟩ := lx_stands_250_ok (fs := fs) (fu := fu) (p0 := p0) hn hfr xs (put f t x.2) (t + x.2.length) m (j + 1) (W ++ x.2) hs.2 (by omega) hN
      (fun y hy => by
        obtain ⟨k1, k2⟩ := hx y (List.mem_cons_of_mem _ hy)
        exact ⟨⟨la_put (Or.inl (by omega)) k1.1, k1.2⟩, k2⟩)
      (la_app.mpr ⟨la_put (Or.inl (by omega)) hW, by rw [← ht]; exact put_la⟩) (by rw [List.length_append]; omega) (by omega) (by omega)
    rw [List.append_assoc] at g1 g2
    refine ⟨f', ?_, g2, fun i hi => ?_⟩
    · show bx_stands_250 n fs fu p0 (nI from_) (lx_stands_250 n fs fu p0 (nI from_) m) _ _ _ _ _ _ = _
      unfold bx_stands_250
      rw [if_neg (by rw [nI_le_iff (by omega) (by omega)]; omega), xr_n (by omega) (by decide), hs.1, fx_copies_ok h1.1 h1.2.1 h1.2.2.1 (by omega) (by omega) hn]
      show lx_stands_250 n fs fu p0 (nI from_) m (nI N) (nI row) (nI j + 1) (put f t x.2) (nI (t + x.2.length)) fsp = _
      rw [nI_1]; exact g1
    · rw [g3 i hi, put_out (Or.inl (by omega))]
theorem sg_sort {fs fu : Nat → Int32} {so : Nat → Nat} {un : Nat → Option Nat} (h : SG fs fu so un) {op : Nat} (ho : op < 10 ∧ so op ≠ 3) : fs op = nI (so op) := (h op ho).1
theorem mkt_nil {so : Nat → Nat} {un : Nat → Option Nat} {op u : Nat} (h : so op = 2) (hu : un op = some u) : mkt so un op [] = [cdo u 0] := by
  unfold mkt; rw [if_pos h, hu]
theorem mkt_one {so : Nat → Nat} {un : Nat → Option Nat} {op : Nat} {y : List Nat} (h : so op = 2) : mkt so un op [y] = y := by
  unfold mkt; rw [if_pos h]
theorem mkt_many {so : Nat → Nat} {un : Nat → Option Nat} {op : Nat} {ys : List (List Nat)} (h : so op = 2 → 2 ≤ ys.length) : mkt so un op ys = cdo op ys.length :: ys.flatten := by
  unfold mkt
  by_cases q : so op = 2
  · rw [if_pos q]
    have h2 := h q
    match ys, h2 with
    | _ :: _ :: _, _ => rfl
  · rw [if_neg q]
/-- the row of an operator over sorted parts comes to where the parts lay -/
theorem jx_stands_156_ok {n : Nat} {fs fu fsp f : Nat → Int32} {so : Nat → Nat} {un : Nat → Option Nat} {x4 : Int32} {op from_ row : Nat} {xs : List (Nat × List Nat)} (hsg : SG fs fu so un) (ho : op < 10 ∧ so op ≠ 3) (hn : 100000 ≤ n) (hfr : from_ ≤ row) (hs : la fsp 0 (adr xs)) (hN : xs.length < 512) (hx : ∀ x ∈ xs, okp f x ∧ x.1 + x.2.length ≤ row) (hb : row + (xs.map Prod.snd).flatten.length < 60000) (hu : so op = 2 → xs = [] → un op ≠ none) :
    ∃ f' : Nat → Int32, jx_stands_156 n fs fu (nI op) (nI from_) (nI xs.length) x4 f (nI row) fsp = some (nI from_, f', nI (from_ + (mkt so un op (xs.map Prod.snd)).length), fsp) ∧ la f' from_ (mkt so un op (xs.map Prod.snd)) ∧ ∀ i : Nat, i < from_ → f' i = f i := by
  have hso := hsg op ho
  have many : ∃ f' : Nat → Int32, jx_stands_223 n fs fu (nI op) (nI from_) (nI xs.length) (nI row) f (nI row) fsp = some (nI from_, f', nI (from_ + (cdo op xs.length :: (xs.map Prod.snd).flatten).length), fsp) ∧ la f' from_ (cdo op xs.length :: (xs.map Prod.snd).flatten) ∧ ∀ i : Nat, i < from_ → f' i = f i := by
    obtain ⟨f', g1, g2, g3⟩ := lx_stands_250_ok (fs := fs) (fu := fu) (fsp := fsp) (p0 := nI op) (N := xs.length) hn hfr xs (upd f row (nI (cdo op xs.length))) (row + 1) n 0 [cdo op xs.length] hs (by omega) (by omega)
      (fun y hy => by
        obtain ⟨k1, k2⟩ := hx y hy
        exact ⟨⟨la_upd (Or.inr (by omega)) k1.1, k1.2⟩, k2⟩) ⟨upd_eq _ _ _, trivial⟩ rfl (by omega) (by omega)
    refine ⟨f', ?_, g2, fun i hi => by rw [g3 i hi, upd_ne (by omega)]⟩
    unfold jx_stands_223
    rw [fx_codeOf_ok ho.1 (by omega), xb1_s, xw_n (by omega) (by decide), xl_eq, nI_1]
    exact g1
  have e2 : (nI (so op) = (2 : Int32)) ↔ so op = 2 := by rw [show (2 : Int32) = nI 2 from rfl, nI_inj (by omega) (by decide)]
  have hyl : (xs.map Prod.snd).length = xs.length := by simp
  unfold jx_stands_156
  rw [xr_n ho.1 (by decide), hso.1]
  by_cases q : so op = 2
  · rw [if_pos (e2.mpr q)]
    cases xs with
    | nil =>
      simp only [List.length_nil, List.map_nil]
      rw [if_pos (show nI 0 = (0 : Int32) from rfl)]
      cases hun : un op with
      | none => exact absurd hun (hu q rfl)
      | some u =>
        obtain ⟨hu1, hu2⟩ := hso.2.2.2 u hun
        obtain ⟨f', g1, g2, g3⟩ := lx_stands_287_ok (n := n) (fs := fs) (fu := fu) (fsp := fsp) (p0 := nI op) (x3 := nI 0) (top := nI (row + 1)) hfr [cdo u 0] (upd f row (nI (cdo u 0))) 0 1 n ⟨upd_eq _ _ _, trivial⟩ (by simp) (by simp at hb; omega) (by simp; omega)
        rw [mkt_nil q hun]
        refine ⟨f', ?_, g2, fun i hi => by rw [g3 i (by omega), upd_ne (by omega)]⟩
        simp at hb
        rw [xr_n ho.1 (by decide), hu1, show (0 : Int32) = nI 0 from rfl, fx_codeOf_ok hu2 (by decide), xb1_s, xw_n (by omega) (by decide), xl_eq, nI_1, xl_eq, nI_sub (by omega), show row + 1 - row = 1 by omega]
        exact g1
    | cons x xs =>
      rw [if_neg (nI_ne0 (by simp) (by omega)), xr_n ho.1 (by decide), hso.1, if_pos (e2.mpr q)]
      cases xs with
      | nil =>
        simp only [List.length_cons, List.length_nil, List.map_cons, List.map_nil]
        rw [if_pos (show nI (0 + 1) ≤ (1 : Int32) by decide), mkt_one q]
        obtain ⟨f', g1, g2, g3⟩ := lx_stands_250_ok (fs := fs) (fu := fu) (fsp := fsp) (p0 := nI op) (N := 1) hn hfr [x] f row n 0 [] hs (by simp) (by decide) hx trivial rfl (by simp at hb ⊢; omega) (by simp; omega)
        simp only [List.map_cons, List.map_nil, List.flatten_cons, List.flatten_nil, List.append_nil, List.nil_append] at g1 g2
        exact ⟨f', g1, g2, g3⟩
      | cons y ys =>
        rw [if_neg (show ¬ nI (x :: y :: ys).length ≤ (1 : Int32) from fun h9 => by rw [show (1 : Int32) = nI 1 from rfl, nI_le_iff (by omega) (by decide)] at h9; simp at h9), mkt_many (fun _ => by simp), hyl]
        exact many
  · rw [if_neg (fun h9 => q (e2.mp h9)), xr_n ho.1 (by decide), hso.1, if_neg (fun h9 => q (e2.mp h9)), mkt_many (fun h9 => absurd h9 q), hyl]
    exact many
