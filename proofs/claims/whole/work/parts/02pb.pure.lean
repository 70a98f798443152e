def hold (s : Int32) (v : Nat) : Prop := s.toBitVec.getLsbD v = true
theorem hold_or {x y z : Int32} (h : z = x ||| y) (v : Nat) : hold z v ↔ hold x v ∨ hold y v := by
  subst h; unfold hold; rw [Int32.toBitVec_or, BitVec.getLsbD_or, Bool.or_eq_true]
theorem hold_zero (v : Nat) : ¬ hold 0 v := by
  unfold hold; rw [show (0 : Int32).toBitVec = 0#32 from rfl, BitVec.getLsbD_zero]; decide
theorem c04 {c : Int32} (h0 : 0 ≤ c.toInt) (h1 : c.toInt ≤ 4) : c = 0 ∨ c = 1 ∨ c = 2 ∨ c = 3 ∨ c = 4 := by
  have e : ∀ k : Int32, c.toInt = k.toInt → c = k := fun k h => Int32.toInt_inj.mp h
  rcases (by omega : c.toInt = 0 ∨ c.toInt = 1 ∨ c.toInt = 2 ∨ c.toInt = 3 ∨ c.toInt = 4) with q | q | q | q | q
  · exact Or.inl (e 0 q)
  · exact Or.inr (Or.inl (e 1 q))
  · exact Or.inr (Or.inr (Or.inl (e 2 q)))
  · exact Or.inr (Or.inr (Or.inr (Or.inl (e 3 q))))
  · exact Or.inr (Or.inr (Or.inr (Or.inr (e 4 q))))
theorem hold_one (c : Int32) (h0 : 0 ≤ c.toInt) (h1 : c.toInt ≤ 4) {v : Nat} (hv : v < 5) : hold (1 <<< (c &&& 31)) v ↔ v = c.toNatClampNeg := by
  have key : ∀ v : Fin 5, ∀ k : Fin 5, ((1 <<< ((Int32.ofNat k.val) &&& 31) : Int32).toBitVec.getLsbD v.val = true ↔ v.val = (Int32.ofNat k.val).toNatClampNeg) := by decide
  unfold hold
  rcases c04 h0 h1 with q | q | q | q | q <;> subst q
  · exact key ⟨v, hv⟩ 0
  · exact key ⟨v, hv⟩ 1
  · exact key ⟨v, hv⟩ 2
  · exact key ⟨v, hv⟩ 3
  · exact key ⟨v, hv⟩ 4
theorem hold_bit {s : Int32} (n : Nat) (k : Int32) (hk : ∀ x : Int32, (x >>> (k &&& 31)).toBitVec = x.toBitVec.sshiftRight n) (hn : n < 32) : ((s >>> (k &&& 31)) &&& 1).toInt = 1 ↔ hold s n := by
  have e : ((s >>> (k &&& 31)) &&& 1).toBitVec = BitVec.setWidth 32 (BitVec.ofBool (s.toBitVec.getLsbD n)) := by
    show (s >>> (k &&& 31)).toBitVec &&& 1#32 = _
    rw [hk, BitVec.and_one_eq_setWidth_ofBool_getLsbD, BitVec.getLsbD_sshiftRight]
    simp [hn]
  have e2 : ((s >>> (k &&& 31)) &&& 1).toInt = (BitVec.setWidth 32 (BitVec.ofBool (s.toBitVec.getLsbD n))).toInt := by rw [← e]; rfl
  rw [e2]; unfold hold
  cases s.toBitVec.getLsbD n <;> decide
theorem hold_get {s k : Int32} (h0 : 0 ≤ k.toInt) (h1 : k.toInt ≤ 4) : ((s >>> (k &&& 31)) &&& 1).toInt = 1 ↔ hold s k.toNatClampNeg := by
  rcases c04 h0 h1 with q | q | q | q | q <;> subst q
  · exact hold_bit 0 0 (fun _ => rfl) (by decide)
  · exact hold_bit 1 1 (fun _ => rfl) (by decide)
  · exact hold_bit 2 2 (fun _ => rfl) (by decide)
  · exact hold_bit 3 3 (fun _ => rfl) (by decide)
  · exact hold_bit 4 4 (fun _ => rfl) (by decide)
/-! ===== variables of a term, as bits ===== -/
def hb (s : Int32) (v : Nat) : Bool := s.toBitVec.getLsbD v
theorem fx_holds_ok {n : Nat} {s : Int32} {v : Nat} (hv : v < 5) : fx_holds n s (nI v) = some (if hb s v then 1 else 0) := by
  have e := nI_toInt (n := v) (by omega)
  have h := hold_get (s := s) (k := nI v) (by omega) (by omega)
  rw [nI_clamp (by omega)] at h
  unfold fx_holds
  rw [xl_eq, xl_eq]
  by_cases q : hb s v = true
  · have h1 : ((s >>> (nI v &&& 31)) &&& 1) = 1 := Int32.toInt_inj.mp (h.mpr q)
    rw [if_pos h1, if_pos q]
  · rw [if_neg (fun h1 => q (h.mp (by rw [h1]; rfl))), if_neg q]
theorem lx_variablesAt_ok {n : Nat} {f : Nat → Int32} {p0 : Int32} : ∀ (l : List Nat) (a m : Nat) (s : Int32), la f a l → col l → a + l.length ≤ 60000 → l.length < m →
    ∃ s' : Int32, lx_variablesAt_11 n f p0 m s (nI (a + l.length)) (nI a) = some s' ∧ ∀ v : Nat, v < 5 → (hb s' v = true ↔ hb s v = true ∨ v ∈ l)
  | [], a, m + 1, s, _, _, _, _ => by
    refine ⟨s, ?_, fun v _ => by simp⟩
    show bx_variablesAt_11 n f p0 (lx_variablesAt_11 n f p0 m) _ _ _ = _
    unfold bx_variablesAt_11
    simp only [List.length_nil, Nat.add_zero]
    rw [if_pos (Int32.le_refl _)]
  | c :: l, a, m + 1, s, hl, hc, ha, hm => by
    simp only [List.length_cons] at ha hm ⊢
    have hcc := cok_lt (col_cons.mp hc).1
    have eL : lx_variablesAt_11 n f p0 (m + 1) s (nI (a + (l.length + 1))) (nI a) = bx_variablesAt_11 n f p0 (lx_variablesAt_11 n f p0 m) s (nI (a + (l.length + 1))) (nI a) := rfl
    rw [eL]
    unfold bx_variablesAt_11
    rw [if_neg (by rw [nI_le_iff (by omega) (by omega)]; omega), xr_n (by omega) (by decide), hl.1, show (512 : Int32) = nI 512 from rfl]
    by_cases q : 512 ≤ c
    · obtain ⟨s', g1, g2⟩ := lx_variablesAt_ok (n := n) (p0 := p0) l (a + 1) m s hl.2 (col_cons.mp hc).2 (by omega) (by omega)
      refine ⟨s', ?_, fun v hv => ?_⟩
      · rw [if_pos (by rw [nI_le_iff (by decide) (by omega)]; exact q), xl_eq, nI_1, show a + (l.length + 1) = a + 1 + l.length by omega]; exact g1
      · rw [g2 v hv, List.mem_cons]
        constructor
        · rintro (h | h)
          · exact Or.inl h
          · exact Or.inr (Or.inr h)
        · rintro (h | h | h)
          · exact Or.inl h
          · omega
          · exact Or.inr h
    · have hc5 : c < 5 := by rcases (col_cons.mp hc).1 with g | g <;> omega
      have e := nI_toInt (n := c) (by omega)
      obtain ⟨s', g1, g2⟩ := lx_variablesAt_ok (n := n) (p0 := p0) l (a + 1) m (s ||| (1 <<< (nI c &&& 31))) hl.2 (col_cons.mp hc).2 (by omega) (by omega)
      refine ⟨s', ?_, fun v hv => ?_⟩
      · rw [if_neg (by rw [nI_le_iff (by decide) (by omega)]; exact q), xr_n (by omega) (by decide), hl.1, xl_eq, xl_eq, xl_eq, nI_1, show a + (l.length + 1) = a + 1 + l.length by omega]; exact g1
      · have h1 := hold_one (nI c) (by omega) (by omega) hv
        have h2 := hold_or (x := s) (y := 1 <<< (nI c &&& 31)) rfl v
        rw [nI_clamp (by omega)] at h1
        have h3 : hb (s ||| (1 <<< (nI c &&& 31))) v = true ↔ hb s v = true ∨ v = c := h2.trans (or_congr Iff.rfl h1)
        rw [g2 v hv, h3, List.mem_cons, or_assoc]
theorem fx_variablesAt_ok {n : Nat} {f : Nat → Int32} {l : List Nat} {a : Nat} (hl : la f a l) (hw : wf 1 l) (hc : col l) (ha : a + l.length ≤ 60000) (hn : 100000 ≤ n) : ∃ s : Int32, fx_variablesAt n f (nI a) = some s ∧ ∀ v : Nat, v < 5 → (hb s v = true ↔ v ∈ l) := by
  obtain ⟨s, g1, g2⟩ := lx_variablesAt_ok (n := n) (p0 := nI a) l a n 0 hl hc ha (by omega)
  refine ⟨s, ?_, fun v hv => ?_⟩
  · unfold fx_variablesAt
    rw [fx_behind_ok hl hw hc ha hn, xb1_s]; exact g1
  · rw [g2 v hv]
    constructor
    · rintro (h | h)
      · exact absurd h (hold_zero v)
      · exact h
    · exact Or.inr
/-! ===== what was found: keys of 105 cells ===== -/
def kok (k : List Nat) : Prop := k.length = 105 ∧ ∀ c ∈ k, c < 5632
theorem lx_comparesFound_ok {n : Nat} {f : Nat → Int32} {a b : Nat} (ha : a ≤ 301) (hb' : b ≤ 301) : ∀ (l r : List Nat) (x m : Nat), la f (105 * a + x) l → la f (105 * b + x) r → (∀ c ∈ l, c < 5632) → (∀ c ∈ r, c < 5632) → x + l.length = 105 → x + r.length = 105 → l.length < m →
    lx_comparesFound_2 n f (nI a) (nI b) m (nI x) = some (cmpL l r)
  | [], r, x, m + 1, _, _, _, _, h1, h2, _ => by
    show bx_comparesFound_2 n f (nI a) (nI b) (lx_comparesFound_2 n f (nI a) (nI b) m) _ = _
    unfold bx_comparesFound_2
    simp only [List.length_nil, Nat.add_zero] at h1
    subst h1
    rw [if_pos (by decide)]; rfl
  | c :: l, [], x, m + 1, _, _, _, _, h1, h2, _ => by
    simp only [List.length_cons, List.length_nil] at h1 h2; omega
  | c :: l, d :: r, x, m + 1, hl, hr, hcl, hcr, h1, h2, hm => by
    simp only [List.length_cons] at h1 h2 hm
    have hc := hcl c (List.mem_cons_self ..)
    have hd := hcr d (List.mem_cons_self ..)
    show bx_comparesFound_2 n f (nI a) (nI b) (lx_comparesFound_2 n f (nI a) (nI b) m) _ = _
    unfold bx_comparesFound_2
    rw [show (105 : Int32) = nI 105 from rfl, if_neg (by rw [nI_le_iff (by decide) (by omega)]; omega), show (0 : Int32) = nI 0 from rfl, fx_foundAt_ok (by omega) (by decide), xb1_s, xl_eq, nI_add, show 21 * (5 * a + 0) + x = 105 * a + x by omega, xr_n (by omega) (by decide), hl.1, fx_foundAt_ok (by omega) (by decide), xb1_s, xl_eq, nI_add, show 21 * (5 * b + 0) + x = 105 * b + x by omega, xr_n (by omega) (by decide), hr.1]
    show _ = some (if c = d then cmpL l r else if c < d then -1 else 1)
    by_cases q : c = d
    · subst q
      rw [if_pos rfl, if_pos rfl, xl_eq, nI_1]
      exact lx_comparesFound_ok ha hb' l r (x + 1) m (by rw [show 105 * a + (x + 1) = 105 * a + x + 1 by omega]; exact hl.2) (by rw [show 105 * b + (x + 1) = 105 * b + x + 1 by omega]; exact hr.2) (fun e he => hcl e (List.mem_cons_of_mem _ he)) (fun e he => hcr e (List.mem_cons_of_mem _ he)) (by omega) (by omega) (by omega)
    · rw [if_neg (by rw [nI_inj (by omega) (by omega)]; exact q), if_neg q]
      by_cases q2 : c < d
      · rw [if_neg (by rw [nI_le_iff (by omega) (by omega)]; omega), if_pos q2]
      · rw [if_pos (by rw [nI_le_iff (by omega) (by omega)]; omega), if_neg q2]
theorem fx_comparesFound_ok {n : Nat} {f : Nat → Int32} {a b : Nat} {k h : List Nat} (ha : a ≤ 301) (hb' : b ≤ 301) (hk : kok k) (hh : kok h) (h1 : la f (105 * a) k) (h2 : la f (105 * b) h) (hn : 100000 ≤ n) : fx_comparesFound n f (nI a) (nI b) = some (cmpL k h) := by
  unfold fx_comparesFound
  exact lx_comparesFound_ok ha hb' k h 0 n h1 h2 hk.2 hh.2 (by have := hk.1; omega) (by have := hh.1; omega) (by have := hk.1; omega)
theorem cmpL_eq2 : ∀ {l r : List Nat}, l.length = r.length → (cmpL l r = 0 ↔ l = r)
  | [], [], _ => by simp [cmpL]
  | [], d :: r, h => by simp at h
  | c :: l, [], h => by simp at h
  | c :: l, d :: r, h => by
    unfold cmpL
    by_cases q : c = d
    · subst q
      rw [if_pos rfl, cmpL_eq2 (by simpa using h)]; simp
    · rw [if_neg q]
      constructor
      · intro e; split at e <;> exact absurd e (by decide)
      · intro e; simp [q] at e
/-! ===== records, loop by loop ===== -/
abbrev RRes := Option (Int32 × (Nat → Int32) × Int32)
theorem lx_records_255_ok {n : Nat} {fp fb : Nat → Int32} {pv x1 tm : Int32} {fm at_ : Nat} (ha : at_ ≤ 300) : ∀ (k x m : Nat) (f : Nat → Int32), x + k = 105 → k < m →
    ∃ f' : Nat → Int32, lx_records_255 n fp fb pv m x1 (nI at_) (nI x) (nI fm) f tm = some (nI (fm + 1), f', tm) ∧ (∀ j : Nat, 105 * at_ + x ≤ j → j < 105 * at_ + 105 → f' j = f (31605 + (j - 105 * at_))) ∧ (∀ j : Nat, (j < 105 * at_ + x ∨ 105 * at_ + 105 ≤ j) → f' j = f j)
  | 0, x, m + 1, f, hx, _ => by
    refine ⟨f, ?_, fun j h1 h2 => by omega, fun _ _ => rfl⟩
    show bx_records_255 n fp fb pv (lx_records_255 n fp fb pv m) _ _ _ _ _ _ = _
    unfold bx_records_255
    rw [show (105 : Int32) = nI 105 from rfl, if_pos (by rw [nI_le_iff (by decide) (by omega)]; omega), xl_eq, nI_1]
  | k + 1, x, m + 1, f, hx, hm => by
    obtain ⟨f', g1, g2, g3⟩ := lx_records_255_ok (n := n) (fp := fp) (fb := fb) (pv := pv) (x1 := x1) (tm := tm) (fm := fm) ha k (x + 1) m (upd f (105 * at_ + x) (f (31605 + x))) (by omega) (by omega)
    refine ⟨f', ?_, fun j h1 h2 => ?_, fun j h1 => ?_⟩
    · show bx_records_255 n fp fb pv (lx_records_255 n fp fb pv m) _ _ _ _ _ _ = _
      unfold bx_records_255
      rw [show (105 : Int32) = nI 105 from rfl, if_neg (by rw [nI_le_iff (by decide) (by omega)]; omega), show (0 : Int32) = nI 0 from rfl, fx_foundAt_ok (by omega) (by decide), xb1_s, xl_eq, nI_add, show (301 : Int32) = nI 301 from rfl, fx_foundAt_ok (by decide) (by decide), xb1_s, xl_eq, nI_add, xr_n (by omega) (by decide), xw_n (by omega) (by decide), xl_eq, nI_1, show 21 * (5 * at_ + 0) + x = 105 * at_ + x by omega]
      exact g1
    · by_cases q : j = 105 * at_ + x
      · rw [g3 j (Or.inl (by omega)), q, upd_eq]; congr 1; omega
      · rw [g2 j (by omega) h2, upd_ne (by omega)]
    · rw [g3 j (by omega), upd_ne (by omega)]
theorem lx_records_222_ok {n : Nat} {fp fb : Nat → Int32} {pv x1 tm fm : Int32} {at_ : Nat} (ha : at_ ≤ 300) : ∀ (k y m : Nat) (f : Nat → Int32), y = 105 * at_ + k → y + 105 ≤ 31710 → k < m →
    ∃ f' : Nat → Int32, lx_records_222 n fp fb pv m x1 (nI at_) (nI y - 1) fm f tm = lx_records_255 n fp fb pv n x1 (nI at_) (nI 0) fm f' tm ∧ (∀ j : Nat, 105 * at_ + 105 ≤ j → j < y + 105 → f' j = f (j - 105)) ∧ (∀ j : Nat, (j < 105 * at_ + 105 ∨ y + 105 ≤ j) → f' j = f j)
  | 0, y, m + 1, f, hy, hb', _ => by
    refine ⟨f, ?_, fun j h1 h2 => by omega, fun _ _ => rfl⟩
    show bx_records_222 n fp fb pv (lx_records_222 n fp fb pv m) _ _ _ _ _ _ = _
    unfold bx_records_222
    rw [show (0 : Int32) = nI 0 from rfl, fx_foundAt_ok (by omega) (by decide), xb1_s]
    rw [if_pos (by
      rw [show 21 * (5 * at_ + 0) = y by omega]
      cases y with
      | zero => decide
      | succ y => rw [nI_pred, nI_lt_iff (by omega) (by omega)]; omega)]
  | k + 1, y, m + 1, f, hy, hb', hm => by
    obtain ⟨z, rfl⟩ : ∃ z, y = z + 1 := ⟨y - 1, by omega⟩
    obtain ⟨f', g1, g2, g3⟩ := lx_records_222_ok (n := n) (fp := fp) (fb := fb) (pv := pv) (x1 := x1) (tm := tm) (fm := fm) ha k z m (upd f (z + 105) (f z)) (by omega) (by omega) (by omega)
    refine ⟨f', ?_, fun j h1 h2 => ?_, fun j h1 => ?_⟩
    · show bx_records_222 n fp fb pv (lx_records_222 n fp fb pv m) _ _ _ _ _ _ = _
      unfold bx_records_222
      rw [show (0 : Int32) = nI 0 from rfl, fx_foundAt_ok (by omega) (by decide), xb1_s, nI_pred, if_neg (by rw [nI_lt_iff (by omega) (by omega)]; omega), xl_eq, show (105 : Int32) = nI 105 from rfl, nI_add, xr_n (by omega) (by decide), xw_n (by omega) (by decide), xl_eq, show nI z + (-1) = nI z - 1 by grind]
      exact g1
    · by_cases q : j = z + 105
      · rw [g3 j (Or.inr (by omega)), q, upd_eq]; congr 1
      · rw [g2 j h1 (by omega), upd_ne (by omega)]
    · rw [g3 j (by omega), upd_ne (by omega)]
theorem lx_records_173_ok {n : Nat} {fp fb : Nat → Int32} {pv tm fm x2 : Int32} {L : Nat} (hL : L ≤ 300) : ∀ (k x m : Nat) (f : Nat → Int32), x + k = 105 → k < m →
    ∃ f' : Nat → Int32, lx_records_173 n fp fb pv m (nI L) x2 (nI x) fm f tm = lx_records_222 n fp fb pv n (nI L) x2 (nI (105 * L) - 1) fm f' tm ∧ (∀ j : Nat, 31605 + x ≤ j → j < 31710 → f' j = f (105 * L + (j - 31605))) ∧ (∀ j : Nat, (j < 31605 + x ∨ 31710 ≤ j) → f' j = f j)
  | 0, x, m + 1, f, hx, _ => by
    refine ⟨f, ?_, fun j h1 h2 => by omega, fun _ _ => rfl⟩
    show bx_records_173 n fp fb pv (lx_records_173 n fp fb pv m) _ _ _ _ _ _ = _
    unfold bx_records_173
    rw [show (105 : Int32) = nI 105 from rfl, if_pos (by rw [nI_le_iff (by decide) (by omega)]; omega), show (0 : Int32) = nI 0 from rfl, fx_foundAt_ok (by omega) (by decide), xb1_s, xl_eq, show 21 * (5 * L + 0) = 105 * L by omega]
  | k + 1, x, m + 1, f, hx, hm => by
    obtain ⟨f', g1, g2, g3⟩ := lx_records_173_ok (n := n) (fp := fp) (fb := fb) (pv := pv) (tm := tm) (fm := fm) (x2 := x2) hL k (x + 1) m (upd f (31605 + x) (f (105 * L + x))) (by omega) (by omega)
    refine ⟨f', ?_, fun j h1 h2 => ?_, fun j h1 => ?_⟩
    · show bx_records_173 n fp fb pv (lx_records_173 n fp fb pv m) _ _ _ _ _ _ = _
      unfold bx_records_173
      rw [show (105 : Int32) = nI 105 from rfl, if_neg (by rw [nI_le_iff (by decide) (by omega)]; omega), show (0 : Int32) = nI 0 from rfl, show (301 : Int32) = nI 301 from rfl, fx_foundAt_ok (by decide) (by decide), xb1_s, xl_eq, nI_add, fx_foundAt_ok (by omega) (by decide), xb1_s, xl_eq, nI_add, show 21 * (5 * L + 0) + x = 105 * L + x by omega, xr_n (by omega) (by decide), xw_n (by omega) (by decide), xl_eq, nI_1]
      exact g1
    · by_cases q : j = 31605 + x
      · rw [g3 j (Or.inl (by omega)), q, upd_eq, show 31605 + x - 31605 = x by omega]
      · rw [g2 j (by omega) h2, upd_ne (by omega)]
    · rw [g3 j (by omega), upd_ne (by omega)]
