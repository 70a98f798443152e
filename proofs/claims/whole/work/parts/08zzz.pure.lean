/-! ===== the class's scanner ===== -/
/-- the tape, as the class has it -/
def TPC (h : Nat → Nat → Int32) (L : List Nat) : Prop := L.length ≤ 400 ∧ (∀ b ∈ L, b < 256) ∧ la (h 1) 0 L
def lok (L : List Nat) (p : Nat) : Int32 := if p < L.length then nI (gb L p) else -1
theorem m1_lt {a : Nat} (h : a < 2147483648) : (-1 : Int32) < nI a := by
  rw [Int32.lt_iff_toInt_lt, nI_toInt h]
  have e : (-1 : Int32).toInt = -1 := rfl
  omega
theorem gb_le {L : List Nat} {p : Nat} (h : ∀ b ∈ L, b < 256) : gb L p < 256 := by
  by_cases q : p < L.length
  · exact h _ (gb_mem q)
  · unfold gb
    rw [List.getD_eq_getElem?_getD, List.getElem?_eq_none (by omega)]
    decide
theorem fx_look_c {n p : Nat} {h : Nat → Nat → Int32} {L : List Nat} (ht : TPC h L) (h1 : h 0 1 = nI L.length) (h2 : h 0 2 = nI p) (hp : p ≤ L.length) : fx_X3_look n h = some (lok L p) := by
  have h4 := ht.1
  unfold fx_X3_look lok
  rw [h2, if_neg (by rw [show (0 : Int32) = nI 0 from rfl, nI_lt_iff (by omega) (by decide)]; omega), h1]
  by_cases q : p < L.length
  · have g := la_gb ht.2.2 q
    rw [Nat.zero_add] at g
    rw [if_neg (by rw [nI_le_iff (by omega) (by omega)]; omega), if_neg (by rw [show (400 : Int32) = nI 400 from rfl, nI_le_iff (by decide) (by omega)]; omega), xr_n (by omega) (by decide), if_pos q, g]
  · rw [if_pos (by rw [nI_le_iff (by omega) (by omega)]; omega), if_neg q]
theorem lok_isb {L : List Nat} {p lo hi : Nat} (hL : ∀ b ∈ L, b < 256) (hlo : lo < 256) (hhi : hi < 256) : (if lok L p < nI lo then some (0 : Int32) else if nI hi < lok L p then some 0 else some 1) = some (if isb L p lo hi then 1 else 0) := by
  have g := gb_le (p := p) hL
  unfold lok isb
  by_cases q : p < L.length
  · rw [if_pos q, decide_eq_true q, Bool.true_and]
    by_cases a : gb L p < lo
    · rw [if_pos (by rw [nI_lt_iff (by omega) (by omega)]; exact a), decide_eq_false (show ¬ lo ≤ gb L p by omega), Bool.false_and]; rfl
    · rw [if_neg (by rw [nI_lt_iff (by omega) (by omega)]; exact a), decide_eq_true (show lo ≤ gb L p by omega), Bool.true_and]
      by_cases c : hi < gb L p
      · rw [if_pos (by rw [nI_lt_iff (by omega) (by omega)]; exact c), decide_eq_false (show ¬ gb L p ≤ hi by omega)]; rfl
      · rw [if_neg (by rw [nI_lt_iff (by omega) (by omega)]; exact c), decide_eq_true (show gb L p ≤ hi by omega)]; rfl
  · rw [if_neg q, decide_eq_false q, Bool.false_and, if_pos (m1_lt (by omega))]; rfl
theorem isLetter_c {n p : Nat} {L : List Nat} (hL : ∀ b ∈ L, b < 256) : fx_X3_isLetter n (lok L p) = some (if isLe L p then 1 else 0) := lok_isb (lo := 97) (hi := 122) hL (by decide) (by decide)
theorem isDigit_c {n p : Nat} {L : List Nat} (hL : ∀ b ∈ L, b < 256) : fx_X3_isDigit n (lok L p) = some (if isDg L p then 1 else 0) := lok_isb (lo := 48) (hi := 57) hL (by decide) (by decide)
theorem isBlank_c {n p : Nat} {L : List Nat} (hL : ∀ b ∈ L, b < 256) : fx_X3_isBlank n (lok L p) = some (if isBl L p then 1 else 0) := by
  have g := gb_le (p := p) hL
  unfold fx_X3_isBlank lok isBl isb
  by_cases q : p < L.length
  · rw [if_pos q, decide_eq_true q, Bool.true_and, Bool.true_and, show (9 : Int32) = nI 9 from rfl, show (10 : Int32) = nI 10 from rfl, show (32 : Int32) = nI 32 from rfl]
    by_cases a : gb L p = 9
    · rw [a]; rfl
    · rw [if_neg (by rw [nI_inj (by omega) (by decide)]; exact a)]
      by_cases b : gb L p = 10
      · rw [b]; rfl
      · rw [if_neg (by rw [nI_inj (by omega) (by decide)]; exact b)]
        have e1 : (decide (9 ≤ gb L p) && decide (gb L p ≤ 10)) = false := by
          rw [Bool.and_eq_false_iff]
          by_cases c : 9 ≤ gb L p
          · exact Or.inr (decide_eq_false (by omega))
          · exact Or.inl (decide_eq_false c)
        rw [e1, Bool.false_or]
        by_cases c : gb L p = 32
        · rw [c]; rfl
        · rw [if_neg (by rw [nI_inj (by omega) (by decide)]; exact c)]
          have e2 : (decide (32 ≤ gb L p) && decide (gb L p ≤ 32)) = false := by
            rw [Bool.and_eq_false_iff]
            by_cases d : 32 ≤ gb L p
            · exact Or.inr (decide_eq_false (by omega))
            · exact Or.inl (decide_eq_false d)
          rw [e2]; rfl
  · rw [if_neg q, decide_eq_false q, Bool.false_and, Bool.false_and]
    decide
/-- a word's number: none where it is too long -/
def wv (w : List Nat) : Nat := if w.length ≤ 6 then wnu w else 0
/-- of the scanner nothing but the token has changed -/
def FSC (h h' : Nat → Nat → Int32) : Prop := h' 1 = h 1 ∧ h' 0 0 = h 0 0 ∧ h' 0 1 = h 0 1
theorem FSC_r {h : Nat → Nat → Int32} : FSC h h := ⟨rfl, rfl, rfl⟩
theorem FSC_t {a b c : Nat → Nat → Int32} (x : FSC a b) (y : FSC b c) : FSC a c := ⟨y.1.trans x.1, y.2.1.trans x.2.1, y.2.2.trans x.2.2⟩
theorem TPC_f {h h' : Nat → Nat → Int32} {L : List Nat} (ht : TPC h L) (f : FSC h h') : TPC h' L := ⟨ht.1, ht.2.1, by rw [f.1]; exact ht.2.2⟩
theorem sli_snoc {L : List Nat} {b e : Nat} (h1 : b ≤ e) (h2 : e < L.length) : sli L b (e + 1) = sli L b e ++ [gb L e] := by
  unfold sli
  rw [show e + 1 - b = e - b + 1 by omega, List.take_add_one]
  refine congrArg (fun z => (L.drop b).take (e - b) ++ z) ?_
  unfold gb
  rw [List.getElem?_drop, show b + (e - b) = e by omega, List.getD_eq_getElem?_getD, List.getElem?_eq_getElem h2]; rfl
theorem mu0_eq {h : Nat → Nat → Int32} {i : Nat} {v : Int32} : mu h 0 i v 0 i = v := by rw [mu_eq, upd_eq]
theorem mu0_ne {h : Nat → Nat → Int32} {i j : Nat} {v : Int32} (q : j ≠ i) : mu h 0 i v 0 j = h 0 j := by rw [mu_eq, upd_ne q]
theorem lx_readWord_c {n q : Nat} {L : List Nat} : ∀ (d j m : Nat) (h : Nat → Nat → Int32), TPC h L → h 0 1 = nI L.length → h 0 2 = nI (q + j) → q + j ≤ L.length → h 0 5 = nI (wv (sli L q (q + j))) → (∀ i : Nat, q ≤ i → i < q + j → isLe L i = true) → L.length ≤ q + j + d → d < m →
    ∃ h' : Nat → Nat → Int32, lx_X3_readWord_17 n m (nI j) (lok L (q + j)) h = some h' ∧ FSC h h' ∧ h' 0 3 = h 0 3 ∧ h' 0 4 = h 0 4 ∧ h' 0 2 = nI (scn (isLe L) d (q + j)) ∧ h' 0 5 = nI (wv (sli L q (scn (isLe L) d (q + j))))
  | d, j, 0, h, _, _, _, _, _, _, _, hm => by omega
  | d, j, m + 1, h, ht, h1, h2, hp, h5, hle, hd, hm => by
    have h4 := ht.1
    show ∃ h' : Nat → Nat → Int32, bx_X3_readWord_17 n (lx_X3_readWord_17 n m) (nI j) (lok L (q + j)) h = some h' ∧ _
    unfold bx_X3_readWord_17
    have stop : isLe L (q + j) = false → scn (isLe L) d (q + j) = q + j := fun z => scn_f z
    by_cases c : 400 ≤ j
    · have z : isLe L (q + j) = false := by
        cases y : isLe L (q + j) with
        | false => rfl
        | true => have := isLe_lt _ y; omega
      rw [if_pos (by rw [show (400 : Int32) = nI 400 from rfl, nI_le_iff (by decide) (by omega)]; exact c), stop z]
      exact ⟨h, rfl, FSC_r, rfl, rfl, h2, h5⟩
    · rw [if_neg (by rw [show (400 : Int32) = nI 400 from rfl, nI_le_iff (by decide) (by omega)]; exact c), isLetter_c ht.2.1, xb1_s]
      cases y : isLe L (q + j) with
      | false =>
        rw [if_pos (by decide), stop y]
        exact ⟨h, rfl, FSC_r, rfl, rfl, h2, h5⟩
      | true =>
        have hlt := isLe_lt _ y
        have yb := isb_lt (show isb L (q + j) 97 122 = true from y)
        have el : lok L (q + j) = nI (gb L (q + j)) := if_pos hlt
        have ls := sli_len (L := L) (b := q) (e := q + j) (by omega)
        have es := sli_snoc (L := L) (b := q) (e := q + j) (by omega) hlt
        cases d with
        | zero => omega
        | succ d =>
          rw [if_neg (by decide), scn_t y]
          have step : ∀ v : Int32, v = nI (wv (sli L q (q + j + 1))) → ∃ h' : Nat → Nat → Int32, (xb1 (fx_X3_look n (mu (mu h 0 5 v) 0 2 (nI (q + j) + 1))) fun r_14 => lx_X3_readWord_17 n m (nI j + 1) r_14 (mu (mu h 0 5 v) 0 2 (nI (q + j) + 1))) = some h' ∧ FSC h h' ∧ h' 0 3 = h 0 3 ∧ h' 0 4 = h 0 4 ∧ h' 0 2 = nI (scn (isLe L) d (q + j + 1)) ∧ h' 0 5 = nI (wv (sli L q (scn (isLe L) d (q + j + 1)))) := fun v hv => by
            have fs : FSC h (mu (mu h 0 5 v) 0 2 (nI (q + j + 1))) := ⟨by rw [mu_ne (by decide), mu_ne (by decide)], by rw [mu0_ne (by decide), mu0_ne (by decide)], by rw [mu0_ne (by decide), mu0_ne (by decide)]⟩
            rw [nI_1, nI_1, fx_look_c (TPC_f ht fs) (fs.2.2.trans h1) mu0_eq (by omega), xb1_s]
            obtain ⟨h', g1, g2, g3, g4, g5, g6⟩ := lx_readWord_c d (j + 1) m (mu (mu h 0 5 v) 0 2 (nI (q + j + 1))) (TPC_f ht fs) (fs.2.2.trans h1) mu0_eq (by omega) (by rw [mu0_ne (by decide), mu0_eq]; exact hv) (fun i i1 i2 => by
              by_cases e : i = q + j
              · rw [e]; exact y
              · exact hle i i1 (by omega)) (by omega) (by omega)
            exact ⟨h', g1, FSC_t fs g2, by rw [g3, mu0_ne (by decide), mu0_ne (by decide)], by rw [g4, mu0_ne (by decide), mu0_ne (by decide)], g5, g6⟩
          by_cases c6 : 6 ≤ j
          · rw [if_pos (by rw [show (6 : Int32) = nI 6 from rfl, nI_le_iff (by decide) (by omega)]; exact c6)]
            simp only [xl_eq]
            rw [show (mu h 0 5 0) 0 2 = nI (q + j) from (mu0_ne (by decide)).trans h2]
            refine step 0 ?_
            unfold wv
            rw [if_neg (by rw [es, List.length_append, ls]; simp only [List.length_cons, List.length_nil]; omega)]; rfl
          · rw [if_neg (by rw [show (6 : Int32) = nI 6 from rfl, nI_le_iff (by decide) (by omega)]; exact c6)]
            have w1 : wv (sli L q (q + j)) = wnu (sli L q (q + j)) := if_pos (by omega)
            have w2 : wv (sli L q (q + j + 1)) = wnu (sli L q (q + j)) * 32 + (gb L (q + j) - 96) := by
              unfold wv
              rw [if_pos (by rw [es, List.length_append, ls]; simp only [List.length_cons, List.length_nil]; omega), es, wnu_snoc]
            have wl := wnu_lt _ (sli L q (q + j)) rfl (fun b hb2 => by
              obtain ⟨i, i1, i2⟩ := List.getElem_of_mem hb2
              have i3 : gb (sli L q (q + j)) i = b := by
                unfold gb; rw [List.getD_eq_getElem?_getD, List.getElem?_eq_getElem i1]; exact i2
              rw [gb_sli (by omega)] at i3
              have := isb_lt (show isb L (q + i) 97 122 = true from hle (q + i) (by omega) (by omega))
              rw [i3] at this
              exact this.2)
            have wl2 : wnu (sli L q (q + j)) < 33554432 := by
              have : 32 ^ (sli L q (q + j)).length ≤ 32 ^ 5 := Nat.pow_le_pow_right (by decide) (by omega)
              omega
            simp only [xl_eq]
            rw [el, h5, w1]
            have ev : nI (wnu (sli L q (q + j))) * 32 + (nI (gb L (q + j)) - 97 + 1) = nI (wv (sli L q (q + j + 1))) := by
              rw [show (32 : Int32) = nI 32 from rfl, nI_mul (by omega) (by omega) (by decide), show (97 : Int32) = nI 97 from rfl, nI_sub (by omega), nI_1, nI_add, w2]
              exact congrArg nI (by omega)
            rw [ev, show (mu h 0 5 (nI (wv (sli L q (q + j + 1))))) 0 2 = nI (q + j) from (mu0_ne (by decide)).trans h2]
            exact step _ rfl
theorem fx_readWord_c {n q : Nat} {L : List Nat} {h : Nat → Nat → Int32} (hn : 100000 ≤ n) (ht : TPC h L) (h1 : h 0 1 = nI L.length) (h2 : h 0 2 = nI q) (hq : q ≤ L.length) : ∃ h' : Nat → Nat → Int32, fx_X3_readWord n h = some h' ∧ FSC h h' ∧ h' 0 3 = nI 1 ∧ h' 0 4 = h 0 4 ∧ h' 0 2 = nI (wd L q) ∧ h' 0 5 = nI (wv (sli L q (wd L q))) := by
  have h4 := ht.1
  unfold fx_X3_readWord
  rw [xl_eq, xl_eq]
  have fs : FSC h (mu (mu h 0 3 1) 0 5 0) := ⟨by rw [mu_ne (by decide), mu_ne (by decide)], by rw [mu0_ne (by decide), mu0_ne (by decide)], by rw [mu0_ne (by decide), mu0_ne (by decide)]⟩
  have e2 : (mu (mu h 0 3 1) 0 5 0) 0 2 = nI q := by rw [mu0_ne (by decide), mu0_ne (by decide)]; exact h2
  rw [fx_look_c (TPC_f ht fs) (fs.2.2.trans h1) e2 hq, xb1_s]
  obtain ⟨h', g1, g2, g3, g4, g5, g6⟩ := lx_readWord_c (n := n) (q := q) (L := L) 400 0 n (mu (mu h 0 3 1) 0 5 0) (TPC_f ht fs) (fs.2.2.trans h1) e2 hq (by rw [mu0_eq]; unfold sli; rw [Nat.add_zero, Nat.sub_self, List.take_zero]; rfl) (fun i i1 i2 => by omega) (by omega) (by omega)
  exact ⟨h', g1, FSC_t fs g2, by rw [g3, mu0_ne (by decide), mu0_eq]; rfl, by rw [g4, mu0_ne (by decide), mu0_ne (by decide)], g5, g6⟩
/-- a number's digit, if it is one -/
def nv1 (L : List Nat) (q e : Nat) : Int32 := if e = q + 1 then nI (gb L q - 48) else -1
theorem lx_readNumber_c {n q : Nat} {L : List Nat} : ∀ (d j m : Nat) (h : Nat → Nat → Int32), TPC h L → h 0 1 = nI L.length → h 0 2 = nI (q + j) → q + j ≤ L.length → h 0 5 = nv1 L q (q + j) → L.length ≤ q + j + d → d < m →
    ∃ h' : Nat → Nat → Int32, lx_X3_readNumber_17 n m (nI j) (lok L (q + j)) h = some h' ∧ FSC h h' ∧ h' 0 3 = h 0 3 ∧ h' 0 4 = h 0 4 ∧ h' 0 2 = nI (scn (isDg L) d (q + j)) ∧ h' 0 5 = nv1 L q (scn (isDg L) d (q + j))
  | d, j, 0, h, _, _, _, _, _, _, hm => by omega
  | d, j, m + 1, h, ht, h1, h2, hp, h5, hd, hm => by
    have h4 := ht.1
    show ∃ h' : Nat → Nat → Int32, bx_X3_readNumber_17 n (lx_X3_readNumber_17 n m) (nI j) (lok L (q + j)) h = some h' ∧ _
    unfold bx_X3_readNumber_17
    have stop : isDg L (q + j) = false → scn (isDg L) d (q + j) = q + j := fun z => scn_f z
    by_cases c : 400 ≤ j
    · have z : isDg L (q + j) = false := by
        cases y : isDg L (q + j) with
        | false => rfl
        | true => have := isDg_lt _ y; omega
      rw [if_pos (by rw [show (400 : Int32) = nI 400 from rfl, nI_le_iff (by decide) (by omega)]; exact c), stop z]
      exact ⟨h, rfl, FSC_r, rfl, rfl, h2, h5⟩
    · rw [if_neg (by rw [show (400 : Int32) = nI 400 from rfl, nI_le_iff (by decide) (by omega)]; exact c), isDigit_c ht.2.1, xb1_s]
      cases y : isDg L (q + j) with
      | false =>
        rw [if_pos (by decide), stop y]
        exact ⟨h, rfl, FSC_r, rfl, rfl, h2, h5⟩
      | true =>
        have hlt := isDg_lt _ y
        have yb := isb_lt (show isb L (q + j) 48 57 = true from y)
        have el : lok L (q + j) = nI (gb L (q + j)) := if_pos hlt
        cases d with
        | zero => omega
        | succ d =>
          rw [if_neg (by decide), scn_t y]
          have step : ∀ v : Int32, v = nv1 L q (q + j + 1) → ∃ h' : Nat → Nat → Int32, (xb1 (fx_X3_look n (mu (mu h 0 5 v) 0 2 (nI (q + j) + 1))) fun r_14 => lx_X3_readNumber_17 n m (nI j + 1) r_14 (mu (mu h 0 5 v) 0 2 (nI (q + j) + 1))) = some h' ∧ FSC h h' ∧ h' 0 3 = h 0 3 ∧ h' 0 4 = h 0 4 ∧ h' 0 2 = nI (scn (isDg L) d (q + j + 1)) ∧ h' 0 5 = nv1 L q (scn (isDg L) d (q + j + 1)) := fun v hv => by
            have fs : FSC h (mu (mu h 0 5 v) 0 2 (nI (q + j + 1))) := ⟨by rw [mu_ne (by decide), mu_ne (by decide)], by rw [mu0_ne (by decide), mu0_ne (by decide)], by rw [mu0_ne (by decide), mu0_ne (by decide)]⟩
            rw [nI_1, nI_1, fx_look_c (TPC_f ht fs) (fs.2.2.trans h1) mu0_eq (by omega), xb1_s]
            obtain ⟨h', g1, g2, g3, g4, g5, g6⟩ := lx_readNumber_c d (j + 1) m (mu (mu h 0 5 v) 0 2 (nI (q + j + 1))) (TPC_f ht fs) (fs.2.2.trans h1) mu0_eq (by omega) (by rw [mu0_ne (by decide), mu0_eq]; exact hv) (by omega) (by omega)
            exact ⟨h', g1, FSC_t fs g2, by rw [g3, mu0_ne (by decide), mu0_ne (by decide)], by rw [g4, mu0_ne (by decide), mu0_ne (by decide)], g5, g6⟩
          by_cases c6 : j = 0
          · rw [if_pos (by rw [c6]; rfl)]
            simp only [xl_eq]
            rw [el, show (mu h 0 5 (nI (gb L (q + j)) - 48)) 0 2 = nI (q + j) from (mu0_ne (by decide)).trans h2]
            refine step _ ?_
            unfold nv1
            rw [if_pos (by omega), show (48 : Int32) = nI 48 from rfl, nI_sub (by omega), c6]; rfl
          · rw [if_neg (by rw [show (0 : Int32) = nI 0 from rfl, nI_inj (by omega) (by decide)]; exact c6)]
            simp only [xl_eq]
            rw [show (mu h 0 5 (-1)) 0 2 = nI (q + j) from (mu0_ne (by decide)).trans h2]
            refine step _ ?_
            unfold nv1
            rw [if_neg (by omega)]
theorem fx_readNumber_c {n q : Nat} {L : List Nat} {h : Nat → Nat → Int32} (hn : 100000 ≤ n) (ht : TPC h L) (h1 : h 0 1 = nI L.length) (h2 : h 0 2 = nI q) (hq : q ≤ L.length) : ∃ h' : Nat → Nat → Int32, fx_X3_readNumber n h = some h' ∧ FSC h h' ∧ h' 0 3 = nI 2 ∧ h' 0 4 = h 0 4 ∧ h' 0 2 = nI (dg L q) ∧ h' 0 5 = nv1 L q (dg L q) := by
  have h4 := ht.1
  unfold fx_X3_readNumber
  rw [xl_eq, xl_eq]
  have fs : FSC h (mu (mu h 0 3 2) 0 5 (-1)) := ⟨by rw [mu_ne (by decide), mu_ne (by decide)], by rw [mu0_ne (by decide), mu0_ne (by decide)], by rw [mu0_ne (by decide), mu0_ne (by decide)]⟩
  have e2 : (mu (mu h 0 3 2) 0 5 (-1)) 0 2 = nI q := by rw [mu0_ne (by decide), mu0_ne (by decide)]; exact h2
  rw [fx_look_c (TPC_f ht fs) (fs.2.2.trans h1) e2 hq, xb1_s]
  obtain ⟨h', g1, g2, g3, g4, g5, g6⟩ := lx_readNumber_c (n := n) (q := q) (L := L) 400 0 n (mu (mu h 0 3 2) 0 5 (-1)) (TPC_f ht fs) (fs.2.2.trans h1) e2 hq (by rw [mu0_eq]; unfold nv1; rw [if_neg (by omega)]) (by omega) (by omega)
  exact ⟨h', g1, FSC_t fs g2, by rw [g3, mu0_ne (by decide), mu0_eq]; rfl, by rw [g4, mu0_ne (by decide), mu0_ne (by decide)], g5, g6⟩
/-- the token at a place: its sort, its end, its value -/
def tks (L : List Nat) (q : Nat) : Nat := if L.length ≤ q then 0 else if isLe L q then 1 else if isDg L q then 2 else 3
def tke (L : List Nat) (q : Nat) : Nat := if L.length ≤ q then q else if isLe L q then wd L q else if isDg L q then dg L q else q + 1
def tkv (L : List Nat) (q : Nat) : Int32 := if L.length ≤ q then 0 else if isLe L q then nI (wv (sli L q (wd L q))) else if isDg L q then nv1 L q (dg L q) else nI (gb L q)
/-- the scanner stands at the token -/
def SCN (h : Nat → Nat → Int32) (L : List Nat) (q : Nat) : Prop := TPC h L ∧ q ≤ L.length ∧ isBl L q = false ∧ h 0 1 = nI L.length ∧ h 0 4 = nI q ∧ h 0 3 = nI (tks L q) ∧ h 0 2 = nI (tke L q) ∧ h 0 5 = tkv L q
theorem jx_advance_c {n q : Nat} {x2 : Int32} {L : List Nat} {h : Nat → Nat → Int32} (hn : 100000 ≤ n) (ht : TPC h L) (h1 : h 0 1 = nI L.length) (h2 : h 0 2 = nI q) (hq : q ≤ L.length) (hb9 : isBl L q = false) : ∃ h' : Nat → Nat → Int32, jx_X3_advance_42 n (lok L q) x2 h = some h' ∧ FSC h h' ∧ SCN h' L q := by
  have h4 := ht.1
  have gq := gb_le (p := q) ht.2.1
  unfold jx_X3_advance_42
  rw [xl_eq, h2]
  have fs : FSC h (mu h 0 4 (nI q)) := ⟨by rw [mu_ne (by decide)], by rw [mu0_ne (by decide)], by rw [mu0_ne (by decide)]⟩
  have ht' := TPC_f ht fs
  have h1' := fs.2.2.trans h1
  have e4 : (mu h 0 4 (nI q)) 0 4 = nI q := mu0_eq
  have e2 : (mu h 0 4 (nI q)) 0 2 = nI q := by rw [mu0_ne (by decide)]; exact h2
  by_cases c : q < L.length
  · have el : lok L q = nI (gb L q) := if_pos c
    rw [if_pos (by rw [el, show (0 : Int32) = nI 0 from rfl, nI_le_iff (by decide) (by omega)]; omega), isLetter_c ht.2.1, xb1_s]
    cases y : isLe L q with
    | true =>
      rw [if_neg (by decide)]
      obtain ⟨h', g1, g2, g3, g4, g5, g6⟩ := fx_readWord_c hn ht' h1' e2 hq
      rw [g1, xb1_s]
      refine ⟨h', rfl, FSC_t fs g2, TPC_f ht' g2, hq, hb9, g2.2.2.trans h1', g4.trans e4, ?_, ?_, ?_⟩
      · rw [g3]; unfold tks; rw [if_neg (by omega), y, if_pos rfl]
      · rw [g5]; unfold tke; rw [if_neg (by omega), y, if_pos rfl]
      · rw [g6]; unfold tkv; rw [if_neg (by omega), y, if_pos rfl]
    | false =>
      rw [if_pos (by decide), isDigit_c ht.2.1, xb1_s]
      cases z : isDg L q with
      | true =>
        rw [if_neg (by decide)]
        obtain ⟨h', g1, g2, g3, g4, g5, g6⟩ := fx_readNumber_c hn ht' h1' e2 hq
        rw [g1, xb1_s]
        refine ⟨h', rfl, FSC_t fs g2, TPC_f ht' g2, hq, hb9, g2.2.2.trans h1', g4.trans e4, ?_, ?_, ?_⟩
        · rw [g3]; unfold tks; rw [if_neg (by omega), y, z]; rfl
        · rw [g5]; unfold tke; rw [if_neg (by omega), y, z]; rfl
        · rw [g6]; unfold tkv; rw [if_neg (by omega), y, z]; rfl
      | false =>
        rw [if_pos (by decide), xl_eq, xl_eq, xl_eq, xl_eq]
        rw [show (mu (mu (mu h 0 4 (nI q)) 0 3 3) 0 5 (lok L q)) 0 2 = nI q by rw [mu0_ne (by decide), mu0_ne (by decide)]; exact e2, nI_1]
        refine ⟨_, rfl, ⟨by rw [mu_ne (by decide), mu_ne (by decide), mu_ne (by decide), mu_ne (by decide)], by rw [mu0_ne (by decide), mu0_ne (by decide), mu0_ne (by decide), mu0_ne (by decide)], by rw [mu0_ne (by decide), mu0_ne (by decide), mu0_ne (by decide), mu0_ne (by decide)]⟩, ⟨ht.1, ht.2.1, by rw [mu_ne (by decide), mu_ne (by decide), mu_ne (by decide), mu_ne (by decide)]; exact ht.2.2⟩, hq, hb9, by rw [mu0_ne (by decide), mu0_ne (by decide), mu0_ne (by decide), mu0_ne (by decide)]; exact h1, by rw [mu0_ne (by decide), mu0_ne (by decide), mu0_ne (by decide), mu0_eq], ?_, ?_, ?_⟩
        · rw [mu0_ne (by decide), mu0_ne (by decide), mu0_eq]; unfold tks; rw [if_neg (by omega), y, z]; rfl
        · rw [mu0_eq]; unfold tke; rw [if_neg (by omega), y, z]; rfl
        · rw [mu0_ne (by decide), mu0_eq, el]; unfold tkv; rw [if_neg (by omega), y, z]; rfl
  · have el : lok L q = -1 := if_neg c
    have cq : L.length ≤ q := by omega
    rw [el, if_neg (by decide), xl_eq, xl_eq]
    refine ⟨_, rfl, ⟨by rw [mu_ne (by decide), mu_ne (by decide), mu_ne (by decide)], by rw [mu0_ne (by decide), mu0_ne (by decide), mu0_ne (by decide)], by rw [mu0_ne (by decide), mu0_ne (by decide), mu0_ne (by decide)]⟩, ⟨ht.1, ht.2.1, by rw [mu_ne (by decide), mu_ne (by decide), mu_ne (by decide)]; exact ht.2.2⟩, hq, hb9, by rw [mu0_ne (by decide), mu0_ne (by decide), mu0_ne (by decide)]; exact h1, by rw [mu0_ne (by decide), mu0_ne (by decide), mu0_eq], ?_, ?_, ?_⟩
    · rw [mu0_ne (by decide), mu0_eq]; unfold tks; rw [if_pos cq]; rfl
    · rw [mu0_ne (by decide), mu0_ne (by decide), mu0_ne (by decide), h2]; unfold tke; rw [if_pos cq]
    · rw [mu0_eq]; unfold tkv; rw [if_pos cq]
theorem lx_advance_c {n : Nat} {L : List Nat} (hn : 100000 ≤ n) : ∀ (d p j m : Nat) (h : Nat → Nat → Int32), TPC h L → h 0 1 = nI L.length → h 0 2 = nI p → p ≤ L.length → j ≤ p → L.length ≤ p + d → d < m →
    ∃ h' : Nat → Nat → Int32, lx_X3_advance_7 n m (lok L p) (nI j) h = some h' ∧ FSC h h' ∧ SCN h' L (scn (isBl L) d p)
  | d, p, j, 0, h, _, _, _, _, _, _, hm => by omega
  | d, p, j, m + 1, h, ht, h1, h2, hp, hj, hd, hm => by
    have h4 := ht.1
    show ∃ h' : Nat → Nat → Int32, bx_X3_advance_7 n (lx_X3_advance_7 n m) (lok L p) (nI j) h = some h' ∧ _
    unfold bx_X3_advance_7
    by_cases c : 400 ≤ j
    · have z : isBl L p = false := by
        cases y : isBl L p with
        | false => rfl
        | true => have := isBl_lt _ y; omega
      rw [if_pos (by rw [show (400 : Int32) = nI 400 from rfl, nI_le_iff (by decide) (by omega)]; exact c), scn_f z]
      exact jx_advance_c hn ht h1 h2 hp z
    · rw [if_neg (by rw [show (400 : Int32) = nI 400 from rfl, nI_le_iff (by decide) (by omega)]; exact c), isBlank_c ht.2.1, xb1_s]
      cases y : isBl L p with
      | false =>
        rw [if_pos (by decide), scn_f y]
        exact jx_advance_c hn ht h1 h2 hp y
      | true =>
        have hlt := isBl_lt _ y
        cases d with
        | zero => omega
        | succ d =>
          rw [if_neg (by decide), scn_t y]
          simp only [xl_eq]
          rw [h2, nI_1, nI_1]
          have fs : FSC h (mu h 0 2 (nI (p + 1))) := ⟨by rw [mu_ne (by decide)], by rw [mu0_ne (by decide)], by rw [mu0_ne (by decide)]⟩
          rw [fx_look_c (TPC_f ht fs) (fs.2.2.trans h1) mu0_eq (by omega), xb1_s]
          obtain ⟨h', g1, g2, g3⟩ := lx_advance_c hn d (p + 1) (j + 1) m _ (TPC_f ht fs) (fs.2.2.trans h1) mu0_eq (by omega) (by omega) (by omega) (by omega)
          exact ⟨h', g1, FSC_t fs g2, g3⟩
theorem fx_advance_p {n p : Nat} {L : List Nat} {h : Nat → Nat → Int32} (hn : 100000 ≤ n) (ht : TPC h L) (h1 : h 0 1 = nI L.length) (h2 : h 0 2 = nI p) (hp : p ≤ L.length) : ∃ h' : Nat → Nat → Int32, fx_X3_advance n h = some h' ∧ FSC h h' ∧ SCN h' L (bk L p) := by
  have h4 := ht.1
  unfold fx_X3_advance
  rw [fx_look_c ht h1 h2 hp, xb1_s]
  exact lx_advance_c hn 400 p 0 n h ht h1 h2 hp (Nat.zero_le _) (by omega) (by omega)
theorem tke_le {L : List Nat} {q : Nat} (h : q ≤ L.length) : tke L q ≤ L.length := by
  unfold tke
  split
  · exact h
  · split
    · exact wd_le h
    · split
      · exact dg_le h
      · omega
theorem fx_advance_c {n q : Nat} {L : List Nat} {h : Nat → Nat → Int32} (hn : 100000 ≤ n) (hs : SCN h L q) : ∃ h' : Nat → Nat → Int32, fx_X3_advance n h = some h' ∧ FSC h h' ∧ SCN h' L (bk L (tke L q)) :=
  fx_advance_p hn hs.1 hs.2.2.2.1 hs.2.2.2.2.2.2.1 (tke_le hs.2.1)
theorem fx_open_c {n : Nat} {L : List Nat} {h : Nat → Nat → Int32} (hn : 100000 ≤ n) (ht : TPC h L) (h0 : h 0 0 = nI L.length) : ∃ h' : Nat → Nat → Int32, fx_X3_open n h = some h' ∧ h' 0 0 = nI 0 ∧ SCN h' L (bk L 0) := by
  unfold fx_X3_open
  rw [xl_eq, xl_eq, xl_eq, h0]
  have e1 : (mu (mu (mu h 0 1 (nI L.length)) 0 0 0) 0 2 0) 1 = h 1 := by rw [mu_ne (by decide), mu_ne (by decide), mu_ne (by decide)]
  obtain ⟨h', g1, g2, g3⟩ := fx_advance_p (n := n) (p := 0) (L := L) (h := mu (mu (mu h 0 1 (nI L.length)) 0 0 0) 0 2 0) hn ⟨ht.1, ht.2.1, by rw [e1]; exact ht.2.2⟩ (by rw [mu0_ne (by decide), mu0_ne (by decide), mu0_eq]) mu0_eq (Nat.zero_le _)
  rw [g1, xb1_s]
  exact ⟨h', rfl, by rw [g2.2.1, mu0_ne (by decide), mu0_eq]; rfl, g3⟩
