/-! ===== all matches; counts; turn ===== -/
def SMR (P : Nat → Nat → Prop) : Nat → Nat → Nat → Prop
  | 0, _, tot => tot = 0
  | d + 1, k, tot => ∃ a b : Nat, P k a ∧ SMR P d (k + 1) b ∧ tot = a + b
/-- how many matches of a rule's left side in a term -/
def mcnt (so : Nat → Nat) (un : Nat → Option Nat) (R : RulL) (on : Int32) (t : List Nat) (r a : Nat) : Prop := (onb on r = true ∧ ∃ (pv : Int32) (F : List (List Nat)), MatL so un (rul R r).1 t pv F ∧ F.length = a) ∨ (onb on r = false ∧ a = 0)
def ATM (so : Nat → Nat) (un : Nat → Option Nat) (R : RulL) (on : Int32) (Tm : List (List Nat)) (k : Nat) : Prop := ∃ i r : Nat, k ≤ i ∧ i < Tm.length ∧ r < R.length ∧ onb on r = true ∧ TMm so un (rul R r).1 (nth Tm i)
abbrev AmK := Int32 → Int32 → (Nat → Int32) → Int32 → (Nat → Int32) → (Nat → Int32) → (Nat → Int32) → (Nat → Int32) → Int32 → Int32 → Int32 → (Nat → Int32) → Int32 → Option (Int32 × (Nat → Int32) × Int32 × (Nat → Int32) × (Nat → Int32) × (Nat → Int32) × (Nat → Int32) × Int32 × Int32 × Int32 × (Nat → Int32) × Int32)
theorem lx_allMatches_14_ok {n : Nat} {fs fu fk : Nat → Int32} {so ma : Nat → Nat} {un : Nat → Option Nat} {nv i : Nat} {on : Int32} {Tm : List (List Nat)} {R : RulL} {k4 : AmK} (hn : 100000 ≤ n) (hsg : SG fs fu so un) (hsv : SV so un ma nv) (h : KT so un ma nv fk Tm) (hR : KR2 so un ma nv fk R) (hi : i < Tm.length) :
    ∀ (d k m a : Nat) (s : WS), k + d = R.length → d < m →
      ∃ s' : WS, (∃ tot : Nat, SMR (mcnt so un R (ron on R.length) (nth Tm i)) d k tot ∧ lx_allMatches_14 n fs fu fk (nI Tm.length) (nI R.length) on k4 m (nI a) (nI i) (nI k) s.fp s.top s.fgp s.fgt s.fb s.fw s.wt s.fm s.pv s.ff s.tm = k4 (nI (a + tot)) (nI (i + 1)) s'.fp s'.top s'.fgp s'.fgt s'.fb s'.fw s'.wt s'.fm s'.pv s'.ff s'.tm) ∨
        ((∃ r : Nat, r < R.length ∧ onb (ron on R.length) r = true ∧ TMm so un (rul R r).1 (nth Tm i)) ∧ lx_allMatches_14 n fs fu fk (nI Tm.length) (nI R.length) on k4 m (nI a) (nI i) (nI k) s.fp s.top s.fgp s.fgt s.fb s.fw s.wt s.fm s.pv s.ff s.tm = some (-1, s'.fp, s'.top, s'.fgp, s'.fgt, s'.fb, s'.fw, s'.wt, s'.fm, s'.pv, s'.ff, s'.tm)) := by
  have h8 := hR.1.1
  have hl30 := h.1
  obtain ⟨a1, a2, a3, a4⟩ := KT_get h hi
  intro d
  induction d with
  | zero =>
    intro k m a s hk hm
    cases m with
    | zero => omega
    | succ m =>
      refine ⟨s, Or.inl ⟨0, rfl, ?_⟩⟩
      show bx_allMatches_14 n fs fu fk (nI Tm.length) (nI R.length) on k4 (lx_allMatches_14 n fs fu fk (nI Tm.length) (nI R.length) on k4 m) (nI a) (nI i) (nI k) s.fp s.top s.fgp s.fgt s.fb s.fw s.wt s.fm s.pv s.ff s.tm = _
      unfold bx_allMatches_14
      rw [if_pos (by rw [nI_le_iff (by omega) (by omega)]; omega), xl_eq, nI_1]; rfl
  | succ d ih =>
    intro k m a s hk hm
    cases m with
    | zero => omega
    | succ m =>
      have hkR : k < R.length := by omega
      have hx := rul_mem hkR
      have r1 := (hR.1.2.2 k hkR).1
      have r2 := (hR.2 _ hx).1
      have r3 := tok_len r2
      have cm := fx_comes_ok (n := n) (f := put s.fp 0 (nth Tm i)) (t := (nth Tm i).length) r1 r2.1.1.1 r2.1.1.2.1 (by omega) (by omega) hn
      have hl0 : la (put s.fp 0 (nth Tm i)) 0 (nth Tm i) := put_la
      have hl1 : la (put (put s.fp 0 (nth Tm i)) (nth Tm i).length (rul R k).1) 0 (nth Tm i) := la_put (Or.inl (by omega)) hl0
      cases ho : onb (ron on R.length) k with
      | false =>
        have st : lx_allMatches_14 n fs fu fk (nI Tm.length) (nI R.length) on k4 (m + 1) (nI a) (nI i) (nI k) s.fp s.top s.fgp s.fgt s.fb s.fw s.wt s.fm s.pv s.ff s.tm = lx_allMatches_14 n fs fu fk (nI Tm.length) (nI R.length) on k4 m (nI a) (nI i) (nI (k + 1)) s.fp s.top s.fgp s.fgt s.fb s.fw s.wt s.fm s.pv s.ff s.tm := by
          show bx_allMatches_14 n fs fu fk (nI Tm.length) (nI R.length) on k4 (lx_allMatches_14 n fs fu fk (nI Tm.length) (nI R.length) on k4 m) (nI a) (nI i) (nI k) s.fp s.top s.fgp s.fgt s.fb s.fw s.wt s.fm s.pv s.ff s.tm = _
          unfold bx_allMatches_14
          rw [if_neg (by rw [nI_le_iff (by omega) (by omega)]; omega), fx_rulesOn_ok, xb1_s, fx_holds_on, xb1_s, ho, if_pos (by decide), xl_eq, nI_1]
        rw [st]
        obtain ⟨s', z⟩ := ih (k + 1) m a s (by omega) (by omega)
        refine ⟨s', ?_⟩
        rcases z with ⟨tot, z1, z2⟩ | z
        · exact Or.inl ⟨tot, ⟨0, tot, Or.inr ⟨ho, rfl⟩, z1, by omega⟩, z2⟩
        · exact Or.inr z
      | true =>
        have gk : gok so un (put (put s.fp 0 (nth Tm i)) (nth Tm i).length (rul R k).1) ((nth Tm i).length + (rul R k).1.length) ((nth Tm i).length, (rul R k).1, 0, nth Tm i) := ⟨⟨put_la, r2.1, sS_c2 hsv r2.2.2, r3, Nat.le_refl _⟩, hl1, a1.1, a3, by show 0 + (nth Tm i).length ≤ _; omega⟩
        obtain ⟨f2, gp2, gt2, b2, w2, fm2, pv2, ff2, tm2, m1, m2, m3, m4⟩ := fx_laysMatches_ok (fgp := s.fgp) (fgt := s.fgt) (fb := s.fb) (fw := s.fw) (ff := s.ff) (wt := s.wt) (fm := s.fm) (pv := s.pv) hn hsg (SV_SU hsv) gk (by omega)
        rw [show nI 0 = (0 : Int32) from rfl] at m1
        have st : lx_allMatches_14 n fs fu fk (nI Tm.length) (nI R.length) on k4 (m + 1) (nI a) (nI i) (nI k) s.fp s.top s.fgp s.fgt s.fb s.fw s.wt s.fm s.pv s.ff s.tm = if tm2 = 0 then lx_allMatches_14 n fs fu fk (nI Tm.length) (nI R.length) on k4 m (nI a + fm2) (nI i) (nI (k + 1)) f2 (nI ((nth Tm i).length + (rul R k).1.length)) gp2 gt2 b2 w2 0 fm2 pv2 ff2 tm2 else some (-1, f2, nI ((nth Tm i).length + (rul R k).1.length), gp2, gt2, b2, w2, 0, fm2, pv2, ff2, tm2) := by
          show bx_allMatches_14 n fs fu fk (nI Tm.length) (nI R.length) on k4 (lx_allMatches_14 n fs fu fk (nI Tm.length) (nI R.length) on k4 m) (nI a) (nI i) (nI k) s.fp s.top s.fgp s.fgt s.fb s.fw s.wt s.fm s.pv s.ff s.tm = _
          unfold bx_allMatches_14
          rw [if_neg (by rw [nI_le_iff (by omega) (by omega)]; omega), fx_rulesOn_ok, xb1_s, fx_holds_on, xb1_s, ho, if_neg (by decide), fx_termAt_ok hn h hi, xb4_s, fx_rowOfRule_l (by omega), xb1_s, cm, xb3_s, m1, xb11_s]
          by_cases z : tm2 = 0
          · rw [if_pos z, if_pos z, xl_eq, xl_eq, nI_1]
          · rw [if_neg z, if_neg z]
        rw [st]
        rcases m4 with ⟨t0, F, d1, d2, d3, d4, d5⟩ | ⟨t1, L, d1, d2, d3⟩
        · obtain ⟨s', z⟩ := ih (k + 1) m (a + F.length) (f2, nI ((nth Tm i).length + (rul R k).1.length), s.fsp, gp2, gt2, b2, w2, 0, fm2, pv2, ff2, tm2, s.fpl, s.fru, s.fr, s.M) (by omega) (by omega)
          rw [if_pos t0, d3, nI_add, ← d3]
          refine ⟨s', ?_⟩
          rcases z with ⟨tot, z1, z2⟩ | z
          · refine Or.inl ⟨F.length + tot, ⟨F.length, tot, Or.inl ⟨ho, pv2, F, ⟨m3, d1, d2, d5⟩, rfl⟩, z1, rfl⟩, ?_⟩
            rw [← Nat.add_assoc]; exact z2
          · exact Or.inr z
        · rw [if_neg (by rw [t1]; decide)]
          exact ⟨(f2, nI ((nth Tm i).length + (rul R k).1.length), s.fsp, gp2, gt2, b2, w2, 0, fm2, pv2, ff2, tm2, s.fpl, s.fru, s.fr, s.M), Or.inr ⟨⟨k, hkR, ho, pv2, L, m3, d1, d2, d3⟩, rfl⟩⟩
theorem lx_allMatches_4_ok {n : Nat} {fs fu fk : Nat → Int32} {so ma : Nat → Nat} {un : Nat → Option Nat} {nv : Nat} {on : Int32} {Tm : List (List Nat)} {R : RulL} (hn : 100000 ≤ n) (hsg : SG fs fu so un) (hsv : SV so un ma nv) (h : KT so un ma nv fk Tm) (hR : KR2 so un ma nv fk R) :
    ∀ (d k m a : Nat) (s : WS), k + d = Tm.length → d < m →
      ∃ (r : Int32) (s' : WS), lx_allMatches_4 n fs fu fk (nI Tm.length) (nI R.length) on m (nI a) (nI k) s.fp s.top s.fgp s.fgt s.fb s.fw s.wt s.fm s.pv s.ff s.tm = some (r, s'.fp, s'.top, s'.fgp, s'.fgt, s'.fb, s'.fw, s'.wt, s'.fm, s'.pv, s'.ff, s'.tm) ∧
        ((∃ tot : Nat, SMR (fun i c => SMR (mcnt so un R (ron on R.length) (nth Tm i)) R.length 0 c) d k tot ∧ r = nI (a + tot)) ∨ (ATM so un R (ron on R.length) Tm k ∧ r = -1)) := by
  have h8 := hR.1.1
  have hl30 := h.1
  intro d
  induction d with
  | zero =>
    intro k m a s hk hm
    cases m with
    | zero => omega
    | succ m =>
      refine ⟨nI a, s, ?_, Or.inl ⟨0, rfl, rfl⟩⟩
      show bx_allMatches_4 n fs fu fk (nI Tm.length) (nI R.length) on (lx_allMatches_4 n fs fu fk (nI Tm.length) (nI R.length) on m) (nI a) (nI k) s.fp s.top s.fgp s.fgt s.fb s.fw s.wt s.fm s.pv s.ff s.tm = _
      unfold bx_allMatches_4
      rw [if_pos (by rw [nI_le_iff (by omega) (by omega)]; omega)]
  | succ d ih =>
    intro k m a s hk hm
    cases m with
    | zero => omega
    | succ m =>
      have hkT : k < Tm.length := by omega
      have st : lx_allMatches_4 n fs fu fk (nI Tm.length) (nI R.length) on (m + 1) (nI a) (nI k) s.fp s.top s.fgp s.fgt s.fb s.fw s.wt s.fm s.pv s.ff s.tm = lx_allMatches_14 n fs fu fk (nI Tm.length) (nI R.length) on (lx_allMatches_4 n fs fu fk (nI Tm.length) (nI R.length) on m) n (nI a) (nI k) (nI 0) s.fp s.top s.fgp s.fgt s.fb s.fw s.wt s.fm s.pv s.ff s.tm := by
        show bx_allMatches_4 n fs fu fk (nI Tm.length) (nI R.length) on (lx_allMatches_4 n fs fu fk (nI Tm.length) (nI R.length) on m) (nI a) (nI k) s.fp s.top s.fgp s.fgt s.fb s.fw s.wt s.fm s.pv s.ff s.tm = _
        unfold bx_allMatches_4
        rw [if_neg (by rw [nI_le_iff (by omega) (by omega)]; omega)]; rfl
      rw [st]
      obtain ⟨s1, z⟩ := lx_allMatches_14_ok (on := on) (k4 := lx_allMatches_4 n fs fu fk (nI Tm.length) (nI R.length) on m) hn hsg hsv h hR hkT R.length 0 n a s (by omega) (by omega)
      rcases z with ⟨tot, z1, z2⟩ | ⟨⟨r, z1, z2, z3⟩, z4⟩
      · rw [z2]
        obtain ⟨r, s', y1, y2⟩ := ih (k + 1) m (a + tot) s1 (by omega) (by omega)
        refine ⟨r, s', y1, ?_⟩
        rcases y2 with ⟨tot2, y2, y3⟩ | ⟨⟨i, r9, w1, w2, w3⟩, y3⟩
        · exact Or.inl ⟨tot + tot2, ⟨tot, tot2, z1, y2, rfl⟩, by rw [y3, Nat.add_assoc]⟩
        · exact Or.inr ⟨⟨i, r9, by omega, w2, w3⟩, y3⟩
      · rw [z4]
        exact ⟨_, s1, rfl, Or.inr ⟨⟨k, r, Nat.le_refl _, hkT, z1, z2, z3⟩, rfl⟩⟩
/-- all matches of all rules that are on in all terms told -/
def AMS (so : Nat → Nat) (un : Nat → Option Nat) (R : RulL) (on : Int32) (Tm : List (List Nat)) (r : Int32) : Prop := (∃ tot : Nat, SMR (fun i c => SMR (mcnt so un R on (nth Tm i)) R.length 0 c) Tm.length 0 tot ∧ r = nI tot) ∨ (ATM so un R on Tm 0 ∧ r = -1)
theorem fx_allMatches_ok {n : Nat} {fs fu fk : Nat → Int32} {so ma : Nat → Nat} {un : Nat → Option Nat} {nv : Nat} {on : Int32} {Tm : List (List Nat)} {R : RulL} (s : WS) (hn : 100000 ≤ n) (hsg : SG fs fu so un) (hsv : SV so un ma nv) (h : KT so un ma nv fk Tm) (hR : KR2 so un ma nv fk R) :
    ∃ (r : Int32) (s' : WS), fx_allMatches n fs fu s.fp s.top fk (nI Tm.length) (nI R.length) on s.fgp s.fgt s.fb s.fw s.wt s.fm s.pv s.ff s.tm = some (r, s'.fp, s'.top, s'.fgp, s'.fgt, s'.fb, s'.fw, s'.wt, s'.fm, s'.pv, s'.ff, s'.tm) ∧ AMS so un R (ron on R.length) Tm r := by
  obtain ⟨r, s', z1, z2⟩ := lx_allMatches_4_ok (on := on) hn hsg hsv h hR Tm.length 0 n 0 s (by omega) (by have := h.1; omega)
  refine ⟨r, s', z1, ?_⟩
  rcases z2 with ⟨tot, y1, y2⟩ | z
  · exact Or.inl ⟨tot, y1, by rw [y2, Nat.zero_add]⟩
  · exact Or.inr z
/-- what is counted -/
def CNTo (so : Nat → Nat) (un : Nat → Option Nat) (no nv : Nat) (R : RulL) (on : Int32) (Tm : List (List Nat)) (shn : Int32) (w : Int32) (r : Int32) : Prop :=
  (w = nI 0 ∧ r = nI no) ∨ (w = nI 1 ∧ r = nI nv) ∨ (w = nI 2 ∧ r = nI Tm.length) ∨ (w = nI 3 ∧ r = nI R.length) ∨ (w = nI 4 ∧ r = on) ∨ (w = nI 5 ∧ r = shn) ∨ (w = nI 6 ∧ NRT so un R on Tm r) ∨ (w = nI 7 ∧ r = nI (grF Tm 0)) ∨ (w = nI 8 ∧ AMS so un R on Tm r) ∨ (¬ isn w 9 ∧ r = -1)
theorem fx_count_ok {n : Nat} {fs fu fk : Nat → Int32} {so ma : Nat → Nat} {un : Nat → Option Nat} {nv no : Nat} {on th shn x : Int32} {Tm : List (List Nat)} {R : RulL} (s : WS) (hn : 100000 ≤ n) (hsg : SG fs fu so un) (hsv : SV so un ma nv) (h : KT so un ma nv fk Tm) (hR : KR2 so un ma nv fk R) :
    ∃ (r : Int32) (s' : WS), fx_count n th fs fu (nI no) (nI nv) s.fp s.top s.fsp fk (nI Tm.length) (nI R.length) on s.fgp s.fgt s.fb s.fw s.wt s.fm s.pv s.ff s.tm s.fpl s.fru s.fr s.M shn x = some (r, 0, s'.fp, s'.top, s'.fsp, s'.fgp, s'.fgt, s'.fb, s'.fw, s'.wt, s'.fm, s'.pv, s'.ff, s'.tm, s'.fpl, s'.fru, s'.fr, s'.M) ∧ CNTo so un no nv R (ron on R.length) Tm shn x r := by
  unfold fx_count
  by_cases hx : isn x 9
  · obtain ⟨w, w1, w2⟩ := isn_of (by decide) hx
    rw [w2, nI_toInt (by omega)]
    have hw9 : w = 0 ∨ w = 1 ∨ w = 2 ∨ w = 3 ∨ w = 4 ∨ w = 5 ∨ w = 6 ∨ w = 7 ∨ w = 8 := by omega
    rcases hw9 with rfl | rfl | rfl | rfl | rfl | rfl | rfl | rfl | rfl
    · rw [if_neg (by decide), if_pos (by decide)]
      exact ⟨_, s, rfl, Or.inl ⟨rfl, rfl⟩⟩
    · rw [if_neg (by decide), if_neg (by decide), if_pos (by decide)]
      exact ⟨_, s, rfl, Or.inr (Or.inl ⟨rfl, rfl⟩)⟩
    · rw [if_neg (by decide), if_neg (by decide), if_neg (by decide), if_pos (by decide)]
      exact ⟨_, s, rfl, Or.inr (Or.inr (Or.inl ⟨rfl, rfl⟩))⟩
    · rw [if_neg (by decide), if_neg (by decide), if_neg (by decide), if_neg (by decide), if_pos (by decide)]
      exact ⟨_, s, rfl, Or.inr (Or.inr (Or.inr (Or.inl ⟨rfl, rfl⟩)))⟩
    · rw [if_neg (by decide), if_neg (by decide), if_neg (by decide), if_neg (by decide), if_neg (by decide), if_pos (by decide), fx_rulesOn_ok, xb1_s]
      exact ⟨_, s, rfl, Or.inr (Or.inr (Or.inr (Or.inr (Or.inl ⟨rfl, rfl⟩))))⟩
    · rw [if_neg (by decide), if_neg (by decide), if_neg (by decide), if_neg (by decide), if_neg (by decide), if_neg (by decide), if_pos (by decide)]
      exact ⟨_, s, rfl, Or.inr (Or.inr (Or.inr (Or.inr (Or.inr (Or.inl ⟨rfl, rfl⟩)))))⟩
    · obtain ⟨r, s', z1, z2⟩ := fx_normalTerms_ok (on := on) s hn hsg hsv h hR
      rw [if_neg (by decide), if_neg (by decide), if_neg (by decide), if_neg (by decide), if_neg (by decide), if_neg (by decide), if_neg (by decide), if_pos (by decide), z1, xb17_s]
      exact ⟨_, s', rfl, Or.inr (Or.inr (Or.inr (Or.inr (Or.inr (Or.inr (Or.inl ⟨rfl, z2⟩))))))⟩
    · obtain ⟨fp', top', tm', z⟩ := fx_greatest_ok (fp := s.fp) (top := s.top) (tm := s.tm) hn h
      rw [if_neg (by decide), if_neg (by decide), if_neg (by decide), if_neg (by decide), if_neg (by decide), if_neg (by decide), if_neg (by decide), if_neg (by decide), if_pos (by decide), z, xb4_s]
      exact ⟨_, (fp', top', s.fsp, s.fgp, s.fgt, s.fb, s.fw, s.wt, s.fm, s.pv, s.ff, tm', s.fpl, s.fru, s.fr, s.M), rfl, Or.inr (Or.inr (Or.inr (Or.inr (Or.inr (Or.inr (Or.inr (Or.inl ⟨rfl, rfl⟩)))))))⟩
    · obtain ⟨r, s', z1, z2⟩ := fx_allMatches_ok (on := on) s hn hsg hsv h hR
      rw [if_neg (by decide), if_neg (by decide), if_neg (by decide), if_neg (by decide), if_neg (by decide), if_neg (by decide), if_neg (by decide), if_neg (by decide), if_neg (by decide), if_pos (by decide), z1, xb12_s]
      exact ⟨_, (s'.fp, s'.top, s.fsp, s'.fgp, s'.fgt, s'.fb, s'.fw, s'.wt, s'.fm, s'.pv, s'.ff, s'.tm, s.fpl, s.fru, s.fr, s.M), rfl, Or.inr (Or.inr (Or.inr (Or.inr (Or.inr (Or.inr (Or.inr (Or.inr (Or.inl ⟨rfl, z2⟩))))))))⟩
  · have : x.toInt < 0 ∨ 8 < x.toInt := by
      unfold isn at hx
      omega
    rw [if_pos this]
    exact ⟨_, s, rfl, Or.inr (Or.inr (Or.inr (Or.inr (Or.inr (Or.inr (Or.inr (Or.inr (Or.inr ⟨hx, rfl⟩))))))))⟩
/-- a rule is turned on or off -/
theorem fx_turn_ok {n : Nat} {th on x : Int32} {b : Bool} {R : RulL} (hR8 : R.length ≤ 8) :
    (∃ k : Nat, (k < R.length ∧ x = nI k) ∧ fx_turn n th (nI R.length) on x (ob b) = some (if onb on k = b then 0 else 1, 0, if b then on ||| ((1 : Int32) <<< (nI k &&& 31)) else on &&& (((1 : Int32) <<< (nI k &&& 31)) ^^^ -1))) ∨
    (¬ isn x R.length ∧ fx_turn n th (nI R.length) on x (ob b) = some (0, 1, on)) := by
  unfold fx_turn
  rcases fx_noRule_ok (n := n) (th := 0) (x := x) (k := R.length) (by omega) with ⟨h1, e1⟩ | ⟨h1, e1⟩
  · obtain ⟨k, k1, k2⟩ := isn_of (by omega) h1
    refine Or.inl ⟨k, ⟨k1, k2⟩, ?_⟩
    rw [e1, xb2_s, if_pos rfl, k2, fx_holds_on, xb1_s]
    cases b with
    | false =>
      rw [if_pos (show ob false = 0 from rfl), xl_eq, xl_eq, xl_eq]
      cases onb on k <;> rfl
    | true =>
      rw [if_neg (show ¬ ob true = 0 by decide), xl_eq, xl_eq]
      cases onb on k <;> rfl
  · rw [e1, xb2_s, if_neg (by decide)]
    exact Or.inr ⟨h1, rfl⟩
