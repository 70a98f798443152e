/-! ===== operator, counts, turn ===== -/
def twb (Tm : List (List Nat)) (o i : Nat) : Bool := onb (opF (nth Tm i) 0) o
theorem lx_termsWith_ok {n : Nat} {fk : Nat → Int32} {so ma : Nat → Nat} {un : Nat → Option Nat} {nv o : Nat} {Tm : List (List Nat)} (hn : 100000 ≤ n) (h : KT so un ma nv fk Tm) : ∀ (d k m : Nat) (s top tm : Int32) (fp : Nat → Int32), k + d = Tm.length → d < m →
    ∃ (fp' : Nat → Int32) (top' tm' : Int32), lx_termsWith_4 n fk (nI Tm.length) (nI o) m s (nI k) fp top tm = some (orB (twb Tm o) d k s, fp', top', tm') := by
  have hl30 := h.1
  intro d
  induction d with
  | zero =>
    intro k m s top tm fp hk hm
    cases m with
    | zero => omega
    | succ m =>
      refine ⟨fp, top, tm, ?_⟩
      show bx_termsWith_4 n fk (nI Tm.length) (nI o) (lx_termsWith_4 n fk (nI Tm.length) (nI o) m) s (nI k) fp top tm = _
      unfold bx_termsWith_4
      rw [if_pos (by rw [nI_le_iff (by omega) (by omega)]; omega)]; rfl
  | succ d ih =>
    intro k m s top tm fp hk hm
    cases m with
    | zero => omega
    | succ m =>
      obtain ⟨a1, a2, a3, a4⟩ := KT_get h (show k < Tm.length by omega)
      have b4 := fx_operatorsAt_is (n := n) (f := put fp 0 (nth Tm k)) (a := 0) put_la a1.1.1.1 a1.1.1.2.1 (by omega) hn
      rw [show nI 0 = (0 : Int32) from rfl] at b4
      show ∃ (fp' : Nat → Int32) (top' tm' : Int32), bx_termsWith_4 n fk (nI Tm.length) (nI o) (lx_termsWith_4 n fk (nI Tm.length) (nI o) m) s (nI k) fp top tm = some (orB (twb Tm o) d (k + 1) (if twb Tm o k then s ||| ((1 : Int32) <<< (nI k &&& 31)) else s), fp', top', tm')
      unfold bx_termsWith_4
      rw [if_neg (by rw [nI_le_iff (by omega) (by omega)]; omega), fx_termAt_ok hn h (by omega), xb4_s, b4, xb1_s, fx_holds_on, xb1_s]
      unfold twb
      cases hb9 : onb (opF (nth Tm k) 0) o with
      | false =>
        rw [if_pos (by decide), xl_eq, xl_eq, nI_1, Int32.or_zero, if_neg (by decide)]
        exact ih (k + 1) m s _ _ _ (by omega) (by omega)
      | true =>
        rw [if_neg (by decide), xl_eq, xl_eq, xl_eq, nI_1, if_pos rfl]
        exact ih (k + 1) m _ _ _ _ (by omega) (by omega)
/-- what is told of an operator -/
def opr (so : Nat → Nat) (un : Nat → Option Nat) (ma : Nat → Nat) (Tm : List (List Nat)) (o : Nat) : Nat → Int32
  | 0 => nI (so o)
  | 1 => nI (ma o)
  | 2 => (match un o with
    | some u => nI u
    | none => -1)
  | _ => orB (twb Tm o) Tm.length 0 0
theorem fx_operator_ok {n : Nat} {fs fm9 fu fk fp : Nat → Int32} {so ma : Nat → Nat} {un : Nat → Option Nat} {no nv : Nat} {th top tm x y : Int32} {Tm : List (List Nat)} (hn : 100000 ≤ n) (hsg : SG fs fu so un) (hsv : SV so un ma nv) (hno : no ≤ 10 ∧ ∀ q : Nat, q < no → so q ≠ 3) (hma : ∀ q : Nat, q < no → fm9 q = nI (ma q)) (h : KT so un ma nv fk Tm) :
    ∃ (r th' : Int32) (fp' : Nat → Int32) (top' tm' : Int32), fx_operator n th fs fm9 fu (nI no) fp top fk (nI Tm.length) tm x y = some (r, th', fp', top', tm') ∧
      ((∃ o w : Nat, (o < no ∧ x = nI o) ∧ (w < 4 ∧ y = nI w) ∧ r = opr so un ma Tm o w ∧ th' = 0) ∨ (isn x no ∧ ¬ isn y 4 ∧ r = 0 ∧ th' = 2) ∨ (¬ isn x no ∧ r = 0 ∧ th' = 1)) := by
  have hl := h.1
  have h10 := hno.1
  unfold fx_operator
  rcases fx_noOperator_ok (n := n) (th := 0) (x := x) (k := no) (by omega) with ⟨h1, e1⟩ | ⟨h1, e1⟩
  · rw [e1, xb2_s, if_pos rfl]
    have y2 := in_isn (n := n) (x := y) (k := 4) (by decide)
    rw [show nI 4 - 1 = (3 : Int32) from rfl] at y2
    rcases y2 with ⟨y1, y2⟩ | ⟨y1, y2⟩
    · obtain ⟨o, i1, i2⟩ := isn_of (by omega) h1
      obtain ⟨w, w1, w2⟩ := isn_of (by decide) y1
      have so3 := hno.2 o i1
      obtain ⟨s1, s2, s3, s4⟩ := hsg o ⟨by omega, so3⟩
      rw [y2, xb1_s, if_neg (by decide), i2, w2]
      have fin : ∀ w : Nat, w < 4 → ∃ (fp' : Nat → Int32) (top' tm' : Int32), jx_operator_28 n fs fm9 fu (nI no) fk (nI Tm.length) (nI o) (nI w) 0 0 fp top tm = some (opr so un ma Tm o w, 0, fp', top', tm') := fun w hw => by
        unfold jx_operator_28
        rw [fx_throwsIf_0, xb2_s, if_pos rfl]
        have hw9 : w = 0 ∨ w = 1 ∨ w = 2 ∨ w = 3 := by omega
        rcases hw9 with rfl | rfl | rfl | rfl
        · rw [if_pos (by decide), xr_n (by omega) (by decide), s1]
          exact ⟨_, _, _, rfl⟩
        · rw [if_neg (by decide), if_pos (by decide), xr_n (by omega) (by decide), hma o i1]
          exact ⟨_, _, _, rfl⟩
        · rw [if_neg (by decide), if_neg (by decide), if_pos (by decide), xr_n (by omega) (by decide), s1]
          show ∃ _ _ _, _ = some ((match un o with | some u => nI u | none => -1), _, _, _, _)
          cases hu : un o with
          | some u =>
            have z := (hsv.2.2.2 o u hu).1
            rw [if_pos (by rw [z]; rfl), xr_n (by omega) (by decide), (s4 u hu).1]
            exact ⟨_, _, _, rfl⟩
          | none =>
            by_cases z : so o = 2
            · rw [if_pos (by rw [z]; rfl), xr_n (by omega) (by decide), s3 hu]
              exact ⟨_, _, _, rfl⟩
            · rw [if_neg (by rw [show (2 : Int32) = nI 2 from rfl, nI_inj (by omega) (by decide)]; exact z)]
              exact ⟨_, _, _, rfl⟩
        · obtain ⟨fp', top', tm', g⟩ := lx_termsWith_ok (o := o) hn h Tm.length 0 n 0 top tm fp (by omega) (by omega)
          have g' : fx_termsWith n fp top fk (nI Tm.length) tm (nI o) = some (orB (twb Tm o) Tm.length 0 0, fp', top', tm') := g
          rw [if_neg (by decide), if_neg (by decide), if_neg (by decide), g', xb4_s]
          exact ⟨_, _, _, rfl⟩
      obtain ⟨fp', top', tm', z⟩ := fin w w1
      rw [z]
      exact ⟨_, _, _, _, _, rfl, Or.inl ⟨o, w, ⟨i1, rfl⟩, ⟨w1, rfl⟩, rfl, rfl⟩⟩
    · rw [y2, xb1_s, if_pos rfl]
      unfold jx_operator_28
      rw [fx_throwsIf_1, xb2_s, if_neg (by decide)]
      exact ⟨_, _, _, _, _, rfl, Or.inr (Or.inl ⟨h1, y1, rfl, rfl⟩)⟩
  · rw [e1, xb2_s, if_neg (by decide)]
    exact ⟨_, _, _, _, _, rfl, Or.inr (Or.inr ⟨h1, rfl, rfl⟩)⟩
/-- the greatest term -/
def grF : List (List Nat) → Nat → Nat
  | [], a => a
  | t :: ts, a => grF ts (if t.length ≤ a then a else t.length)
theorem lx_greatest_ok {n : Nat} {fk : Nat → Int32} {so ma : Nat → Nat} {un : Nat → Option Nat} {nv : Nat} {Tm : List (List Nat)} (hn : 100000 ≤ n) (h : KT so un ma nv fk Tm) : ∀ (B A : List (List Nat)) (m g : Nat) (top tm : Int32) (fp : Nat → Int32), Tm = A ++ B → g ≤ 20 → B.length < m →
    ∃ (fp' : Nat → Int32) (top' tm' : Int32), lx_greatest_4 n fk (nI Tm.length) m (nI g) (nI A.length) fp top tm = some (nI (grF B g), fp', top', tm') := by
  have hl30 := h.1
  intro B
  induction B with
  | nil =>
    intro A m g top tm fp hA hg hm
    cases m with
    | zero => omega
    | succ m =>
      refine ⟨fp, top, tm, ?_⟩
      show bx_greatest_4 n fk (nI Tm.length) (lx_greatest_4 n fk (nI Tm.length) m) (nI g) (nI A.length) fp top tm = _
      unfold bx_greatest_4
      rw [hA, List.append_nil, if_pos (Int32.le_refl _)]; rfl
  | cons t B ih =>
    intro A m g top tm fp hA hg hm
    simp only [List.length_cons] at hm
    cases m with
    | zero => omega
    | succ m =>
      have hlen : Tm.length = A.length + (B.length + 1) := by rw [hA]; simp
      have en : nth Tm A.length = t := by rw [hA]; exact nth_mid
      obtain ⟨a1, a2, a3, a4⟩ := KT_get h (show A.length < Tm.length by omega)
      have ta := fx_termAt_ok (n := n) (fp := fp) (top := top) (tm := tm) hn h (show A.length < Tm.length by omega)
      rw [en] at a1 a3 ta
      have bh := fx_behind_ok (n := n) (f := put fp 0 t) (a := 0) put_la a1.1.1.1 a1.1.1.2.1 (by omega) hn
      rw [show nI 0 = (0 : Int32) from rfl, Nat.zero_add] at bh
      have hA2 : Tm = (A ++ [t]) ++ B := by rw [hA]; simp
      have hAl : (A ++ [t]).length = A.length + 1 := by simp
      have ih' := fun g9 (hg9 : g9 ≤ 20) => ih (A ++ [t]) m g9 (nI t.length) 0 (put fp 0 t) hA2 hg9 (by omega)
      rw [hAl] at ih'
      show ∃ (fp' : Nat → Int32) (top' tm' : Int32), bx_greatest_4 n fk (nI Tm.length) (lx_greatest_4 n fk (nI Tm.length) m) (nI g) (nI A.length) fp top tm = some (nI (grF B (if t.length ≤ g then g else t.length)), fp', top', tm')
      unfold bx_greatest_4
      rw [if_neg (by rw [nI_le_iff (by omega) (by omega)]; omega), ta, xb4_s, bh, xb1_s, xl_eq, show nI t.length - 0 = nI t.length from Int32.sub_zero _]
      by_cases z : t.length ≤ g
      · rw [if_pos (by rw [nI_le_iff (by omega) (by omega)]; exact z), if_pos z, xl_eq, nI_1]
        exact ih' g hg
      · rw [if_neg (by rw [nI_le_iff (by omega) (by omega)]; exact z), if_neg z, xb1_s, xl_eq, xl_eq, nI_1, show nI t.length - 0 = nI t.length from Int32.sub_zero _]
        exact ih' _ a3
theorem fx_greatest_ok {n : Nat} {fk fp : Nat → Int32} {so ma : Nat → Nat} {un : Nat → Option Nat} {nv : Nat} {top tm : Int32} {Tm : List (List Nat)} (hn : 100000 ≤ n) (h : KT so un ma nv fk Tm) : ∃ (fp' : Nat → Int32) (top' tm' : Int32), fx_greatest n fp top fk (nI Tm.length) tm = some (nI (grF Tm 0), fp', top', tm') :=
  lx_greatest_ok hn h Tm [] n 0 top tm fp rfl (by decide) (by have := h.1; omega)
theorem lx_normalTerms_ok {n : Nat} {fs fu fk : Nat → Int32} {so ma : Nat → Nat} {un : Nat → Option Nat} {nv : Nat} {on : Int32} {Tm : List (List Nat)} {R : RulL} {b : Nat → Bool} (hn : 100000 ≤ n) (hsg : SG fs fu so un) (hsv : SV so un ma nv) (h : KT so un ma nv fk Tm) (hR : KR2 so un ma nv fk R) (hb9 : ∀ i : Nat, i < Tm.length → (b i = true ↔ nrm so un R (ron on R.length) (nth Tm i))) :
    ∀ (d k m : Nat) (a : Int32) (s : WS), k + d = Tm.length → d < m →
      ∃ (r : Int32) (s' : WS), lx_normalTerms_4 n fs fu fk (nI Tm.length) (nI R.length) on m a (nI k) s.fp s.top s.fsp s.fgp s.fgt s.fb s.fw s.wt s.fm s.pv s.ff s.tm s.fpl s.fru s.fr s.M = some (r, s'.fp, s'.top, s'.fsp, s'.fgp, s'.fgt, s'.fb, s'.fw, s'.wt, s'.fm, s'.pv, s'.ff, s'.tm, s'.fpl, s'.fru, s'.fr, s'.M) ∧
        (((∀ i : Nat, k ≤ i → i < Tm.length → ¬ TMs so un R (ron on R.length) (nth Tm i).length (nth Tm i)) ∧ r = orB b d k a) ∨ ((∃ i : Nat, k ≤ i ∧ i < Tm.length ∧ TMs so un R (ron on R.length) (nth Tm i).length (nth Tm i)) ∧ r = -1)) := by
  have hl30 := h.1
  intro d
  induction d with
  | zero =>
    intro k m a s hk hm
    cases m with
    | zero => omega
    | succ m =>
      refine ⟨a, s, ?_, Or.inl ⟨fun i h1 h2 => by omega, rfl⟩⟩
      show bx_normalTerms_4 n fs fu fk (nI Tm.length) (nI R.length) on (lx_normalTerms_4 n fs fu fk (nI Tm.length) (nI R.length) on m) a (nI k) s.fp s.top s.fsp s.fgp s.fgt s.fb s.fw s.wt s.fm s.pv s.ff s.tm s.fpl s.fru s.fr s.M = _
      unfold bx_normalTerms_4
      rw [if_pos (by rw [nI_le_iff (by omega) (by omega)]; omega)]
  | succ d ih =>
    intro k m a s hk hm
    cases m with
    | zero => omega
    | succ m =>
      have hkT : k < Tm.length := by omega
      obtain ⟨a1, a2, a3, a4⟩ := KT_get h hkT
      obtain ⟨s1, g1, g2⟩ := lst_ok (on := ron on R.length) (f := put s.fp 0 (nth Tm k)) (put s.fp 0 (nth Tm k), nI (nth Tm k).length, s.fsp, s.fgp, s.fgt, s.fb, s.fw, s.wt, s.fm, s.pv, s.ff, 0, s.fpl, s.fru, s.fr, s.M) hn hsg hsv hR a1 put_la rfl
      have st : lx_normalTerms_4 n fs fu fk (nI Tm.length) (nI R.length) on (m + 1) a (nI k) s.fp s.top s.fsp s.fgp s.fgt s.fb s.fw s.wt s.fm s.pv s.ff s.tm s.fpl s.fru s.fr s.M = if s1.tm = 0 then (if s1.M = 0 then lx_normalTerms_4 n fs fu fk (nI Tm.length) (nI R.length) on m (a ||| ((1 : Int32) <<< (nI k &&& 31))) (nI (k + 1)) s1.fp s1.top s1.fsp s1.fgp s1.fgt s1.fb s1.fw s1.wt s1.fm s1.pv s1.ff s1.tm s1.fpl s1.fru s1.fr s1.M else lx_normalTerms_4 n fs fu fk (nI Tm.length) (nI R.length) on m a (nI (k + 1)) s1.fp s1.top s1.fsp s1.fgp s1.fgt s1.fb s1.fw s1.wt s1.fm s1.pv s1.ff s1.tm s1.fpl s1.fru s1.fr s1.M) else some (-1, s1.fp, s1.top, s1.fsp, s1.fgp, s1.fgt, s1.fb, s1.fw, s1.wt, s1.fm, s1.pv, s1.ff, s1.tm, s1.fpl, s1.fru, s1.fr, s1.M) := by
        show bx_normalTerms_4 n fs fu fk (nI Tm.length) (nI R.length) on (lx_normalTerms_4 n fs fu fk (nI Tm.length) (nI R.length) on m) a (nI k) s.fp s.top s.fsp s.fgp s.fgt s.fb s.fw s.wt s.fm s.pv s.ff s.tm s.fpl s.fru s.fr s.M = _
        unfold bx_normalTerms_4
        have g1' : fx_laysSteps n fs fu (put s.fp 0 (nth Tm k)) (nI (nth Tm k).length) s.fsp fk (nI R.length) s.fgp s.fgt s.fb s.fw s.wt s.fm s.pv s.ff 0 s.fpl s.fru s.fr s.M 0 (ron on R.length) 0 = some (s1.fp, s1.top, s1.fsp, s1.fgp, s1.fgt, s1.fb, s1.fw, s1.wt, s1.fm, s1.pv, s1.ff, s1.tm, s1.fpl, s1.fru, s1.fr, s1.M) := g1
        rw [if_neg (by rw [nI_le_iff (by omega) (by omega)]; omega), fx_termAt_ok hn h hkT, xb4_s, fx_rulesOn_ok, xb1_s, g1', xb16_s]
        by_cases z : s1.tm = 0
        · rw [if_pos z, if_pos z]
          by_cases y : s1.M = 0
          · rw [if_pos y, if_pos y, xl_eq, xl_eq, xl_eq, nI_1]
          · rw [if_neg y, if_neg y, xl_eq, xl_eq, nI_1, Int32.or_zero]
        · rw [if_neg z, if_neg z]
      rw [st]
      rcases g2 with ⟨t0, S, t1, t2, t3⟩ | ⟨t0, t1⟩
      · have hS2 := t1.2.2.1
        have hnr : S = [] ↔ nrm so un R (ron on R.length) (nth Tm k) := by
          constructor
          · intro e y hy
            obtain ⟨s9, h3, _⟩ := hy
            have := (t1.2.2.2.1 s9).mpr h3
            rw [e] at this; exact List.not_mem_nil this
          · intro h
            cases S with
            | nil => rfl
            | cons s9 S9 => exact absurd ⟨s9, (t1.2.2.2.1 s9).mp (List.mem_cons_self ..), rfl⟩ (h s9.2.2)
        have go : ∀ a9 : Int32, a9 = (if b k then a ||| ((1 : Int32) <<< (nI k &&& 31)) else a) → ∃ (r : Int32) (s' : WS), lx_normalTerms_4 n fs fu fk (nI Tm.length) (nI R.length) on m a9 (nI (k + 1)) s1.fp s1.top s1.fsp s1.fgp s1.fgt s1.fb s1.fw s1.wt s1.fm s1.pv s1.ff s1.tm s1.fpl s1.fru s1.fr s1.M = some (r, s'.fp, s'.top, s'.fsp, s'.fgp, s'.fgt, s'.fb, s'.fw, s'.wt, s'.fm, s'.pv, s'.ff, s'.tm, s'.fpl, s'.fru, s'.fr, s'.M) ∧
        (((∀ i : Nat, k ≤ i → i < Tm.length → ¬ TMs so un R (ron on R.length) (nth Tm i).length (nth Tm i)) ∧ r = orB b (d + 1) k a) ∨ ((∃ i : Nat, k ≤ i ∧ i < Tm.length ∧ TMs so un R (ron on R.length) (nth Tm i).length (nth Tm i)) ∧ r = -1)) := fun a9 ha9 => by
          obtain ⟨r, s', z1, z2⟩ := ih (k + 1) m a9 s1 (by omega) (by omega)
          refine ⟨r, s', z1, ?_⟩
          rcases z2 with ⟨y1, y2⟩ | ⟨⟨i, y1, y2⟩, y3⟩
          · refine Or.inl ⟨fun i h1 h2 => ?_, by rw [y2, ha9]; rfl⟩
            by_cases e : i = k
            · rw [e]; exact t1.2.2.2.2
            · exact y1 i (by omega) h2
          · exact Or.inr ⟨⟨i, by omega, y2⟩, y3⟩
        rw [if_pos t0]
        by_cases y : s1.M = 0
        · have hS0 : S = [] := by
            rw [t3, show (0 : Int32) = nI 0 from rfl, nI_inj (by omega) (by decide)] at y
            exact List.length_eq_zero_iff.mp y
          rw [if_pos y]
          exact go _ (by rw [if_pos ((hb9 k hkT).mpr (hnr.mp hS0))])
        · rw [if_neg y]
          refine go _ (by rw [if_neg (fun q => y (by rw [t3, hnr.mpr ((hb9 k hkT).mp q)]; rfl))])
      · rw [if_neg (by rw [t0]; decide)]
        exact ⟨_, s1, rfl, Or.inr ⟨⟨k, Nat.le_refl _, hkT, t1⟩, rfl⟩⟩
/-- bits of those terms that are normal -/
def NRT (so : Nat → Nat) (un : Nat → Option Nat) (R : RulL) (on : Int32) (Tm : List (List Nat)) (r : Int32) : Prop :=
  ((∀ i : Nat, i < Tm.length → ¬ TMs so un R on (nth Tm i).length (nth Tm i)) ∧ ∃ b : Nat → Bool, (∀ i : Nat, i < Tm.length → (b i = true ↔ nrm so un R on (nth Tm i))) ∧ r = orB b Tm.length 0 0) ∨ ((∃ i : Nat, i < Tm.length ∧ TMs so un R on (nth Tm i).length (nth Tm i)) ∧ r = -1)
theorem NRT_uniq {so : Nat → Nat} {un : Nat → Option Nat} {R : RulL} {on : Int32} {Tm : List (List Nat)} {r r' : Int32} (h : NRT so un R on Tm r) (h' : NRT so un R on Tm r') : r = r' := by
  rcases h with ⟨h1, b, h2, h3⟩ | ⟨⟨i, h1, h2⟩, h3⟩
  · rcases h' with ⟨g1, c, g2, g3⟩ | ⟨⟨i, g1, g2⟩, g3⟩
    · rw [h3, g3]
      exact orB_congr (fun i _ hi => by
        have := (h2 i (by omega)).trans (g2 i (by omega)).symm
        cases e : b i <;> cases e' : c i
        · rfl
        · rw [e, e'] at this; exact absurd (this.mpr rfl) (by decide)
        · rw [e, e'] at this; exact absurd (this.mp rfl) (by decide)
        · rfl)
    · exact absurd g2 (h1 i g1)
  · rcases h' with ⟨g1, c, g2, g3⟩ | ⟨_, g3⟩
    · exact absurd h2 (g1 i h1)
    · rw [h3, g3]
theorem fx_normalTerms_ok {n : Nat} {fs fu fk : Nat → Int32} {so ma : Nat → Nat} {un : Nat → Option Nat} {nv : Nat} {on : Int32} {Tm : List (List Nat)} {R : RulL} (s : WS) (hn : 100000 ≤ n) (hsg : SG fs fu so un) (hsv : SV so un ma nv) (h : KT so un ma nv fk Tm) (hR : KR2 so un ma nv fk R) :
    ∃ (r : Int32) (s' : WS), fx_normalTerms n fs fu s.fp s.top s.fsp fk (nI Tm.length) (nI R.length) on s.fgp s.fgt s.fb s.fw s.wt s.fm s.pv s.ff s.tm s.fpl s.fru s.fr s.M = some (r, s'.fp, s'.top, s'.fsp, s'.fgp, s'.fgt, s'.fb, s'.fw, s'.wt, s'.fm, s'.pv, s'.ff, s'.tm, s'.fpl, s'.fru, s'.fr, s'.M) ∧ NRT so un R (ron on R.length) Tm r := by
  have hb9 : ∀ i : Nat, i < Tm.length → ((fun i => @decide (nrm so un R (ron on R.length) (nth Tm i)) (Classical.propDecidable _)) i = true ↔ nrm so un R (ron on R.length) (nth Tm i)) := fun i _ => by
    show @decide _ (Classical.propDecidable _) = true ↔ _
    rw [@decide_eq_true_iff _ (Classical.propDecidable _)]
  obtain ⟨r, s', z1, z2⟩ := lx_normalTerms_ok (on := on) hn hsg hsv h hR hb9 Tm.length 0 n 0 s (by omega) (by have := h.1; omega)
  refine ⟨r, s', z1, ?_⟩
  rcases z2 with ⟨y1, y2⟩ | ⟨⟨i, y1, y2⟩, y3⟩
  · exact Or.inl ⟨fun i hi => y1 i (Nat.zero_le _) hi, _, hb9, y2⟩
  · exact Or.inr ⟨⟨i, y2⟩, y3⟩
