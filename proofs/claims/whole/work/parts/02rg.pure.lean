/-! ===== which rules could fit; about, operator ===== -/
def cldR (so : Nat → Nat) (t l : List Nat) : Nat → Nat → Bool
  | 0, _ => true
  | d + 1, k => (decide (so k = 2) || decide (pw l k ≤ pw t k)) && cldR so t l d (k + 1)
def cld (so : Nat → Nat) (un : Nat → Option Nat) (no : Nat) (t l : List Nat) : Bool :=
  if so (hdc l / 512 - 1) = 2 then (if un (hdc l / 512 - 1) = none then decide (opI (hdc t) = opI (hdc l)) && cldR so t l no 0 else true) else decide (opI (hdc t) = opI (hdc l))
theorem lx_could_ok {n : Nat} {f fs fu : Nat → Int32} {so : Nat → Nat} {un : Nat → Option Nat} {no a b : Nat} {x3 : Int32} {t l : List Nat} (hn : 100000 ≤ n) (hsg : SG fs fu so un) (hno : no ≤ 10 ∧ ∀ q : Nat, q < no → so q ≠ 3) (hlt : la f a t) (ht : okt so t) (ha : a + t.length ≤ 60000) (hll : la f b l) (hl : okt so l) (hb9 : b + l.length ≤ 60000) :
    ∀ (d k m : Nat), k + d = no → d < m → lx_could_57 n fs fu (nI no) f (nI a) (nI b) m x3 (nI k) = some (if cldR so t l d k then 1 else 0) := by
  intro d
  induction d with
  | zero =>
    intro k m hk hm
    cases m with
    | zero => omega
    | succ m =>
      show bx_could_57 n fs fu (nI no) f (nI a) (nI b) (lx_could_57 n fs fu (nI no) f (nI a) (nI b) m) x3 (nI k) = _
      unfold bx_could_57
      rw [if_pos (by rw [nI_le_iff (by omega) (by omega)]; omega)]; rfl
  | succ d ih =>
    intro k m hk hm
    cases m with
    | zero => omega
    | succ m =>
      have h3 := hno.2 k (by omega)
      obtain ⟨s1, s2, _, _⟩ := hsg k ⟨by omega, h3⟩
      have p1 := pwF_le (op := nI k) (pts t) 0
      have p2 := pwF_le (op := nI k) (pts l) 0
      have ptl : ∀ (w : List Nat), okt so w → (pts w).length < 512 := fun w hw => by
        cases w with
        | nil => exact absurd (wf_pos hw.1) (by simp)
        | cons c r => rw [(pts_of hw.1).2.1]; exact ar_lt
      have q1 := ptl t ht
      have q2 := ptl l hl
      have e1 : pw t k < 1000 := by unfold pw; omega
      have e2 : pw l k < 1000 := by unfold pw; omega
      show bx_could_57 n fs fu (nI no) f (nI a) (nI b) (lx_could_57 n fs fu (nI no) f (nI a) (nI b) m) x3 (nI k) = some (if ((decide (so k = 2) || decide (pw l k ≤ pw t k)) && cldR so t l d (k + 1)) then 1 else 0)
      unfold bx_could_57
      rw [if_neg (by rw [nI_le_iff (by omega) (by omega)]; omega), xr_n (by omega) (by decide), s1, show (2 : Int32) = nI 2 from rfl]
      by_cases z : so k = 2
      · rw [if_pos (by rw [z]), xl_eq, nI_1, ih (k + 1) m (by omega) (by omega), decide_eq_true z, Bool.true_or, Bool.true_and]
      · rw [if_neg (by rw [nI_inj (by omega) (by decide)]; exact z), decide_eq_false z, Bool.false_or, fx_partsWith_ok hn hlt ht ha, xb1_s, fx_partsWith_ok hn hll hl hb9, xb1_s]
        by_cases y : pw l k ≤ pw t k
        · rw [if_pos (by rw [nI_le_iff (by omega) (by omega)]; exact y), xl_eq, nI_1, ih (k + 1) m (by omega) (by omega), decide_eq_true y, Bool.true_and]
        · rw [if_neg (by rw [nI_le_iff (by omega) (by omega)]; exact y), decide_eq_false y, Bool.false_and]; rfl
theorem ne_m1 : ∀ u : Fin 10, ¬ nI u.val = -1 := by decide
theorem nI_ne_m1 {u : Nat} (h : u < 10) : ¬ nI u = -1 := ne_m1 ⟨u, h⟩
theorem fx_could_ok {n : Nat} {f fs fu : Nat → Int32} {so : Nat → Nat} {un : Nat → Option Nat} {no a b : Nat} {t l : List Nat} (hn : 100000 ≤ n) (hsg : SG fs fu so un) (hno : no ≤ 10 ∧ ∀ q : Nat, q < no → so q ≠ 3) (hlt : la f a t) (ht : okt so t) (ha : a + t.length ≤ 60000) (hll : la f b l) (hl : okt so l) (hb9 : b + l.length ≤ 60000) (h512 : 512 ≤ hdc l) :
    fx_could n fs fu (nI no) f (nI a) (nI b) = some (if cld so un no t l then 1 else 0) := by
  have h0 := wf_pos ht.1
  have h1 := wf_pos hl.1
  cases t with
  | nil => simp at h0
  | cons c t9 =>
    cases l with
    | nil => simp at h1
    | cons e l9 =>
      have hcc := cok_lt (col_cons.mp ht.2.1).1
      have hee := cok_lt (col_cons.mp hl.2.1).1
      have he5 : 512 ≤ e := h512
      have heo : e / 512 - 1 < 10 := by rcases (col_cons.mp hl.2.1).1 with g | g <;> omega
      have he3 := (hl.2.2 e (List.mem_cons_self ..) he5).1
      obtain ⟨s1, s2, s3, s4⟩ := hsg (e / 512 - 1) ⟨heo, he3⟩
      simp only [List.length_cons] at ha hb9
      unfold fx_could
      rw [fx_operatorAt_ok hll.1 hee (by omega), xb1_s, opI_op he5, xr_n heo (by decide), s1]
      show _ = some (if (if so (e / 512 - 1) = 2 then (if un (e / 512 - 1) = none then decide (opI c = opI e) && cldR so (c :: t9) (e :: l9) no 0 else true) else decide (opI c = opI e)) then 1 else 0)
      rw [opI_op he5]
      by_cases z : so (e / 512 - 1) = 2
      · rw [if_pos (by rw [z]; rfl), if_pos z, xr_n heo (by decide)]
        cases hu : un (e / 512 - 1) with
        | none =>
          rw [if_pos (s3 hu), if_pos rfl, fx_operatorAt_ok hlt.1 hcc (by omega), xb1_s]
          by_cases y : opI c = nI (e / 512 - 1)
          · rw [if_pos y, decide_eq_true y, Bool.true_and]
            exact lx_could_ok hn hsg hno hlt ht (by simp only [List.length_cons]; omega) hll hl (by simp only [List.length_cons]; omega) no 0 n (by omega) (by omega)
          · rw [if_neg y, decide_eq_false y, Bool.false_and]; rfl
        | some u =>
          have su := s4 u hu
          rw [su.1, if_neg (nI_ne_m1 su.2), if_neg (show ¬ some u = none by simp)]; rfl
      · rw [if_neg (by rw [show (2 : Int32) = nI 2 from rfl, nI_inj (by omega) (by decide)]; exact z), if_neg z, fx_operatorAt_ok hlt.1 hcc (by omega), xb1_s]
        by_cases y : opI c = nI (e / 512 - 1)
        · rw [if_pos y, decide_eq_true y]; rfl
        · rw [if_neg y, decide_eq_false y]; rfl
/-- bits of what holds, from k on -/
def orB (b : Nat → Bool) : Nat → Nat → Int32 → Int32
  | 0, _, a => a
  | d + 1, k, a => orB b d (k + 1) (if b k then a ||| ((1 : Int32) <<< (nI k &&& 31)) else a)
theorem orB_congr {b b' : Nat → Bool} : ∀ {d k : Nat} {a : Int32}, (∀ i : Nat, k ≤ i → i < k + d → b i = b' i) → orB b d k a = orB b' d k a
  | 0, _, _, _ => rfl
  | d + 1, k, a, h => by
    show orB b d (k + 1) _ = orB b' d (k + 1) _
    rw [h k (Nat.le_refl _) (by omega)]
    exact orB_congr (fun i h1 h2 => h i (by omega) (by omega))
/-- the rules that could fit -/
def cdb (so : Nat → Nat) (un : Nat → Option Nat) (no : Nat) (R : RulL) (on : Int32) (t : List Nat) (r : Nat) : Bool := onb on r && cld so un no t (rul R r).1
theorem lx_couldAt_ok {n : Nat} {fs fu fk : Nat → Int32} {so ma : Nat → Nat} {un : Nat → Option Nat} {no nv a : Nat} {on : Int32} {R : RulL} {t : List Nat} (hn : 100000 ≤ n) (hsg : SG fs fu so un) (hsv : SV so un ma nv) (hno : no ≤ 10 ∧ ∀ q : Nat, q < no → so q ≠ 3) (hR : KR2 so un ma nv fk R) (ht : tok so un ma nv t) :
    ∀ (d k m T : Nat) (f : Nat → Int32) (s : Int32), k + d = R.length → d < m → la f a t → a + t.length ≤ T → T ≤ 100 + 21 * k →
      ∃ (f' : Nat → Int32) (top' : Int32), lx_couldAt_4 n fs fu (nI no) fk (nI R.length) on (nI a) m s (nI k) f (nI T) = some (orB (cdb so un no R (ron on R.length) t) d k s, f', top') := by
  have h8 := hR.1.1
  intro d
  induction d with
  | zero =>
    intro k m T f s hk hm hl hT hT2
    cases m with
    | zero => omega
    | succ m =>
      refine ⟨f, nI T, ?_⟩
      show bx_couldAt_4 n fs fu (nI no) fk (nI R.length) on (nI a) (lx_couldAt_4 n fs fu (nI no) fk (nI R.length) on (nI a) m) s (nI k) f (nI T) = _
      unfold bx_couldAt_4
      rw [if_pos (by rw [nI_le_iff (by omega) (by omega)]; omega)]; rfl
  | succ d ih =>
    intro k m T f s hk hm hl hT hT2
    cases m with
    | zero => omega
    | succ m =>
      have hkR : k < R.length := by omega
      have hx := rul_mem hkR
      have r1 := (hR.1.2.2 k hkR).1
      have r2 := (hR.2 _ hx).1
      have r3 := tok_len r2
      have r4 := hR.1.2.1 _ hx
      have cm := fx_comes_ok (n := n) (f := f) (t := T) r1 r2.1.1.1 r2.1.1.2.1 (by omega) (by omega) hn
      have hl2 : la (put f T (rul R k).1) a t := la_put (Or.inl (by omega)) hl
      have hd : 512 ≤ hdc (rul R k).1 := r4.2.2.2.1
      have cl := fx_could_ok (a := a) (b := T) hn hsg hno hl2 ht.1.1 (by omega) (put_la (f := f) (a := T) (l := (rul R k).1)) r2.1.1 (by omega) hd
      show ∃ (f' : Nat → Int32) (top' : Int32), bx_couldAt_4 n fs fu (nI no) fk (nI R.length) on (nI a) (lx_couldAt_4 n fs fu (nI no) fk (nI R.length) on (nI a) m) s (nI k) f (nI T) = some (orB _ d (k + 1) (if cdb so un no R (ron on R.length) t k then s ||| ((1 : Int32) <<< (nI k &&& 31)) else s), f', top')
      unfold bx_couldAt_4
      rw [if_neg (by rw [nI_le_iff (by omega) (by omega)]; omega), fx_rulesOn_ok, xb1_s, fx_holds_on, xb1_s]
      unfold cdb
      cases ho : onb (ron on R.length) k with
      | false =>
        rw [if_pos (by decide), xl_eq, nI_1, Bool.false_and, if_neg (by decide)]
        exact ih (k + 1) m T f s (by omega) (by omega) hl hT (by omega)
      | true =>
        rw [if_neg (by decide), fx_rowOfRule_l (by omega), xb1_s, cm, xb3_s, cl, xb1_s, Bool.true_and]
        cases hc : cld so un no t (rul R k).1 with
        | false =>
          rw [if_pos (by decide), xl_eq, nI_1, if_neg (by decide)]
          exact ih (k + 1) m (T + (rul R k).1.length) _ s (by omega) (by omega) hl2 (by omega) (by omega)
        | true =>
          rw [if_neg (by decide), xl_eq, xl_eq, xl_eq, nI_1, if_pos rfl]
          exact ih (k + 1) m (T + (rul R k).1.length) _ _ (by omega) (by omega) hl2 (by omega) (by omega)
theorem fx_couldAt_ok {n : Nat} {fs fu fk f : Nat → Int32} {so ma : Nat → Nat} {un : Nat → Option Nat} {no nv T : Nat} {on : Int32} {R : RulL} {t : List Nat} (hn : 100000 ≤ n) (hsg : SG fs fu so un) (hsv : SV so un ma nv) (hno : no ≤ 10 ∧ ∀ q : Nat, q < no → so q ≠ 3) (hR : KR2 so un ma nv fk R) (ht : tok so un ma nv t) (hl : la f 0 t) (hT : t.length ≤ T) (hT2 : T ≤ 100) :
    ∃ (f' : Nat → Int32) (top' : Int32), fx_couldAt n fs fu (nI no) f (nI T) fk (nI R.length) on 0 = some (orB (cdb so un no R (ron on R.length) t) R.length 0 0, f', top') := by
  have h8 := hR.1.1
  exact lx_couldAt_ok (a := 0) hn hsg hsv hno hR ht R.length 0 n T f 0 (by omega) (by omega) hl (by omega) (by omega)
/-- what a term is about -/
def abt (so : Nat → Nat) (un : Nat → Option Nat) (no : Nat) (R : RulL) (on : Int32) (t : List Nat) : Nat → Int32
  | 0 => opI (hdc t)
  | 1 => if hdc t < 512 then nI (hdc t) else -1
  | 2 => nI (ar (hdc t))
  | 3 => nI t.length
  | 4 => nI (dep 21 t)
  | 5 => vrF t 0
  | 6 => opF t 0
  | 7 => orB (cdb so un no R on t) R.length 0 0
  | _ => nI (vcF t 0)
theorem jx_about_ok {n : Nat} {fs fu fk fp : Nat → Int32} {so ma : Nat → Nat} {un : Nat → Option Nat} {no nv i w : Nat} {on top tm : Int32} {Tm : List (List Nat)} {R : RulL} (hn : 100000 ≤ n) (hsg : SG fs fu so un) (hsv : SV so un ma nv) (hno : no ≤ 10 ∧ ∀ q : Nat, q < no → so q ≠ 3) (h : KT so un ma nv fk Tm) (hR : KR2 so un ma nv fk R) (hi : i < Tm.length) (hw : w < 9) :
    ∃ (fp' : Nat → Int32) (top' tm' : Int32), jx_about_29 n fs fu (nI no) fk (nI Tm.length) (nI R.length) on (nI i) (nI w) 0 0 fp top tm = some (abt so un no R (ron on R.length) (nth Tm i) w, 0, fp', top', tm') := by
  obtain ⟨a1, a2, a3, a4⟩ := KT_get h hi
  have hl : la (put fp 0 (nth Tm i)) 0 (nth Tm i) := put_la
  obtain ⟨f9, t9, ca⟩ := fx_couldAt_ok (on := on) (T := (nth Tm i).length) hn hsg hsv hno hR a1 hl (Nat.le_refl _) (by omega)
  have b1 := fx_behind_ok (n := n) hl a1.1.1.1 a1.1.1.2.1 (by omega) hn
  have b2 := fx_deepAt_ok (n := n) hn 21 _ 0 (by decide) hl a1.1.1 (by omega) (by omega)
  have b3 := fx_variablesAt_is (n := n) hl a1.1.1.1 a1.1.1.2.1 (by omega) hn
  have b4 := fx_operatorsAt_is (n := n) hl a1.1.1.1 a1.1.1.2.1 (by omega) hn
  have b5 := fx_variablesIn_is (n := n) hl a1.1.1.1 a1.1.1.2.1 (by omega) hn
  have e0 : nI 0 = (0 : Int32) := rfl
  have hd : ∃ c l, nth Tm i = c :: l ∧ (put fp 0 (nth Tm i)) 0 = nI c ∧ c < 5632 ∧ hdc (nth Tm i) = c := by
    cases hc : nth Tm i with
    | nil => rw [hc] at a1; exact absurd (wf_pos a1.1.1.1) (by simp)
    | cons c l =>
      rw [hc] at a1 hl
      exact ⟨c, l, rfl, hl.1, cok_lt (col_cons.mp a1.1.1.2.1).1, rfl⟩
  obtain ⟨c, l, c1, c2, c3, c4⟩ := hd
  have b6 := fx_operatorAt_ok (n := n) (a := 0) c2 c3 (by decide)
  have b7 := fx_partsAt_ok (n := n) (a := 0) c2 c3 (by decide)
  rw [e0] at b1 b2 b3 b4 b5 b6 b7
  rw [Nat.zero_add] at b1
  have e := nI_toInt (n := w) (by omega)
  have x0 : ∀ (k9 : Int32 → Option (Int32 × Int32 × (Nat → Int32) × Int32 × Int32)), xr 60000 (put fp 0 (nth Tm i)) 0 k9 = k9 ((put fp 0 (nth Tm i)) 0) := fun k9 => by
    have := xr_n (f := put fp 0 (nth Tm i)) (i := 0) (n := 60000) (k := k9) (by decide) (by decide)
    exact this
  unfold jx_about_29
  rw [fx_throwsIf_0, xb2_s, if_pos rfl, fx_termAt_ok hn h hi, xb4_s, e]
  have hw9 : w = 0 ∨ w = 1 ∨ w = 2 ∨ w = 3 ∨ w = 4 ∨ w = 5 ∨ w = 6 ∨ w = 7 ∨ w = 8 := by omega
  rcases hw9 with rfl | rfl | rfl | rfl | rfl | rfl | rfl | rfl | rfl
  · rw [if_neg (by decide), if_pos (by decide), b6, xb1_s]
    show ∃ _ _ _, _ = some (opI (hdc (nth Tm i)), _, _, _, _)
    rw [c4]
    by_cases z : 512 ≤ c
    · rw [if_pos (by rw [opI_op z, show (0 : Int32) = nI 0 from rfl, nI_le_iff (by decide) (by omega)]; omega), xb1_s]
      exact ⟨_, _, _, rfl⟩
    · rw [opI_var (by omega), if_neg (by decide)]
      exact ⟨_, _, _, rfl⟩
  · rw [if_neg (by decide), if_neg (by decide), if_pos (by decide), x0, c2]
    show ∃ _ _ _, _ = some ((if hdc (nth Tm i) < 512 then nI (hdc (nth Tm i)) else -1), _, _, _, _)
    rw [c4, show (512 : Int32) = nI 512 from rfl]
    by_cases z : c < 512
    · rw [if_neg (by rw [nI_le_iff (by decide) (by omega)]; omega), if_pos z, x0, c2]
      exact ⟨_, _, _, rfl⟩
    · rw [if_pos (by rw [nI_le_iff (by decide) (by omega)]; omega), if_neg z]
      exact ⟨_, _, _, rfl⟩
  · rw [if_neg (by decide), if_neg (by decide), if_neg (by decide), if_pos (by decide), b7, xb1_s]
    show ∃ _ _ _, _ = some (nI (ar (hdc (nth Tm i))), _, _, _, _)
    rw [c4]
    exact ⟨_, _, _, rfl⟩
  · rw [if_neg (by decide), if_neg (by decide), if_neg (by decide), if_neg (by decide), if_pos (by decide), b1, xb1_s, xl_eq, show nI (nth Tm i).length - 0 = nI (nth Tm i).length from Int32.sub_zero _]
    exact ⟨_, _, _, rfl⟩
  · rw [if_neg (by decide), if_neg (by decide), if_neg (by decide), if_neg (by decide), if_neg (by decide), if_pos (by decide), b2, xb1_s]
    exact ⟨_, _, _, rfl⟩
  · rw [if_neg (by decide), if_neg (by decide), if_neg (by decide), if_neg (by decide), if_neg (by decide), if_neg (by decide), if_pos (by decide), b3, xb1_s]
    exact ⟨_, _, _, rfl⟩
  · rw [if_neg (by decide), if_neg (by decide), if_neg (by decide), if_neg (by decide), if_neg (by decide), if_neg (by decide), if_neg (by decide), if_pos (by decide), b4, xb1_s]
    exact ⟨_, _, _, rfl⟩
  · rw [if_neg (by decide), if_neg (by decide), if_neg (by decide), if_neg (by decide), if_neg (by decide), if_neg (by decide), if_neg (by decide), if_neg (by decide), if_pos (by decide), ca, xb3_s]
    exact ⟨_, _, _, rfl⟩
  · rw [if_pos (by decide), b5, xb1_s]
    exact ⟨_, _, _, rfl⟩
theorem fx_about_ok {n : Nat} {fs fu fk fp : Nat → Int32} {so ma : Nat → Nat} {un : Nat → Option Nat} {no nv : Nat} {th on top tm x y : Int32} {Tm : List (List Nat)} {R : RulL} (hn : 100000 ≤ n) (hsg : SG fs fu so un) (hsv : SV so un ma nv) (hno : no ≤ 10 ∧ ∀ q : Nat, q < no → so q ≠ 3) (h : KT so un ma nv fk Tm) (hR : KR2 so un ma nv fk R) :
    ∃ (r th' : Int32) (fp' : Nat → Int32) (top' tm' : Int32), fx_about n th fs fu (nI no) fp top fk (nI Tm.length) (nI R.length) on tm x y = some (r, th', fp', top', tm') ∧
      ((∃ i w : Nat, (i < Tm.length ∧ x = nI i) ∧ (w < 9 ∧ y = nI w) ∧ r = abt so un no R (ron on R.length) (nth Tm i) w ∧ th' = 0) ∨ (isn x Tm.length ∧ ¬ isn y 9 ∧ r = 0 ∧ th' = 2) ∨ (¬ isn x Tm.length ∧ r = 0 ∧ th' = 1)) := by
  have hl := h.1
  unfold fx_about
  rcases fx_noTerm_ok (n := n) (th := 0) (x := x) (k := Tm.length) (by omega) with ⟨h1, e1⟩ | ⟨h1, e1⟩
  · rw [e1, xb2_s, if_pos rfl]
    have y2 := in_isn (n := n) (x := y) (k := 9) (by decide)
    rw [show nI 9 - 1 = (8 : Int32) from rfl] at y2
    rcases y2 with ⟨y1, y2⟩ | ⟨y1, y2⟩
    · obtain ⟨i, i1, i2⟩ := isn_of (by omega) h1
      obtain ⟨w, w1, w2⟩ := isn_of (by decide) y1
      obtain ⟨fp', top', tm', z⟩ := jx_about_ok (fp := fp) (on := on) (top := top) (tm := tm) hn hsg hsv hno h hR i1 w1
      rw [y2, xb1_s, if_neg (by decide), i2, w2, z]
      exact ⟨_, _, _, _, _, rfl, Or.inl ⟨i, w, ⟨i1, rfl⟩, ⟨w1, rfl⟩, rfl, rfl⟩⟩
    · rw [y2, xb1_s, if_pos rfl]
      unfold jx_about_29
      rw [fx_throwsIf_1, xb2_s, if_neg (by decide)]
      exact ⟨_, _, _, _, _, rfl, Or.inr (Or.inl ⟨h1, y1, rfl, rfl⟩)⟩
  · rw [e1, xb2_s, if_neg (by decide)]
    exact ⟨_, _, _, _, _, rfl, Or.inr (Or.inr ⟨h1, rfl, rfl⟩)⟩
