/-! ===== meet ===== -/
theorem lx_doMeet_ok {n : Nat} {fre frm : Nat → Int32} {so ma : Nat → Nat} {un : Nat → Option Nat} {nv : Nat} {Q P : List (List Nat)} (hn : 100000 ≤ n) (hQ : RQ so un ma nv fre frm 0 Q) (hP : RQ so un ma nv fre frm 1 P) : ∀ (d k m : Nat) (fp : Nat → Int32), k + d = Q.length → d < m →
    ∃ (r : Int32) (fp' : Nat → Int32), lx_doMeet_7 n fre frm m (nI k) fp 0 = some (r, fp', 0) ∧ ((r = 1 ∧ ∃ x ∈ Q, x ∈ P) ∨ (r = 0 ∧ ∀ i : Nat, k ≤ i → i < Q.length → nth Q i ∉ P)) := by
  have hQ50 := hQ.1
  intro d
  induction d with
  | zero =>
    intro k m fp hk hm
    cases m with
    | zero => omega
    | succ m =>
      refine ⟨0, fp, ?_, Or.inr ⟨rfl, fun i h1 h2 => by omega⟩⟩
      show bx_doMeet_7 n fre frm (lx_doMeet_7 n fre frm m) (nI k) fp 0 = _
      unfold bx_doMeet_7
      rw [xr_0, hQ.2.2.2.1, if_pos (by rw [nI_le_iff (by omega) (by omega)]; omega)]
  | succ d ih =>
    intro k m fp hk hm
    cases m with
    | zero => omega
    | succ m =>
      have hkQ : k < Q.length := by omega
      obtain ⟨k1, k2, k3, k4⟩ := RQ_get hQ hkQ
      have rc := reachComes_ok (fp := fp) (top := 0) hn (show 0 < 2 by decide) hQ hkQ (by decide)
      have ir := fx_isReached_ok (n := n) (a := 0) (fp := put fp 0 (nth Q k)) hn (show 1 < 2 by decide) hP k1 put_la (by decide)
      have e0 : nI 0 = (0 : Int32) := rfl
      have e1 : nI 1 = (1 : Int32) := rfl
      rw [e0] at rc ir
      rw [e1] at ir
      have st : lx_doMeet_7 n fre frm (m + 1) (nI k) fp 0 = if nth Q k ∈ P then some (1, put fp 0 (nth Q k), 0) else lx_doMeet_7 n fre frm m (nI (k + 1)) (put fp 0 (nth Q k)) 0 := by
        show bx_doMeet_7 n fre frm (lx_doMeet_7 n fre frm m) (nI k) fp 0 = _
        unfold bx_doMeet_7
        rw [xr_0, hQ.2.2.2.1, if_neg (by rw [nI_le_iff (by omega) (by omega)]; omega), rc, xb3_s, ir, xb1_s]
        by_cases z : nth Q k ∈ P
        · rw [if_pos z, if_pos z, if_neg (by decide)]
        · rw [if_neg z, if_neg z, if_pos rfl, xl_eq, nI_1]
      rw [st]
      by_cases z : nth Q k ∈ P
      · rw [if_pos z]
        exact ⟨_, _, rfl, Or.inl ⟨rfl, nth Q k, nth_mem hkQ, z⟩⟩
      · rw [if_neg z]
        obtain ⟨r, fp', z1, z2⟩ := ih (k + 1) m (put fp 0 (nth Q k)) (by omega) (by omega)
        refine ⟨r, fp', z1, ?_⟩
        rcases z2 with z2 | ⟨z2, z3⟩
        · exact Or.inl z2
        · refine Or.inr ⟨z2, fun i h1 h2 => ?_⟩
          by_cases e : i = k
          · rw [e]; exact z
          · exact z3 i (by omega) h2
theorem fx_doMeet_ok {n : Nat} {fre frm fp : Nat → Int32} {so ma : Nat → Nat} {un : Nat → Option Nat} {nv : Nat} {top : Int32} {Q P : List (List Nat)} (hn : 100000 ≤ n) (hQ : RQ so un ma nv fre frm 0 Q) (hP : RQ so un ma nv fre frm 1 P) :
    ∃ (r : Int32) (fp' : Nat → Int32), fx_doMeet n fp top fre frm = some (r, fp', 0) ∧ ((r = 1 ∧ ∃ x ∈ Q, x ∈ P) ∨ (r = 0 ∧ ∀ x ∈ Q, x ∉ P)) := by
  have hQ50 := hQ.1
  obtain ⟨r, fp', z1, z2⟩ := lx_doMeet_ok hn hQ hP Q.length 0 n fp (by omega) (by omega)
  have e0 : nI 0 = (0 : Int32) := rfl
  rw [e0] at z1
  refine ⟨r, fp', z1, ?_⟩
  rcases z2 with z2 | ⟨z2, z3⟩
  · exact Or.inl z2
  · refine Or.inr ⟨z2, fun x hx => ?_⟩
    obtain ⟨i, i1, i2⟩ := mem_nth hx
    rw [← i2]; exact z3 i (Nat.zero_le _) i1
theorem gre_one {n : Nat} {fs fu fk fre frm frd : Nat → Int32} {l q : Nat} {on rules : Int32} (s : WS) (hn : 100000 ≤ n) (hl : l < 2) (h1 : frm l = nI q) (htm : s.tm = 1) : ∃ frd' : Nat → Int32, fx_goesReach n fs fu s.fp s.top s.fsp fk rules on s.fgp s.fgt s.fb s.fw s.wt s.fm s.pv s.ff s.tm s.fpl s.fru s.fr s.M fre frm frd (nI l) = some (s.fp, s.top, s.fsp, s.fgp, s.fgt, s.fb, s.fw, s.wt, s.fm, s.pv, s.ff, s.tm, s.fpl, s.fru, s.fr, s.M, fre, frm, frd') ∧ ∀ o : Nat, o ≠ l → frd' o = frd o := by
  refine ⟨upd frd l (nI q), ?_, fun o ho => upd_ne ho⟩
  rw [htm]
  exact fx_goesReach_one (d := 0) hn hl h1
/-- both reach one term -/
def MT (so : Nat → Nat) (un : Nat → Option Nat) (R : RulL) (on : Int32) (t t' : List Nat) (k : Nat) : Prop := ∃ x : List Nat, rch so un R on t k x ∧ rch so un R on t' k x
def TM2 (so : Nat → Nat) (un : Nat → Option Nat) (R : RulL) (on : Int32) (t t' : List Nat) (k : Nat) : Prop := TMr so un R on t k ∨ TMr so un R on t' k
/-- where they meet first -/
def MEET (so : Nat → Nat) (un : Nat → Option Nat) (R : RulL) (on : Int32) (t t' : List Nat) (j : Nat) (r th' : Int32) : Prop :=
  (∃ k : Nat, k ≤ j ∧ MT so un R on t t' k ∧ (∀ i : Nat, i < k → ¬ MT so un R on t t' i) ∧ ¬ TM2 so un R on t t' k ∧ r = nI k ∧ th' = 0) ∨
  ((∀ i : Nat, i ≤ j → ¬ MT so un R on t t' i) ∧ ¬ TM2 so un R on t t' j ∧ r = -1 ∧ th' = 0) ∨
  (∃ k : Nat, k < j ∧ (∀ i : Nat, i ≤ k → ¬ MT so un R on t t' i) ∧ TM2 so un R on t t' (k + 1) ∧ r = 0 ∧ th' = 3)
theorem LV_other {so : Nat → Nat} {un : Nat → Option Nat} {ma : Nat → Nat} {nv l o : Nat} {R : RulL} {on : Int32} {t : List Nat} {j dn : Nat} {fre frm frd fre' frm' frd' : Nat → Int32} {Q : List (List Nat)} (h : LV so un ma nv R on t j fre frm frd o Q dn) (ho : o ≠ l) (ho2 : o < 2) (hl : l < 2) (hh : RQo fre frm fre' frm' l) (hd : frd' o = frd o) : LV so un ma nv R on t j fre' frm' frd' o Q dn :=
  ⟨RQ_other h.1 ho ho2 hl hh, h.2.1, h.2.2.1, hd.trans h.2.2.2.1, h.2.2.2.2⟩
theorem lx_meet_ok {n : Nat} {fs fu fk : Nat → Int32} {so ma : Nat → Nat} {un : Nat → Option Nat} {nv j : Nat} {on terms p0 p1 : Int32} {R : RulL} {t t' : List Nat} (hn : 100000 ≤ n) (hsg : SG fs fu so un) (hsv : SV so un ma nv) (hR : KR2 so un ma nv fk R) (hj : j < 1000) :
    ∀ (d k m : Nat) (s : WS) (fre frm frd : Nat → Int32) (Q P : List (List Nat)) (dq dp : Nat), k + d = j → d < m → s.tm = 0 → LV so un ma nv R (ron on R.length) t k fre frm frd 0 Q dq → LV so un ma nv R (ron on R.length) t' k fre frm frd 1 P dp → (∀ i : Nat, i < k → ¬ MT so un R (ron on R.length) t t' i) →
      ∃ (r th' : Int32) (s' : WS) (fre' frm' frd' : Nat → Int32), lx_meet_47 n fs fu fk terms (nI R.length) on p0 p1 (nI j) m (nI k) 0 s.fp s.top s.fsp s.fgp s.fgt s.fb s.fw s.wt s.fm s.pv s.ff s.tm s.fpl s.fru s.fr s.M fre frm frd = some (r, th', s'.fp, s'.top, s'.fsp, s'.fgp, s'.fgt, s'.fb, s'.fw, s'.wt, s'.fm, s'.pv, s'.ff, s'.tm, s'.fpl, s'.fru, s'.fr, s'.M, fre', frm', frd') ∧ MEET so un R (ron on R.length) t t' j r th' := by
  intro d
  induction d with
  | zero =>
    intro k m s fre frm frd Q P dq dp hk hm htm h1 h2 h3
    cases m with
    | zero => omega
    | succ m =>
      have e : k = j := by omega
      subst e
      have nb : ¬ TM2 so un R (ron on R.length) t t' k := fun q => q.elim (LV_not h1) (LV_not h2)
      obtain ⟨r, fp', z1, z2⟩ := fx_doMeet_ok (fp := s.fp) (top := s.top) hn h1.1 h2.1
      have st : lx_meet_47 n fs fu fk terms (nI R.length) on p0 p1 (nI k) (m + 1) (nI k) 0 s.fp s.top s.fsp s.fgp s.fgt s.fb s.fw s.wt s.fm s.pv s.ff s.tm s.fpl s.fru s.fr s.M fre frm frd = if r = 0 then some (-1, 0, fp', 0, s.fsp, s.fgp, s.fgt, s.fb, s.fw, s.wt, s.fm, s.pv, s.ff, s.tm, s.fpl, s.fru, s.fr, s.M, fre, frm, frd) else some (nI k, 0, fp', 0, s.fsp, s.fgp, s.fgt, s.fb, s.fw, s.wt, s.fm, s.pv, s.ff, s.tm, s.fpl, s.fru, s.fr, s.M, fre, frm, frd) := by
        show bx_meet_47 n fs fu fk terms (nI R.length) on p0 p1 (nI k) (lx_meet_47 n fs fu fk terms (nI R.length) on p0 p1 (nI k) m) (nI k) 0 s.fp s.top s.fsp s.fgp s.fgt s.fb s.fw s.wt s.fm s.pv s.ff s.tm s.fpl s.fru s.fr s.M fre frm frd = _
        unfold bx_meet_47
        rw [if_neg (show ¬ nI k < nI k from Int32.lt_irrefl), z1, xb3_s]
        by_cases z : r = 0
        · rw [if_pos z, if_pos z, if_pos rfl]
        · rw [if_neg z, if_neg z]
      rw [st]
      rcases z2 with ⟨q1, x, q2, q3⟩ | ⟨q1, q2⟩
      · rw [q1, if_neg (by decide)]
        exact ⟨_, _, (fp', 0, s.2.2), _, _, _, rfl, Or.inl ⟨k, Nat.le_refl _, ⟨x, (h1.2.1 x).mp q2, (h2.2.1 x).mp q3⟩, h3, nb, rfl, rfl⟩⟩
      · rw [q1, if_pos rfl]
        refine ⟨_, _, (fp', 0, s.2.2), _, _, _, rfl, Or.inr (Or.inl ⟨fun i hi => ?_, nb, rfl, rfl⟩)⟩
        by_cases e : i = k
        · rw [e]
          rintro ⟨x, a1, a2⟩
          exact q2 x ((h1.2.1 x).mpr a1) ((h2.2.1 x).mpr a2)
        · exact h3 i (by omega)
  | succ d ih =>
    intro k m s fre frm frd Q P dq dp hk hm htm h1 h2 h3
    cases m with
    | zero => omega
    | succ m =>
      have nb : ¬ TM2 so un R (ron on R.length) t t' k := fun q => q.elim (LV_not h1) (LV_not h2)
      have e0 : nI 0 = (0 : Int32) := rfl
      have e1 : nI 1 = (1 : Int32) := rfl
      obtain ⟨r, fp', z1, z2⟩ := fx_doMeet_ok (fp := s.fp) (top := s.top) hn h1.1 h2.1
      rcases z2 with ⟨q1, x, q2, q3⟩ | ⟨q1, q2⟩
      · have st : lx_meet_47 n fs fu fk terms (nI R.length) on p0 p1 (nI j) (m + 1) (nI k) 0 s.fp s.top s.fsp s.fgp s.fgt s.fb s.fw s.wt s.fm s.pv s.ff s.tm s.fpl s.fru s.fr s.M fre frm frd = some (nI k, 0, fp', 0, s.fsp, s.fgp, s.fgt, s.fb, s.fw, s.wt, s.fm, s.pv, s.ff, s.tm, s.fpl, s.fru, s.fr, s.M, fre, frm, frd) := by
          show bx_meet_47 n fs fu fk terms (nI R.length) on p0 p1 (nI j) (lx_meet_47 n fs fu fk terms (nI R.length) on p0 p1 (nI j) m) (nI k) 0 s.fp s.top s.fsp s.fgp s.fgt s.fb s.fw s.wt s.fm s.pv s.ff s.tm s.fpl s.fru s.fr s.M fre frm frd = _
          unfold bx_meet_47
          rw [if_neg (by rw [nI_lt_iff (by omega) (by omega)]; omega), z1, xb3_s, q1, if_neg (by decide)]
        rw [st]
        exact ⟨_, _, (fp', 0, s.2.2), _, _, _, rfl, Or.inl ⟨k, by omega, ⟨x, (h1.2.1 x).mp q2, (h2.2.1 x).mp q3⟩, h3, nb, rfl, rfl⟩⟩
      · have nm : ∀ i : Nat, i ≤ k → ¬ MT so un R (ron on R.length) t t' i := fun i hi => by
          by_cases e : i = k
          · rw [e]
            rintro ⟨x, a1, a2⟩
            exact q2 x ((h1.2.1 x).mpr a1) ((h2.2.1 x).mpr a2)
          · exact h3 i (by omega)
        obtain ⟨s1, fre1, frm1, frd1, g1, g2, g3, g4⟩ := gre_ok (fp', 0, s.2.2) hn hsg hsv hR (show 0 < 2 by decide) h1 htm
        have h2' := LV_other h2 (l := 0) (by decide) (by decide) (by decide) g2 (g3 1 (by decide) (by decide))
        rw [e0] at g1
        have st : ∀ (s2 : WS) (fre2 frm2 frd2 : Nat → Int32), fx_goesReach n fs fu s1.fp s1.top s1.fsp fk (nI R.length) on s1.fgp s1.fgt s1.fb s1.fw s1.wt s1.fm s1.pv s1.ff s1.tm s1.fpl s1.fru s1.fr s1.M fre1 frm1 frd1 1 = some (s2.fp, s2.top, s2.fsp, s2.fgp, s2.fgt, s2.fb, s2.fw, s2.wt, s2.fm, s2.pv, s2.ff, s2.tm, s2.fpl, s2.fru, s2.fr, s2.M, fre2, frm2, frd2) → (s2.tm = 0 ∨ s2.tm = 1) → lx_meet_47 n fs fu fk terms (nI R.length) on p0 p1 (nI j) (m + 1) (nI k) 0 s.fp s.top s.fsp s.fgp s.fgt s.fb s.fw s.wt s.fm s.pv s.ff s.tm s.fpl s.fru s.fr s.M fre frm frd = if s2.tm = 0 then lx_meet_47 n fs fu fk terms (nI R.length) on p0 p1 (nI j) m (nI (k + 1)) 0 s2.fp s2.top s2.fsp s2.fgp s2.fgt s2.fb s2.fw s2.wt s2.fm s2.pv s2.ff s2.tm s2.fpl s2.fru s2.fr s2.M fre2 frm2 frd2 else some (0, 3, s2.fp, s2.top, s2.fsp, s2.fgp, s2.fgt, s2.fb, s2.fw, s2.wt, s2.fm, s2.pv, s2.ff, s2.tm, s2.fpl, s2.fru, s2.fr, s2.M, fre2, frm2, frd2) := fun s2 fre2 frm2 frd2 gg ht => by
          show bx_meet_47 n fs fu fk terms (nI R.length) on p0 p1 (nI j) (lx_meet_47 n fs fu fk terms (nI R.length) on p0 p1 (nI j) m) (nI k) 0 s.fp s.top s.fsp s.fgp s.fgt s.fb s.fw s.wt s.fm s.pv s.ff s.tm s.fpl s.fru s.fr s.M fre frm frd = _
          unfold bx_meet_47
          have g1' : fx_goesReach n fs fu fp' 0 s.fsp fk (nI R.length) on s.fgp s.fgt s.fb s.fw s.wt s.fm s.pv s.ff s.tm s.fpl s.fru s.fr s.M fre frm frd 0 = some (s1.fp, s1.top, s1.fsp, s1.fgp, s1.fgt, s1.fb, s1.fw, s1.wt, s1.fm, s1.pv, s1.ff, s1.tm, s1.fpl, s1.fru, s1.fr, s1.M, fre1, frm1, frd1) := g1
          rw [if_neg (by rw [nI_lt_iff (by omega) (by omega)]; omega), z1, xb3_s, q1, if_pos rfl, if_neg (by rw [nI_inj (by omega) (by omega)]; omega), g1', xb19_s, gg, xb19_s, fx_tooMuch_ok ht, xb2_s]
          by_cases z : s2.tm = 0
          · rw [if_pos z, if_pos z, if_pos z, xl_eq, nI_1]
          · rw [if_neg z, if_neg z, if_neg z]
        rcases g4 with ⟨t0, Q', t1⟩ | ⟨t0, t1⟩
        · obtain ⟨s2, fre2, frm2, frd2, y1, y2, y3, y4⟩ := gre_ok s1 hn hsg hsv hR (show 1 < 2 by decide) h2' t0
          have t1' := LV_other t1 (l := 1) (by decide) (by decide) (by decide) y2 (y3 0 (by decide) (by decide))
          rw [e1] at y1
          rcases y4 with ⟨u0, P', u1⟩ | ⟨u0, u1⟩
          · rw [st s2 fre2 frm2 frd2 y1 (Or.inl u0), if_pos u0]
            exact ih (k + 1) m s2 fre2 frm2 frd2 Q' P' Q.length P.length (by omega) (by omega) u0 t1' u1 (fun i hi => nm i (by omega))
          · rw [st s2 fre2 frm2 frd2 y1 (Or.inr u0), if_neg (by rw [u0]; decide)]
            exact ⟨_, _, s2, _, _, _, rfl, Or.inr (Or.inr ⟨k, by omega, nm, Or.inr u1, rfl, rfl⟩)⟩
        · obtain ⟨frd2, y1, y2⟩ := gre_one (fs := fs) (fu := fu) (fk := fk) (fre := fre1) (frd := frd1) (on := on) (rules := nI R.length) s1 hn (show 1 < 2 by decide) h2'.1.2.2.2.1 t0
          rw [e1] at y1
          rw [st s1 fre1 frm1 frd2 y1 (Or.inr t0), if_neg (by rw [t0]; decide)]
          exact ⟨_, _, s1, _, _, _, rfl, Or.inr (Or.inr ⟨k, by omega, nm, Or.inl t1, rfl, rfl⟩)⟩
theorem fx_meet_ok {n : Nat} {fs fu fk fre frm frd : Nat → Int32} {so ma : Nat → Nat} {un : Nat → Option Nat} {nv : Nat} {on th x y z : Int32} {R : RulL} {Tm : List (List Nat)} (s : WS) (hn : 100000 ≤ n) (hsg : SG fs fu so un) (hsv : SV so un ma nv) (h : KT so un ma nv fk Tm) (hR : KR2 so un ma nv fk R) :
    ∃ (r th' : Int32) (s' : WS) (fre' frm' frd' : Nat → Int32), fx_meet n th fs fu s.fp s.top s.fsp fk (nI Tm.length) (nI R.length) on s.fgp s.fgt s.fb s.fw s.wt s.fm s.pv s.ff s.tm s.fpl s.fru s.fr s.M fre frm frd x y z = some (r, th', s'.fp, s'.top, s'.fsp, s'.fgp, s'.fgt, s'.fb, s'.fw, s'.wt, s'.fm, s'.pv, s'.ff, s'.tm, s'.fpl, s'.fru, s'.fr, s'.M, fre', frm', frd') ∧
      ((∃ i i' j : Nat, (i < Tm.length ∧ x = nI i) ∧ (i' < Tm.length ∧ y = nI i') ∧ (j < 5 ∧ z = nI j) ∧ MEET so un R (ron on R.length) (nth Tm i) (nth Tm i') j r th') ∨
       (isn x Tm.length ∧ isn y Tm.length ∧ ¬ isn z 5 ∧ r = 0 ∧ th' = 2) ∨ (¬ (isn x Tm.length ∧ isn y Tm.length) ∧ r = 0 ∧ th' = 1)) := by
  have hl := h.1
  unfold fx_meet
  rcases fx_noTerm_ok (n := n) (th := 0) (x := x) (k := Tm.length) (by omega) with ⟨h1, e1⟩ | ⟨h1, e1⟩
  · rw [e1, xb2_s, if_pos rfl]
    rcases fx_noTerm_ok (n := n) (th := 0) (x := y) (k := Tm.length) (by omega) with ⟨h3, e3⟩ | ⟨h3, e3⟩
    · rw [e3, xb2_s, if_pos rfl]
      rcases fx_noDepth_ok (n := n) (th := 0) (x := z) (c := 2) with ⟨h2, e2⟩ | ⟨h2, e2⟩
      · obtain ⟨i, i1, i2⟩ := isn_of (by omega) h1
        obtain ⟨i', i3, i4⟩ := isn_of (by omega) h3
        obtain ⟨j, j1, j2⟩ := isn_of (by decide) h2
        rw [e2, xb2_s, if_pos rfl, i2, i4, j2]
        obtain ⟨fre1, frm1, frd1, b1, b2, b3, b4⟩ := brg_ok (R := R) (on := ron on R.length) (fp := s.fp) (fre := fre) (frm := frm) (frd := frd) (top := s.top) (tm := s.tm) hn h (show 0 < 2 by decide) i1
        obtain ⟨fre2, frm2, frd2, c1, c2, c3, c4⟩ := brg_ok (R := R) (on := ron on R.length) (fp := put s.fp 0 (nth Tm i)) (fre := fre1) (frm := frm1) (frd := frd1) (top := nI (nth Tm i).length) (tm := 0) hn h (show 1 < 2 by decide) i3
        have e0 : nI 0 = (0 : Int32) := rfl
        have e9 : nI 1 = (1 : Int32) := rfl
        have b2' := LV_other b2 (l := 1) (by decide) (by decide) (by decide) c3 (c4 0 (by decide) (by decide))
        obtain ⟨r, th', s', fre', frm', frd', z1, z2⟩ := lx_meet_ok (terms := nI Tm.length) (p0 := nI i) (p1 := nI i') (on := on) hn hsg hsv hR (show j < 1000 by omega) j 0 n (put (put s.fp 0 (nth Tm i)) 0 (nth Tm i'), nI (nth Tm i').length, s.fsp, s.fgp, s.fgt, s.fb, s.fw, s.wt, s.fm, s.pv, s.ff, 0, s.fpl, s.fru, s.fr, s.M) fre2 frm2 frd2 [nth Tm i] [nth Tm i'] 0 0 (by omega) (by omega) rfl b2' c2 (fun i9 hi9 => absurd hi9 (Nat.not_lt_zero _))
        rw [e0] at b1 z1
        rw [e9] at c1
        rw [b1, xb6_s, c1, xb6_s]
        exact ⟨r, th', s', fre', frm', frd', z1, Or.inl ⟨i, i', j, ⟨i1, rfl⟩, ⟨i3, rfl⟩, ⟨j1, rfl⟩, z2⟩⟩
      · rw [e2, xb2_s, if_neg (by decide)]
        exact ⟨_, _, s, _, _, _, rfl, Or.inr (Or.inl ⟨h1, h3, h2, rfl, rfl⟩)⟩
    · rw [e3, xb2_s, if_neg (by decide)]
      exact ⟨_, _, s, _, _, _, rfl, Or.inr (Or.inr ⟨fun q => h3 q.2, rfl, rfl⟩)⟩
  · rw [e1, xb2_s, if_neg (by decide)]
    exact ⟨_, _, s, _, _, _, rfl, Or.inr (Or.inr ⟨fun q => h1 q.1, rfl, rfl⟩)⟩
