/-! ===== steps told: how many, the k-th one, its place and rule ===== -/
theorem lx_stepComes_ok {n : Nat} {fk : Nat → Int32} {p0 x2 : Int32} : ∀ (l : List Nat) (k : Nat) (f : Nat → Int32) (a t m : Nat), la fk a l → wf k l → col l → a + l.length ≤ 4221 → t + l.length ≤ 60000 → l.length < m →
    lx_stepComes_13 n fk p0 m x2 (nI k) (nI a) f (nI t) = some (x2, put f t l, nI (t + l.length))
  | [], k, f, a, t, m + 1, _, hw, _, _, _, _ => by
    have : k = 0 := hw
    subst this
    show bx_stepComes_13 n fk p0 (lx_stepComes_13 n fk p0 m) _ _ _ _ _ = _
    unfold bx_stepComes_13
    rw [if_pos (show nI 0 ≤ (0 : Int32) by decide)]; rfl
  | c :: l, 0, f, a, t, m + 1, _, hw, _, _, _, _ => absurd hw.1 (Nat.lt_irrefl 0)
  | c :: l, k + 1, f, a, t, m + 1, hl, hw, hc, ha, ht, hm => by
    have hk := wf_len hw
    simp only [List.length_cons] at hk ha ht hm ⊢
    have hcc := cok_lt (col_cons.mp hc).1
    show bx_stepComes_13 n fk p0 (lx_stepComes_13 n fk p0 m) _ _ _ _ _ = _
    unfold bx_stepComes_13
    rw [if_neg (nI_nle (by omega) (by omega)), xr_n (by omega) (by decide), hl.1, xw_n (by omega) (by decide), fx_partsAt_ok (upd_eq f t (nI c)) hcc (by omega)]
    show lx_stepComes_13 n fk p0 m x2 (nI (k + 1) + (nI (ar c) - 1)) (nI a + 1) (upd f t (nI c)) (nI t + 1) = _
    rw [nI_bal, nI_1, nI_1]
    have h2 := hw.2
    rw [show k + 1 - 1 + ar c = k + ar c by omega] at h2
    rw [lx_stepComes_ok l (k + ar c) (upd f t (nI c)) (a + 1) (t + 1) m hl.2 h2 (col_cons.mp hc).2 (by omega) (by omega) (by omega), show t + (l.length + 1) = t + 1 + l.length by omega]; rfl
theorem fx_stepComes_ok {n : Nat} {fk f : Nat → Int32} {l : List Nat} {r t : Nat} (hl : la fk (21 * r) l) (hw : wf 1 l) (hc : col l) (hr : 21 * r + l.length ≤ 4221) (ht : t + l.length ≤ 60000) (hn : 100000 ≤ n) : fx_stepComes n f (nI t) fk (nI r) = some (nI t, put f t l, nI (t + l.length)) := by
  unfold fx_stepComes
  rw [xl_eq, show (21 : Int32) = nI 21 from rfl, nI_mul (by omega) (by decide) (by omega)]
  exact lx_stepComes_ok l 1 f (21 * r) t n hl hw hc hr ht (by omega)
/-- the rules that are on, of so many -/
def ron (on : Int32) (k : Nat) : Int32 := on &&& (((1 : Int32) <<< (nI k &&& 31)) - 1)
theorem fx_rulesOn_ok {n k : Nat} {on : Int32} : fx_rulesOn n (nI k) on = some (ron on k) := rfl
/-- all steps of a term, in order -/
def StL (so : Nat → Nat) (un : Nat → Option Nat) (R : RulL) (on : Int32) (np : Nat) (w : List Nat) (S : List StpE) : Prop := S.Pairwise slt ∧ (∀ s ∈ S, sok so s.2.2) ∧ S.length ≤ 200 ∧ (∀ s : StpE, s ∈ S ↔ isSt so un R on np w s) ∧ ¬ TMs so un R on np w
theorem fx_stepsOf_ok {n : Nat} {fs fu fk fp fsp fgp fgt fb fw ff fpl fru fr : Nat → Int32} {so ma : Nat → Nat} {un : Nat → Option Nat} {nv i : Nat} {th top on wt fm pv tm M code : Int32} {Tm : List (List Nat)} {R : RulL} (hn : 100000 ≤ n) (hsg : SG fs fu so un) (hsv : SV so un ma nv) (h : KT so un ma nv fk Tm) (hR : KR2 so un ma nv fk R) (hi : i < Tm.length) :
    ∃ (fp' fsp' fgp' fgt' fb' fw' : Nat → Int32) (wt' fm' pv' : Int32) (ff' : Nat → Int32) (tm' : Int32) (fpl' fru' fr' : Nat → Int32) (M' : Int32), fx_stepsOf n th fs fu fp top fsp fk (nI R.length) on fgp fgt fb fw wt fm pv ff tm fpl fru fr M (nI i) code = some (if tm' = 0 then 1 else 0, if tm' = 0 then th else code, fp', nI (nth Tm i).length, fsp', fgp', fgt', fb', fw', wt', fm', pv', ff', tm', fpl', fru', fr', M') ∧
      ((tm' = 0 ∧ ∃ S : List StpE, StL so un R (ron on R.length) (nth Tm i).length (nth Tm i) S ∧ SL fpl' fru' fr' S ∧ M' = nI S.length) ∨ (tm' = 1 ∧ TMs so un R (ron on R.length) (nth Tm i).length (nth Tm i))) := by
  obtain ⟨a1, a2, a3, a4⟩ := KT_get h hi
  obtain ⟨fp', fsp', fgp', fgt', fb', fw', wt', fm', pv', ff', tm', fpl', fru', fr', M', g1, g2, g3⟩ := fx_laysSteps_ok (fsp := fsp) (fgp := fgp) (fgt := fgt) (fb := fb) (fw := fw) (ff := ff) (fpl := fpl) (fru := fru) (fr := fr) (wt := wt) (fm := fm) (pv := pv) (M := M) (on := ron on R.length) (top := false) (T := (nth Tm i).length) (wa := 0) hn hsg (SV_SU hsv) a1.1 a1.2.1 (by omega) hR.1 (by omega) (put_la (f := fp) (a := 0) (l := nth Tm i))
  have g3' : LSO so un R (ron on R.length) (nth Tm i).length (nth Tm i) tm' fpl' fru' fr' M' := g3
  have e0 : fx_stepsOf n th fs fu fp top fsp fk (nI R.length) on fgp fgt fb fw wt fm pv ff tm fpl fru fr M (nI i) code = (xb2 (fx_tooMuch n th tm' code) fun r_71 th_72 => if r_71 = (0 : Int32) then (some ((1 : Int32), th_72, fp', nI (nth Tm i).length, fsp', fgp', fgt', fb', fw', wt', fm', pv', ff', tm', fpl', fru', fr', M')) else (some ((0 : Int32), th_72, fp', nI (nth Tm i).length, fsp', fgp', fgt', fb', fw', wt', fm', pv', ff', tm', fpl', fru', fr', M'))) := by
    unfold fx_stepsOf
    rw [fx_termAt_ok hn h hi, xb4_s, fx_rulesOn_ok, xb1_s]
    have e1 : ob false = (0 : Int32) := rfl
    have e2 : nI 0 = (0 : Int32) := rfl
    rw [e1, e2] at g1
    rw [g1, xb16_s]
  rcases g3' with ⟨t0, t1, S, s1, s2, s3, s4, s5, s6⟩ | ⟨t0, t1⟩
  · refine ⟨fp', fsp', fgp', fgt', fb', fw', wt', fm', pv', ff', tm', fpl', fru', fr', M', ?_, Or.inl ⟨t0, S, ⟨s1, s2, s3, s6, t1⟩, s4, s5⟩⟩
    rw [e0, t0, fx_tooMuch_ok (Or.inl rfl), xb2_s, if_pos rfl, if_pos rfl, if_pos rfl]
  · refine ⟨fp', fsp', fgp', fgt', fb', fw', wt', fm', pv', ff', tm', fpl', fru', fr', M', ?_, Or.inr ⟨t0, t1⟩⟩
    rw [e0, t0, fx_tooMuch_ok (Or.inr rfl), xb2_s, if_neg (show ¬ (1 : Int32) = 0 by decide), if_neg (show ¬ (1 : Int32) = 0 by decide), if_neg (show ¬ (1 : Int32) = 0 by decide)]
theorem fx_steps_ok {n : Nat} {fs fu fk fp fsp fgp fgt fb fw ff fpl fru fr : Nat → Int32} {so ma : Nat → Nat} {un : Nat → Option Nat} {nv : Nat} {th top on wt fm pv tm M x : Int32} {Tm : List (List Nat)} {R : RulL} (hn : 100000 ≤ n) (hsg : SG fs fu so un) (hsv : SV so un ma nv) (h : KT so un ma nv fk Tm) (hR : KR2 so un ma nv fk R) :
    ∃ (r th' : Int32) (fp' : Nat → Int32) (top' : Int32) (fsp' fgp' fgt' fb' fw' : Nat → Int32) (wt' fm' pv' : Int32) (ff' : Nat → Int32) (tm' : Int32) (fpl' fru' fr' : Nat → Int32) (M' : Int32), fx_steps n th fs fu fp top fsp fk (nI Tm.length) (nI R.length) on fgp fgt fb fw wt fm pv ff tm fpl fru fr M x = some (r, th', fp', top', fsp', fgp', fgt', fb', fw', wt', fm', pv', ff', tm', fpl', fru', fr', M') ∧
      ((∃ (i : Nat) (S : List StpE), (i < Tm.length ∧ x = nI i) ∧ StL so un R (ron on R.length) (nth Tm i).length (nth Tm i) S ∧ r = nI S.length ∧ th' = 0) ∨
       (∃ (i : Nat), (i < Tm.length ∧ x = nI i) ∧ TMs so un R (ron on R.length) (nth Tm i).length (nth Tm i) ∧ r = 0 ∧ th' = 2) ∨ (¬ isn x Tm.length ∧ r = 0 ∧ th' = 1)) := by
  have hl := h.1
  unfold fx_steps
  rcases fx_noTerm_ok (n := n) (th := 0) (x := x) (k := Tm.length) (by omega) with ⟨h1, e1⟩ | ⟨h1, e1⟩
  · obtain ⟨i, i1, i2⟩ := isn_of (by omega) h1
    obtain ⟨fp', fsp', fgp', fgt', fb', fw', wt', fm', pv', ff', tm', fpl', fru', fr', M', g1, g2⟩ := fx_stepsOf_ok (fp := fp) (fsp := fsp) (fgp := fgp) (fgt := fgt) (fb := fb) (fw := fw) (ff := ff) (fpl := fpl) (fru := fru) (fr := fr) (th := 0) (top := top) (on := on) (wt := wt) (fm := fm) (pv := pv) (tm := tm) (M := M) (code := 2) hn hsg hsv h hR i1
    rw [i2] at e1 ⊢
    rw [e1, xb2_s, if_pos rfl, g1, xb18_s]
    rcases g2 with ⟨t0, S, s1, s2, s3⟩ | ⟨t0, t1⟩
    · rw [t0, if_pos rfl, if_pos rfl, if_neg (by decide)]
      exact ⟨_, _, _, _, _, _, _, _, _, _, _, _, _, _, _, _, _, _, rfl, Or.inl ⟨i, S, ⟨i1, rfl⟩, s1, s3, rfl⟩⟩
    · rw [t0, if_neg (show ¬ (1 : Int32) = 0 by decide), if_neg (show ¬ (1 : Int32) = 0 by decide), if_pos rfl]
      exact ⟨_, _, _, _, _, _, _, _, _, _, _, _, _, _, _, _, _, _, rfl, Or.inr (Or.inl ⟨i, ⟨i1, rfl⟩, t1, rfl, rfl⟩)⟩
  · rw [e1, xb2_s, if_neg (by decide)]
    exact ⟨_, _, _, _, _, _, _, _, _, _, _, _, _, _, _, _, _, _, rfl, Or.inr (Or.inr ⟨h1, rfl, rfl⟩)⟩
def nthS (S : List StpE) (k : Nat) : StpE := S.getD k (0, 0, [])
theorem splitS {S : List StpE} {i : Nat} (h : i < S.length) : ∃ A B : List StpE, S = A ++ nthS S i :: B ∧ A.length = i := by
  refine ⟨S.take i, S.drop (i + 1), ?_, by rw [List.length_take]; omega⟩
  have e : nthS S i = S[i] := by
    unfold nthS
    rw [List.getD_eq_getElem?_getD, List.getElem?_eq_getElem h]; rfl
  rw [e]
  simp
theorem StL_tok {so ma : Nat → Nat} {un : Nat → Option Nat} {nv : Nat} {R : RulL} {on : Int32} {np : Nat} {w : List Nat} {S : List StpE} {fk : Nat → Int32} (hsv : SV so un ma nv) (hR : KR2 so un ma nv fk R) (hw : tok so un ma nv w) (hnp : np ≤ w.length) (hS : StL so un R on np w S) : ∀ s ∈ S, tok so un ma nv s.2.2 ∧ s.1 < 20 ∧ s.2.1 < 8 := fun s hs => by
  obtain ⟨h1, h2, h3, h4⟩ := (hS.2.2.2.1 s).mp hs
  have hwl := tok_len hw
  have h8 := hR.1.1
  have hm := rul_mem h2
  exact ⟨stG_tok hsv hw (by omega) (hR.1.2.1 _ hm) (hR.2 _ hm).2.2.2 h4, by omega, by omega⟩
theorem fx_step_ok {n : Nat} {nm nmm fs fu fk fp fsp fgp fgt fb fw ff fpl fru fr shr tx : Nat → Int32} {so ma : Nat → Nat} {un : Nat → Option Nat} {nv : Nat} {nmL : Nat → List Nat} {th top on wt fm pv tm M iss shn x k : Int32} {Tm : List (List Nat)} {R : RulL} (hn : 100000 ≤ n) (hsg : SG fs fu so un) (hsv : SV so un ma nv) (hnm : NMs so nv nm nmm nmL) (h : KT so un ma nv fk Tm) (hR : KR2 so un ma nv fk R) :
    ∃ (r th' : Int32) (fp' : Nat → Int32) (top' : Int32) (fsp' fgp' fgt' fb' fw' : Nat → Int32) (wt' fm' pv' : Int32) (ff' : Nat → Int32) (tm' : Int32) (fpl' fru' fr' : Nat → Int32) (M' : Int32) (shr' tx' : Nat → Int32) (iss' shn' : Int32), fx_step n th nm nmm fs fu fp top fsp fk (nI Tm.length) (nI R.length) on fgp fgt fb fw wt fm pv ff tm fpl fru fr M shr tx iss shn x k = some (r, th', fp', top', fsp', fgp', fgt', fb', fw', wt', fm', pv', ff', tm', fpl', fru', fr', M', shr', tx', iss', shn') ∧
      ((∃ (i : Nat) (S : List StpE), (i < Tm.length ∧ x = nI i) ∧ StL so un R (ron on R.length) (nth Tm i).length (nth Tm i) S ∧
          ((∃ q : Nat, q < S.length ∧ k = nI q ∧ th' = 0 ∧ r = nI (txt nmL (nthS S q).2.2).length ∧ SHW so un ma nv nmL (some (nthS S q).2.2) shr' tx' iss' shn') ∨
           (¬ isn k S.length ∧ th' = 2 ∧ r = 0 ∧ shr' = shr ∧ tx' = tx ∧ iss' = iss ∧ shn' = shn))) ∨
       (∃ (i : Nat), (i < Tm.length ∧ x = nI i) ∧ TMs so un R (ron on R.length) (nth Tm i).length (nth Tm i) ∧ th' = 3 ∧ r = 0 ∧ shr' = shr ∧ tx' = tx ∧ iss' = iss ∧ shn' = shn) ∨
       (¬ isn x Tm.length ∧ th' = 1 ∧ r = 0 ∧ shr' = shr ∧ tx' = tx ∧ iss' = iss ∧ shn' = shn)) := by
  have hl := h.1
  unfold fx_step
  rcases fx_noTerm_ok (n := n) (th := 0) (x := x) (k := Tm.length) (by omega) with ⟨h1, e1⟩ | ⟨h1, e1⟩
  · obtain ⟨i, i1, i2⟩ := isn_of (by omega) h1
    obtain ⟨a1, a2, a3, a4⟩ := KT_get h i1
    obtain ⟨fp', fsp', fgp', fgt', fb', fw', wt', fm', pv', ff', tm', fpl', fru', fr', M', g1, g2⟩ := fx_stepsOf_ok (fp := fp) (fsp := fsp) (fgp := fgp) (fgt := fgt) (fb := fb) (fw := fw) (ff := ff) (fpl := fpl) (fru := fru) (fr := fr) (th := 0) (top := top) (on := on) (wt := wt) (fm := fm) (pv := pv) (tm := tm) (M := M) (code := 3) hn hsg hsv h hR i1
    rw [i2] at e1 ⊢
    rw [e1, xb2_s, if_pos rfl, g1, xb18_s]
    rcases g2 with ⟨t0, S, s1, s2, s3⟩ | ⟨t0, t1⟩
    · have hS2 := s1.2.2.1
      rw [t0, if_pos rfl, if_pos rfl, if_neg (by decide), xl_eq, s3]
      rcases in_isn (n := n) (x := k) (k := S.length) (by omega) with ⟨q1, q2⟩ | ⟨q1, q2⟩
      · obtain ⟨q, q3, q4⟩ := isn_of (by omega) q1
        obtain ⟨A, B, b1, b2⟩ := splitS q3
        have hmem : nthS S q ∈ S := by
          have z9 := List.mem_append_right A (List.mem_cons_self (a := nthS S q) (l := B))
          rw [← b1] at z9; exact z9
        obtain ⟨htk, _, _⟩ := StL_tok hsv hR a1 (Nat.le_refl _) s1 _ hmem
        have htl := tok_len htk
        rw [b1] at s2
        obtain ⟨_, _, sg3⟩ := SL_get s2
        rw [b2] at sg3
        rw [← b1] at s2
        obtain ⟨shr', tx', y1, y2⟩ := shows_SHW (shr := shr) (tx := tx) (iss := iss) (shn := shn) (fp := put fp' (nth Tm i).length (nthS S q).2.2) (a := (nth Tm i).length) hn hnm hsv.1 put_la htk (by omega)
        rw [q2, xb1_s, if_neg (by decide), fx_throwsIf_0, xb2_s, if_pos rfl, q4, fx_stepComes_ok sg3 htk.1.1.1 htk.1.1.2.1 (by omega) (by omega) hn, xb3_s, y1, xb5_s]
        exact ⟨_, _, _, _, _, _, _, _, _, _, _, _, _, _, _, _, _, _, _, _, _, _, rfl, Or.inl ⟨i, S, ⟨i1, rfl⟩, s1, Or.inl ⟨q, q3, rfl, rfl, rfl, y2⟩⟩⟩
      · rw [q2, xb1_s, if_pos rfl, fx_throwsIf_1, xb2_s, if_neg (by decide)]
        exact ⟨_, _, _, _, _, _, _, _, _, _, _, _, _, _, _, _, _, _, _, _, _, _, rfl, Or.inl ⟨i, S, ⟨i1, rfl⟩, s1, Or.inr ⟨q1, rfl, rfl, rfl, rfl, rfl, rfl⟩⟩⟩
    · rw [t0, if_neg (show ¬ (1 : Int32) = 0 by decide), if_neg (show ¬ (1 : Int32) = 0 by decide), if_pos rfl]
      exact ⟨_, _, _, _, _, _, _, _, _, _, _, _, _, _, _, _, _, _, _, _, _, _, rfl, Or.inr (Or.inl ⟨i, ⟨i1, rfl⟩, t1, rfl, rfl, rfl, rfl, rfl, rfl⟩)⟩
  · rw [e1, xb2_s, if_neg (by decide)]
    exact ⟨_, _, _, _, _, _, _, _, _, _, _, _, _, _, _, _, _, _, _, _, _, _, rfl, Or.inr (Or.inr ⟨h1, rfl, rfl, rfl, rfl, rfl, rfl⟩)⟩
theorem fx_stepAt_ok {n : Nat} {fs fu fk fp fsp fgp fgt fb fw ff fpl fru fr : Nat → Int32} {so ma : Nat → Nat} {un : Nat → Option Nat} {nv : Nat} {th top on wt fm pv tm M x k y : Int32} {Tm : List (List Nat)} {R : RulL} (hn : 100000 ≤ n) (hsg : SG fs fu so un) (hsv : SV so un ma nv) (h : KT so un ma nv fk Tm) (hR : KR2 so un ma nv fk R) :
    ∃ (r th' : Int32) (fp' : Nat → Int32) (top' : Int32) (fsp' fgp' fgt' fb' fw' : Nat → Int32) (wt' fm' pv' : Int32) (ff' : Nat → Int32) (tm' : Int32) (fpl' fru' fr' : Nat → Int32) (M' : Int32), fx_stepAt n th fs fu fp top fsp fk (nI Tm.length) (nI R.length) on fgp fgt fb fw wt fm pv ff tm fpl fru fr M x k y = some (r, th', fp', top', fsp', fgp', fgt', fb', fw', wt', fm', pv', ff', tm', fpl', fru', fr', M') ∧
      ((∃ (i : Nat) (S : List StpE), (i < Tm.length ∧ x = nI i) ∧ StL so un R (ron on R.length) (nth Tm i).length (nth Tm i) S ∧
          ((∃ q : Nat, q < S.length ∧ k = nI q ∧ isn y 2 ∧ th' = 0 ∧ r = if y = 0 then nI (nthS S q).1 else nI (nthS S q).2.1) ∨ (¬ (isn k S.length ∧ isn y 2) ∧ th' = 2 ∧ r = 0))) ∨
       (∃ (i : Nat), (i < Tm.length ∧ x = nI i) ∧ TMs so un R (ron on R.length) (nth Tm i).length (nth Tm i) ∧ th' = 3 ∧ r = 0) ∨ (¬ isn x Tm.length ∧ th' = 1 ∧ r = 0)) := by
  have hl := h.1
  unfold fx_stepAt
  rcases fx_noTerm_ok (n := n) (th := 0) (x := x) (k := Tm.length) (by omega) with ⟨h1, e1⟩ | ⟨h1, e1⟩
  · obtain ⟨i, i1, i2⟩ := isn_of (by omega) h1
    obtain ⟨a1, a2, a3, a4⟩ := KT_get h i1
    obtain ⟨fp', fsp', fgp', fgt', fb', fw', wt', fm', pv', ff', tm', fpl', fru', fr', M', g1, g2⟩ := fx_stepsOf_ok (fp := fp) (fsp := fsp) (fgp := fgp) (fgt := fgt) (fb := fb) (fw := fw) (ff := ff) (fpl := fpl) (fru := fru) (fr := fr) (th := 0) (top := top) (on := on) (wt := wt) (fm := fm) (pv := pv) (tm := tm) (M := M) (code := 3) hn hsg hsv h hR i1
    rw [i2] at e1 ⊢
    rw [e1, xb2_s, if_pos rfl, g1, xb18_s]
    rcases g2 with ⟨t0, S, s1, s2, s3⟩ | ⟨t0, t1⟩
    · have hS2 := s1.2.2.1
      rw [t0, if_pos rfl, if_pos rfl, if_neg (by decide), xl_eq, s3]
      have bad : ∀ z : Int32, z = 1 → ¬ (isn k S.length ∧ isn y 2) → ∃ (r th' : Int32) (fp9 : Nat → Int32) (top' : Int32) (fsp9 fgp9 fgt9 fb9 fw9 : Nat → Int32) (wt9 fm9 pv9 : Int32) (ff9 : Nat → Int32) (tm9 : Int32) (fpl9 fru9 fr9 : Nat → Int32) (M9 : Int32), jx_stepAt_51 n fs fu fk (nI Tm.length) (nI R.length) on (nI i) k y z 0 fp' (nI (nth Tm i).length) fsp' fgp' fgt' fb' fw' wt' fm' pv' ff' 0 fpl' fru' fr' (nI S.length) = some (r, th', fp9, top', fsp9, fgp9, fgt9, fb9, fw9, wt9, fm9, pv9, ff9, tm9, fpl9, fru9, fr9, M9) ∧ th' = 2 ∧ r = 0 := fun z hz _ => by
        unfold jx_stepAt_51
        rw [hz, fx_throwsIf_1, xb2_s, if_neg (by decide)]
        exact ⟨_, _, _, _, _, _, _, _, _, _, _, _, _, _, _, _, _, _, rfl, rfl, rfl⟩
      rcases in_isn (n := n) (x := k) (k := S.length) (by omega) with ⟨q1, q2⟩ | ⟨q1, q2⟩
      · rw [q2, xb1_s, if_neg (by decide)]
        have y2 := in_isn (n := n) (x := y) (k := 2) (by decide)
        rw [show nI 2 - 1 = (1 : Int32) from rfl] at y2
        rcases y2 with ⟨y1, y2⟩ | ⟨y1, y2⟩
        · obtain ⟨q, q3, q4⟩ := isn_of (by omega) q1
          obtain ⟨A, B, b1, b2⟩ := splitS q3
          rw [b1] at s2
          obtain ⟨sg1, sg2, _⟩ := SL_get s2
          rw [b2] at sg1 sg2
          rw [← b1] at s2
          rw [y2, xb1_s, if_neg (by decide)]
          unfold jx_stepAt_51
          rw [fx_throwsIf_0, xb2_s, if_pos rfl, q4]
          by_cases hy : y = 0
          · rw [if_pos hy, xr_n (by omega) (by decide)]
            exact ⟨_, _, _, _, _, _, _, _, _, _, _, _, _, _, _, _, _, _, rfl, Or.inl ⟨i, S, ⟨i1, rfl⟩, s1, Or.inl ⟨q, q3, rfl, y1, rfl, by rw [if_pos hy]; exact sg1⟩⟩⟩
          · rw [if_neg hy, xr_n (by omega) (by decide)]
            exact ⟨_, _, _, _, _, _, _, _, _, _, _, _, _, _, _, _, _, _, rfl, Or.inl ⟨i, S, ⟨i1, rfl⟩, s1, Or.inl ⟨q, q3, rfl, y1, rfl, by rw [if_neg hy]; exact sg2⟩⟩⟩
        · rw [y2, xb1_s, if_pos rfl]
          obtain ⟨r, th', b1, b2, b3, b4, b5, b6, b7, b8, b9, b10, b11, b12, b13, b14, b15, b16, z1, z2, z3⟩ := bad 1 rfl (fun q => y1 q.2)
          exact ⟨r, th', b1, b2, b3, b4, b5, b6, b7, b8, b9, b10, b11, b12, b13, b14, b15, b16, z1, Or.inl ⟨i, S, ⟨i1, rfl⟩, s1, Or.inr ⟨fun q => y1 q.2, z2, z3⟩⟩⟩
      · rw [q2, xb1_s, if_pos rfl]
        obtain ⟨r, th', b1, b2, b3, b4, b5, b6, b7, b8, b9, b10, b11, b12, b13, b14, b15, b16, z1, z2, z3⟩ := bad 1 rfl (fun q => q1 q.1)
        exact ⟨r, th', b1, b2, b3, b4, b5, b6, b7, b8, b9, b10, b11, b12, b13, b14, b15, b16, z1, Or.inl ⟨i, S, ⟨i1, rfl⟩, s1, Or.inr ⟨fun q => q1 q.1, z2, z3⟩⟩⟩
    · rw [t0, if_neg (show ¬ (1 : Int32) = 0 by decide), if_neg (show ¬ (1 : Int32) = 0 by decide), if_pos rfl]
      exact ⟨_, _, _, _, _, _, _, _, _, _, _, _, _, _, _, _, _, _, rfl, Or.inr (Or.inl ⟨i, ⟨i1, rfl⟩, t1, rfl, rfl⟩)⟩
  · rw [e1, xb2_s, if_neg (by decide)]
    exact ⟨_, _, _, _, _, _, _, _, _, _, _, _, _, _, _, _, _, _, rfl, Or.inr (Or.inr ⟨h1, rfl, rfl⟩)⟩
theorem fx_atTop_ok {n : Nat} {fs fu fk fp fsp fgp fgt fb fw ff fpl fru fr : Nat → Int32} {so ma : Nat → Nat} {un : Nat → Option Nat} {nv : Nat} {th top wt fm pv tm M x y : Int32} {Tm : List (List Nat)} {R : RulL} (hn : 100000 ≤ n) (hsg : SG fs fu so un) (hsv : SV so un ma nv) (h : KT so un ma nv fk Tm) (hR : KR2 so un ma nv fk R) :
    ∃ (r th' : Int32) (fp' : Nat → Int32) (top' : Int32) (fsp' fgp' fgt' fb' fw' : Nat → Int32) (wt' fm' pv' : Int32) (ff' : Nat → Int32) (tm' : Int32) (fpl' fru' fr' : Nat → Int32) (M' : Int32), fx_atTop n th fs fu fp top fsp fk (nI Tm.length) (nI R.length) fgp fgt fb fw wt fm pv ff tm fpl fru fr M x y = some (r, th', fp', top', fsp', fgp', fgt', fb', fw', wt', fm', pv', ff', tm', fpl', fru', fr', M') ∧
      ((∃ (i : Nat) (S : List StpE), (i < Tm.length ∧ x = nI i) ∧ isn y R.length ∧ StL so un R ((1 : Int32) <<< (y &&& 31)) 1 (nth Tm i) S ∧ r = nI S.length ∧ th' = 0) ∨
       (∃ (i : Nat), (i < Tm.length ∧ x = nI i) ∧ isn y R.length ∧ TMs so un R ((1 : Int32) <<< (y &&& 31)) 1 (nth Tm i) ∧ r = 0 ∧ th' = 2) ∨ (¬ (isn x Tm.length ∧ isn y R.length) ∧ r = 0 ∧ th' = 1)) := by
  have hl := h.1
  have h8 := hR.1.1
  unfold fx_atTop
  rcases fx_noTerm_ok (n := n) (th := 0) (x := x) (k := Tm.length) (by omega) with ⟨h1, e1⟩ | ⟨h1, e1⟩
  · rw [e1, xb2_s, if_pos rfl]
    rcases fx_noRule_ok (n := n) (th := 0) (x := y) (k := R.length) (by omega) with ⟨h2, e2⟩ | ⟨h2, e2⟩
    · rw [e2, xb2_s, if_pos rfl]
      obtain ⟨i, i1, i2⟩ := isn_of (by omega) h1
      obtain ⟨a1, a2, a3, a4⟩ := KT_get h i1
      obtain ⟨fp', fsp', fgp', fgt', fb', fw', wt', fm', pv', ff', tm', fpl', fru', fr', M', g1, g2, g3⟩ := fx_laysSteps_ok (fsp := fsp) (fgp := fgp) (fgt := fgt) (fb := fb) (fw := fw) (ff := ff) (fpl := fpl) (fru := fru) (fr := fr) (wt := wt) (fm := fm) (pv := pv) (M := M) (on := (1 : Int32) <<< (y &&& 31)) (top := true) (T := (nth Tm i).length) (wa := 0) hn hsg (SV_SU hsv) a1.1 a1.2.1 (by omega) hR.1 (by omega) (put_la (f := fp) (a := 0) (l := nth Tm i))
      have g3' : LSO so un R ((1 : Int32) <<< (y &&& 31)) 1 (nth Tm i) tm' fpl' fru' fr' M' := g3
      have e8 : ob true = (1 : Int32) := rfl
      have e9 : nI 0 = (0 : Int32) := rfl
      rw [e8, e9] at g1
      rw [i2, fx_termAt_ok hn h i1, xb4_s, xl_eq, g1, xb16_s]
      rcases g3' with ⟨t0, t1, S, s1, s2, s3, s4, s5, s6⟩ | ⟨t0, t1⟩
      · rw [t0, fx_tooMuch_ok (Or.inl rfl), xb2_s, if_pos rfl, if_pos rfl]
        exact ⟨_, _, _, _, _, _, _, _, _, _, _, _, _, _, _, _, _, _, rfl, Or.inl ⟨i, S, ⟨i1, rfl⟩, h2, ⟨s1, s2, s3, s6, t1⟩, s5, rfl⟩⟩
      · rw [t0, fx_tooMuch_ok (Or.inr rfl), xb2_s, if_neg (by decide), if_neg (by decide)]
        exact ⟨_, _, _, _, _, _, _, _, _, _, _, _, _, _, _, _, _, _, rfl, Or.inr (Or.inl ⟨i, ⟨i1, rfl⟩, h2, t1, rfl, rfl⟩)⟩
    · rw [e2, xb2_s, if_neg (by decide)]
      exact ⟨_, _, _, _, _, _, _, _, _, _, _, _, _, _, _, _, _, _, rfl, Or.inr (Or.inr ⟨fun q => h2 q.2, rfl, rfl⟩)⟩
  · rw [e1, xb2_s, if_neg (by decide)]
    exact ⟨_, _, _, _, _, _, _, _, _, _, _, _, _, _, _, _, _, _, rfl, Or.inr (Or.inr ⟨fun q => h1 q.1, rfl, rfl⟩)⟩
