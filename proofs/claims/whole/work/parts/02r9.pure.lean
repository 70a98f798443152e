/-! ===== walk ===== -/
theorem set_uniq {α : Type} {r : α → α → Prop} (has : ∀ a b : α, r a b → ¬ r b a) : ∀ {A B : List α}, A.Pairwise r → B.Pairwise r → (∀ x : α, x ∈ A ↔ x ∈ B) → A = B
  | [], [], _, _, _ => rfl
  | [], b :: B, _, _, h => absurd ((h b).mpr (List.mem_cons_self ..)) List.not_mem_nil
  | a :: A, [], _, _, h => absurd ((h a).mp (List.mem_cons_self ..)) List.not_mem_nil
  | a :: A, b :: B, hA, hB, h => by
    have ir : ∀ z : α, ¬ r z z := fun z q => has z z q q
    obtain ⟨a1, a2⟩ := List.pairwise_cons.mp hA
    obtain ⟨b1, b2⟩ := List.pairwise_cons.mp hB
    have e : a = b := by
      rcases List.mem_cons.mp ((h a).mp (List.mem_cons_self ..)) with q | q
      · exact q
      · rcases List.mem_cons.mp ((h b).mpr (List.mem_cons_self ..)) with q2 | q2
        · exact q2.symm
        · exact absurd (a1 b q2) (has b a (b1 a q))
    subst e
    have : A = B := set_uniq has a2 b2 (fun x => by
      constructor
      · intro hx
        rcases List.mem_cons.mp ((h x).mp (List.mem_cons_of_mem _ hx)) with q | q
        · rw [q] at hx; exact absurd (a1 a hx) (ir a)
        · exact q
      · intro hx
        rcases List.mem_cons.mp ((h x).mpr (List.mem_cons_of_mem _ hx)) with q | q
        · rw [q] at hx; exact absurd (b1 a hx) (ir a)
        · exact q)
    rw [this]
theorem klt_asym {a b : List Nat} (h : klt a b) : ¬ klt b a := fun h' => by
  unfold klt at h h'
  rw [cmpL_swap a b, h] at h'
  exact absurd h' (by decide)
theorem slt_asym (a b : StpE) (h : slt a b) : ¬ slt b a := fun h' => by
  rcases h with h | ⟨h1, h | ⟨h2, h⟩⟩ <;> rcases h' with h' | ⟨h1', h' | ⟨h2', h'⟩⟩
  · omega
  · omega
  · omega
  · omega
  · omega
  · omega
  · omega
  · omega
  · exact klt_asym h h'
theorem StL_uniq {so : Nat → Nat} {un : Nat → Option Nat} {R : RulL} {on : Int32} {np : Nat} {w : List Nat} {S S' : List StpE} (h : StL so un R on np w S) (h' : StL so un R on np w S') : S = S' := set_uniq slt_asym h.1 h'.1 (fun s => (h.2.2.2.1 s).trans (h'.2.2.2.1 s).symm)
/-- the first step again and again -/
def WLK (so : Nat → Nat) (un : Nat → Option Nat) (R : RulL) (on : Int32) : Nat → List Nat → Option (Nat × List Nat) → Prop
  | 0, w, r => r = some (0, w)
  | d + 1, w, r => (TMs so un R on w.length w ∧ r = none) ∨ (∃ S : List StpE, StL so un R on w.length w S ∧ ((S = [] ∧ r = some (0, w)) ∨ ∃ (s : StpE) (S' : List StpE) (r' : Option (Nat × List Nat)), S = s :: S' ∧ WLK so un R on d s.2.2 r' ∧ r = r'.map (fun q => (q.1 + 1, q.2))))
theorem WLK_uniq {so : Nat → Nat} {un : Nat → Option Nat} {R : RulL} {on : Int32} : ∀ {d : Nat} {w : List Nat} {r r' : Option (Nat × List Nat)}, WLK so un R on d w r → WLK so un R on d w r' → r = r'
  | 0, _, _, _, h, h' => h.trans h'.symm
  | d + 1, w, r, r', h, h' => by
    rcases h with ⟨a, b⟩ | ⟨S, a, b⟩
    · rcases h' with ⟨c, e⟩ | ⟨S', c, e⟩
      · rw [b, e]
      · exact absurd a c.2.2.2.2
    · rcases h' with ⟨c, e⟩ | ⟨S', c, e⟩
      · exact absurd c a.2.2.2.2
      · have hS := StL_uniq a c
        subst hS
        rcases b with ⟨b1, b2⟩ | ⟨s, S1, q, b1, b2, b3⟩
        · rcases e with ⟨e1, e2⟩ | ⟨s', S1', q', e1, e2, e3⟩
          · rw [b2, e2]
          · rw [b1] at e1; exact absurd e1 (by simp)
        · rcases e with ⟨e1, e2⟩ | ⟨s', S1', q', e1, e2, e3⟩
          · rw [b1] at e1; exact absurd e1 (by simp)
          · rw [b1] at e1
            have hs := (List.cons.inj e1).1
            rw [← hs] at e2
            rw [b3, e3, WLK_uniq b2 e2]
theorem lx_walk_23_ok {n : Nat} {nm nmm fs fu fk : Nat → Int32} {so ma : Nat → Nat} {un : Nat → Option Nat} {nv : Nat} {nmL : Nat → List Nat} {terms on p0 : Int32} {R : RulL} (hn : 100000 ≤ n) (hsg : SG fs fu so un) (hsv : SV so un ma nv) (hnm : NMs so nv nm nmm nmL) (hR : KR2 so un ma nv fk R) :
    ∀ (d k m : Nat) (w : List Nat) (fp fsp fgp fgt fb fw ff fpl fru fr shr tx : Nat → Int32) (wt fm pv M iss shn : Int32), k + d = 40 → tok so un ma nv w → la fp 0 w → d < m →
      ∃ (r th' : Int32) (fp' : Nat → Int32) (top' : Int32) (fsp' fgp' fgt' fb' fw' : Nat → Int32) (wt' fm' pv' : Int32) (ff' : Nat → Int32) (tm' : Int32) (fpl' fru' fr' : Nat → Int32) (M' : Int32) (shr' tx' : Nat → Int32) (iss' shn' : Int32), lx_walk_23 n nm nmm fs fu fk terms (nI R.length) on p0 m (nI 0) (nI k) 0 fp (nI w.length) fsp fgp fgt fb fw wt fm pv ff 0 fpl fru fr M shr tx iss shn = some (r, th', fp', top', fsp', fgp', fgt', fb', fw', wt', fm', pv', ff', tm', fpl', fru', fr', M', shr', tx', iss', shn') ∧
        ∃ res : Option (Nat × List Nat), WLK so un R (ron on R.length) d w res ∧
          ((res = none ∧ r = 0 ∧ th' = 2 ∧ shr' = shr ∧ tx' = tx ∧ iss' = iss ∧ shn' = shn) ∨ (∃ (q : Nat) (x : List Nat), res = some (q, x) ∧ r = nI (k + q) ∧ th' = 0 ∧ SHW so un ma nv nmL (some x) shr' tx' iss' shn')) := by
  intro d
  induction d with
  | zero =>
    intro k m w fp fsp fgp fgt fb fw ff fpl fru fr shr tx wt fm pv M iss shn hk hw hl hm
    cases m with
    | zero => omega
    | succ m =>
      obtain ⟨shr', tx', y1, y2⟩ := shows_SHW (shr := shr) (tx := tx) (iss := iss) (shn := shn) (fp := fp) (a := 0) hn hnm hsv.1 hl hw (by decide)
      have e : lx_walk_23 n nm nmm fs fu fk terms (nI R.length) on p0 (m + 1) (nI 0) (nI k) 0 fp (nI w.length) fsp fgp fgt fb fw wt fm pv ff 0 fpl fru fr M shr tx iss shn = some (nI k, 0, fp, nI w.length, fsp, fgp, fgt, fb, fw, wt, fm, pv, ff, 0, fpl, fru, fr, M, shr', tx', 1, nI (txt nmL w).length) := by
        show bx_walk_23 n nm nmm fs fu fk terms (nI R.length) on p0 (lx_walk_23 n nm nmm fs fu fk terms (nI R.length) on p0 m) _ _ _ _ _ _ _ _ _ _ _ _ _ _ _ _ _ _ _ _ _ _ _ = _
        unfold bx_walk_23
        rw [show k = 40 by omega, if_pos (by decide), y1, xb5_s]
      rw [e]
      exact ⟨_, _, _, _, _, _, _, _, _, _, _, _, _, _, _, _, _, _, _, _, _, _, rfl, some (0, w), rfl, Or.inr ⟨0, w, rfl, rfl, rfl, y2⟩⟩
  | succ d ih =>
    intro k m w fp fsp fgp fgt fb fw ff fpl fru fr shr tx wt fm pv M iss shn hk hw hl hm
    cases m with
    | zero => omega
    | succ m =>
      have hwl := tok_len hw
      obtain ⟨f1, sp1, gp1, gt1, b1, w1, wt1, fm1, pv1, ff1, tm1, pl1, ru1, fr1, M1, g1, g2, g3⟩ := fx_laysSteps_ok (fsp := fsp) (fgp := fgp) (fgt := fgt) (fb := fb) (fw := fw) (ff := ff) (fpl := fpl) (fru := fru) (fr := fr) (wt := wt) (fm := fm) (pv := pv) (M := M) (on := ron on R.length) (top := false) (T := w.length) (wa := 0) hn hsg (SV_SU hsv) hw.1 hw.2.1 (by omega) hR.1 (by omega) hl
      have g3' : LSO so un R (ron on R.length) w.length w tm1 pl1 ru1 fr1 M1 := g3
      have st : lx_walk_23 n nm nmm fs fu fk terms (nI R.length) on p0 (m + 1) (nI 0) (nI k) 0 fp (nI w.length) fsp fgp fgt fb fw wt fm pv ff 0 fpl fru fr M shr tx iss shn = (xb2 (fx_tooMuch n 0 tm1 ((2 : Int32))) fun r_75 th_76 => if r_75 = (0 : Int32) then (if M1 = (0 : Int32) then (xb5 (fx_shows n nm nmm f1 shr tx iss shn (nI 0)) fun r_98 shr_99 tx_100 iss_101 shn_102 => some (nI k, th_76, f1, nI w.length, sp1, gp1, gt1, b1, w1, wt1, fm1, pv1, ff1, tm1, pl1, ru1, fr1, M1, shr_99, tx_100, iss_101, shn_102)) else (xb3 (fx_stepComes n f1 ((0 : Int32)) fr1 ((0 : Int32))) fun r_85 pool_86 top_87 => lx_walk_23 n nm nmm fs fu fk terms (nI R.length) on p0 m r_85 (nI (k + 1)) th_76 pool_86 top_87 sp1 gp1 gt1 b1 w1 wt1 fm1 pv1 ff1 tm1 pl1 ru1 fr1 M1 shr tx iss shn)) else (some ((0 : Int32), th_76, f1, nI w.length, sp1, gp1, gt1, b1, w1, wt1, fm1, pv1, ff1, tm1, pl1, ru1, fr1, M1, shr, tx, iss, shn))) := by
        show bx_walk_23 n nm nmm fs fu fk terms (nI R.length) on p0 (lx_walk_23 n nm nmm fs fu fk terms (nI R.length) on p0 m) _ _ _ _ _ _ _ _ _ _ _ _ _ _ _ _ _ _ _ _ _ _ _ = _
        unfold bx_walk_23
        have e8 : ob false = (0 : Int32) := rfl
        rw [e8] at g1
        rw [if_neg (by rw [show (40 : Int32) = nI 40 from rfl, nI_le_iff (by decide) (by omega)]; omega), fx_rulesOn_ok, xb1_s, g1, xb16_s]
        simp only [xl_eq, nI_1]
      rw [st]
      rcases g3' with ⟨t0, t1, S, s1, s2, s3, s4, s5, s6⟩ | ⟨t0, t1⟩
      · have hStL : StL so un R (ron on R.length) w.length w S := ⟨s1, s2, s3, s6, t1⟩
        rw [t0, fx_tooMuch_ok (Or.inl rfl), xb2_s, if_pos rfl, if_pos rfl, s5]
        cases S with
        | nil =>
          obtain ⟨shr', tx', y1, y2⟩ := shows_SHW (shr := shr) (tx := tx) (iss := iss) (shn := shn) (fp := f1) (a := 0) hn hnm hsv.1 (la_congr (fun i hi => g2 _ (by omega)) hl) hw (by decide)
          rw [if_pos (show nI ([] : List StpE).length = (0 : Int32) from rfl), y1, xb5_s]
          exact ⟨_, _, _, _, _, _, _, _, _, _, _, _, _, _, _, _, _, _, _, _, _, _, rfl, some (0, w), Or.inr ⟨[], hStL, Or.inl ⟨rfl, rfl⟩⟩, Or.inr ⟨0, w, rfl, rfl, rfl, y2⟩⟩
        | cons s S1 =>
          obtain ⟨htk, _, _⟩ := StL_tok hsv hR hw (Nat.le_refl _) hStL s (List.mem_cons_self ..)
          have htl := tok_len htk
          have s4' : SL pl1 ru1 fr1 ([] ++ s :: S1) := s4
          obtain ⟨_, _, sg3⟩ := SL_get s4'
          have sc := fx_stepComes_ok (n := n) (f := f1) (r := 0) (t := 0) (l := s.2.2) sg3 htk.1.1.1 htk.1.1.2.1 (by omega) (by omega) hn
          rw [Nat.zero_add] at sc
          simp only [List.length_cons] at s3
          have hne : ¬ nI (s :: S1).length = (0 : Int32) := by
            rw [show (0 : Int32) = nI 0 from rfl, nI_inj (by simp only [List.length_cons]; omega) (by decide)]; simp
          rw [if_neg hne]
          rw [show nI 0 = (0 : Int32) from rfl] at sc
          rw [sc, xb3_s, show (0 : Int32) = nI 0 from rfl]
          obtain ⟨r, th', fp', top', fsp', fgp', fgt', fb', fw', wt', fm', pv', ff', tm', fpl', fru', fr', M', shr', tx', iss', shn', z1, res, z2, z3⟩ := ih (k + 1) m s.2.2 (put f1 0 s.2.2) sp1 gp1 gt1 b1 w1 ff1 pl1 ru1 fr1 shr tx wt1 fm1 pv1 (nI (s :: S1).length) iss shn (by omega) htk put_la (by omega)
          refine ⟨r, th', fp', top', fsp', fgp', fgt', fb', fw', wt', fm', pv', ff', tm', fpl', fru', fr', M', shr', tx', iss', shn', z1, res.map (fun q => (q.1 + 1, q.2)), Or.inr ⟨s :: S1, hStL, Or.inr ⟨s, S1, res, rfl, z2, rfl⟩⟩, ?_⟩
          rcases z3 with ⟨q1, q2⟩ | ⟨q, x, q1, q2, q3, q4⟩
          · exact Or.inl ⟨by rw [q1]; rfl, q2⟩
          · exact Or.inr ⟨q + 1, x, by rw [q1]; rfl, by rw [q2]; exact congrArg nI (by omega), q3, q4⟩
      · rw [t0, fx_tooMuch_ok (Or.inr rfl), xb2_s, if_neg (show ¬ (1 : Int32) = 0 by decide), if_neg (show ¬ (1 : Int32) = 0 by decide)]
        exact ⟨_, _, _, _, _, _, _, _, _, _, _, _, _, _, _, _, _, _, _, _, _, _, rfl, none, Or.inl ⟨t1, rfl⟩, Or.inl ⟨rfl, rfl, rfl, rfl, rfl, rfl, rfl⟩⟩
theorem fx_walk_ok {n : Nat} {nm nmm fs fu fk fp fsp fgp fgt fb fw ff fpl fru fr shr tx : Nat → Int32} {so ma : Nat → Nat} {un : Nat → Option Nat} {nv : Nat} {nmL : Nat → List Nat} {th top on wt fm pv tm M iss shn x : Int32} {Tm : List (List Nat)} {R : RulL} (hn : 100000 ≤ n) (hsg : SG fs fu so un) (hsv : SV so un ma nv) (hnm : NMs so nv nm nmm nmL) (h : KT so un ma nv fk Tm) (hR : KR2 so un ma nv fk R) :
    ∃ (r th' : Int32) (fp' : Nat → Int32) (top' : Int32) (fsp' fgp' fgt' fb' fw' : Nat → Int32) (wt' fm' pv' : Int32) (ff' : Nat → Int32) (tm' : Int32) (fpl' fru' fr' : Nat → Int32) (M' : Int32) (shr' tx' : Nat → Int32) (iss' shn' : Int32), fx_walk n th nm nmm fs fu fp top fsp fk (nI Tm.length) (nI R.length) on fgp fgt fb fw wt fm pv ff tm fpl fru fr M shr tx iss shn x = some (r, th', fp', top', fsp', fgp', fgt', fb', fw', wt', fm', pv', ff', tm', fpl', fru', fr', M', shr', tx', iss', shn') ∧
      ((∃ (i : Nat) (res : Option (Nat × List Nat)), (i < Tm.length ∧ x = nI i) ∧ WLK so un R (ron on R.length) 40 (nth Tm i) res ∧
          ((res = none ∧ r = 0 ∧ th' = 2 ∧ shr' = shr ∧ tx' = tx ∧ iss' = iss ∧ shn' = shn) ∨ (∃ (q : Nat) (y : List Nat), res = some (q, y) ∧ r = nI q ∧ th' = 0 ∧ SHW so un ma nv nmL (some y) shr' tx' iss' shn'))) ∨
       (¬ isn x Tm.length ∧ th' = 1 ∧ r = 0 ∧ shr' = shr ∧ tx' = tx ∧ iss' = iss ∧ shn' = shn)) := by
  have hl := h.1
  unfold fx_walk
  rcases fx_noTerm_ok (n := n) (th := 0) (x := x) (k := Tm.length) (by omega) with ⟨h1, e1⟩ | ⟨h1, e1⟩
  · obtain ⟨i, i1, i2⟩ := isn_of (by omega) h1
    obtain ⟨a1, a2, a3, a4⟩ := KT_get h i1
    rw [i2] at e1 ⊢
    rw [e1, xb2_s, if_pos rfl, fx_termAt_ok hn h i1, xb4_s]
    obtain ⟨r, th', fp', top', fsp', fgp', fgt', fb', fw', wt', fm', pv', ff', tm', fpl', fru', fr', M', shr', tx', iss', shn', z1, res, z2, z3⟩ := lx_walk_23_ok (terms := nI Tm.length) (on := on) (p0 := nI i) hn hsg hsv hnm hR 40 0 n (nth Tm i) (put fp 0 (nth Tm i)) fsp fgp fgt fb fw ff fpl fru fr shr tx wt fm pv M iss shn (by omega) a1 put_la (by omega)
    refine ⟨r, th', fp', top', fsp', fgp', fgt', fb', fw', wt', fm', pv', ff', tm', fpl', fru', fr', M', shr', tx', iss', shn', z1, Or.inl ⟨i, res, ⟨i1, rfl⟩, z2, ?_⟩⟩
    rcases z3 with q | ⟨q, y, q1, q2, q3⟩
    · exact Or.inl q
    · rw [Nat.zero_add] at q2
      exact Or.inr ⟨q, y, q1, q2, q3⟩
  · rw [e1, xb2_s, if_neg (by decide)]
    exact ⟨_, _, _, _, _, _, _, _, _, _, _, _, _, _, _, _, _, _, _, _, _, _, rfl, Or.inr ⟨h1, rfl, rfl, rfl, rfl, rfl, rfl⟩⟩
