/-! ===== laysSteps ===== -/
/-- rules as they are kept -/
def KR (so : Nat → Nat) (un : Nat → Option Nat) (fk : Nat → Int32) (R : RulL) : Prop := R.length ≤ 8 ∧ (∀ x ∈ R, rok so un x) ∧ ∀ i : Nat, i < R.length → la fk (21 * (30 + 2 * i)) (rul R i).1 ∧ la fk (21 * (31 + 2 * i)) (rul R i).2
theorem great_parts {so : Nat → Nat} {un : Nat → Option Nat} {w l : List Nat} {pl c : Nat} (hw : nok so un w) (hg : great so w = false) (hpl : pl < w.length) (hs : sbt w pl = c :: l) (hc : 512 ≤ c) (h2 : so (c / 512 - 1) = 2) : (pts (sbt w pl)).length ≤ 6 := by
  obtain ⟨ns1, ns2, ns3, ns4⟩ := sbt_nok hw hpl
  rw [hs] at ns1 ns3 ⊢
  rw [(pts_of ns1.1.1).2.1]
  unfold great at hg
  rw [Bool.or_eq_false_iff] at hg
  have h := List.any_eq_false.mp hg.2 c (ns3 c (List.mem_cons_self ..))
  unfold big1 at h
  simp only [Bool.and_eq_true, decide_eq_true_eq] at h
  omega
theorem isop_none {op : Nat} {t : List Nat} : isop op t = false ∨ isop op t = true := by cases isop op t <;> simp
theorem lx_laysSteps_35_ok {n : Nat} {fs fu fk : Nat → Int32} {so : Nat → Nat} {un : Nat → Option Nat} {on p2 x4 : Int32} {k25 : Int32 → Int32 → (Nat → Int32) → Int32 → (Nat → Int32) → (Nat → Int32) → (Nat → Int32) → (Nat → Int32) → (Nat → Int32) → Int32 → Int32 → Int32 → (Nat → Int32) → Int32 → (Nat → Int32) → (Nat → Int32) → (Nat → Int32) → Int32 → HRes}
    {T wa pl np : Nat} {w : List Nat} {R : RulL} (hn : 100000 ≤ n) (hsg : SG fs fu so un) (hsu : SU so un) (hw : nok so un w) (hwl : w.length ≤ 20) (hgr : great so w = false) (hwa : wa + w.length ≤ T) (hKR : KR so un fk R) (hT : T ≤ 46000) (hpl : pl < w.length) (hnp : pl < np) :
    ∀ (d ru m : Nat) (fp fsp fgp fgt fb fw ff fpl fru fr : Nat → Int32) (wt fm pv tm M : Int32), ru + d = R.length → la fp wa w → STo so un R on np w pl ru tm fpl fru fr M → d + 1 < m →
      ∃ (fp' fsp' fgp' fgt' fb' fw' : Nat → Int32) (wt' fm' pv' : Int32) (ff' : Nat → Int32) (tm' : Int32) (fpl' fru' fr' : Nat → Int32) (M' : Int32), lx_laysSteps_35 n fs fu fk (nI R.length) (nI wa) on p2 k25 m x4 (nI pl) (nI ru) fp (nI T) fsp fgp fgt fb fw wt fm pv ff tm fpl fru fr M = k25 x4 (nI (pl + 1)) fp' (nI T) fsp' fgp' fgt' fb' fw' wt' fm' pv' ff' tm' fpl' fru' fr' M' ∧ (∀ i : Nat, i < T → fp' i = fp i) ∧ STo so un R on np w (pl + 1) 0 tm' fpl' fru' fr' M' := by
  obtain ⟨kr1, kr2, kr3⟩ := hKR
  obtain ⟨ns1, ns2, ns3, ns4⟩ := sbt_nok hw hpl
  intro d
  induction d with
  | zero =>
    intro ru m fp fsp fgp fgt fb fw ff fpl fru fr wt fm pv tm M hd hlw hS hm
    cases m with
    | zero => omega
    | succ m =>
      have hd' : ru = R.length := by omega
      subst hd'
      refine ⟨fp, fsp, fgp, fgt, fb, fw, wt, fm, pv, ff, tm, fpl, fru, fr, M, ?_, fun _ _ => rfl, STo_next hS⟩
      show bx_laysSteps_35 n fs fu fk (nI R.length) (nI wa) on p2 k25 (lx_laysSteps_35 n fs fu fk (nI R.length) (nI wa) on p2 k25 m) _ _ _ _ _ _ _ _ _ _ _ _ _ _ _ _ _ _ _ = _
      unfold bx_laysSteps_35
      rw [if_pos (Int32.le_refl _), xl_eq, nI_1]
  | succ d ih =>
    intro ru m fp fsp fgp fgt fb fw ff fpl fru fr wt fm pv tm M hd hlw hS hm
    cases m with
    | zero => omega
    | succ m =>
    by_cases ht : tm = 0
    · subst ht
      by_cases hon : onb on ru = true
      · rcases hS with ⟨_, hTM, S, s1, s2, s3, s4, s5, s6⟩ | ⟨a, _⟩
        · subst s5
          have hrr := rul_mem (R := R) (i := ru) (by omega)
          have hrk := kr2 _ hrr
          obtain ⟨rl, rr⟩ := kr3 ru (by omega)
          obtain ⟨left, right, hlr9⟩ : ∃ (left right : List Nat), rul R ru = (left, right) := ⟨_, _, rfl⟩
          have hrk' := hrk
          rw [hlr9] at hrk rl rr
          obtain ⟨rk1, rk2, rk3, rk4, rk5, rk6, rk7⟩ := hrk
          have rk1' : nok so un left := rk1
          have rk2' : left.length ≤ 20 := rk2
          have rk4' : 512 ≤ hd0 left := rk4
          have rk5' : nok so un right := rk5
          have rk6' : right.length ≤ 20 := rk6
          have rl' : la fk (21 * (30 + 2 * ru)) left := rl
          have rr' : la fk (21 * (31 + 2 * ru)) right := rr
          have hru8 : ru < 8 := by omega
          have co1 := fx_comes_ok (n := n) (f := fp) (t := T) rl' rk1'.1.1 rk1'.1.2.1 (by omega) (by omega) hn
          have co2 := fx_comes_ok (n := n) (f := put fp T left) (t := T + left.length) rr' rk5'.1.1 rk5'.1.2.1 (by omega) (by omega) hn
          have fo1 : ∀ i : Nat, i < T → put (put fp T left) (T + left.length) right i = fp i := fun i hi => by rw [put_out (Or.inl (by omega)), put_out (Or.inl hi)]
          have l1 : la (put (put fp T left) (T + left.length) right) T left := la_put (Or.inl (Nat.le_refl _)) put_la
          have l2 : la (put (put fp T left) (T + left.length) right) (T + left.length) right := put_la
          have lw1 : la (put (put fp T left) (T + left.length) right) wa w := la_congr (fun i hi => fo1 _ (by omega)) hlw
          obtain ⟨f2, gp2, gt2, b2, w2, fm2, pv2, ff2, tm2, m1, m2, m3, m4⟩ := fx_laysMatches_ok (fgp := fgp) (fgt := fgt) (fb := fb) (fw := fw) (ff := ff) (wt := wt) (fm := fm) (pv := pv) (pa := T) (p := left) (ta := wa + pl) (t := sbt w pl) (T := T + left.length + right.length) hn hsg hsu ⟨⟨l1, rk1', rk3, rk2', by show T + left.length ≤ _; omega⟩, ns4 _ _ lw1, ns1, by show (sbt w pl).length ≤ 20; omega, by show wa + pl + (sbt w pl).length ≤ _; omega⟩ (by omega)
          have m3' : pvs pv2 left := m3
          have lw2 : la f2 wa w := la_congr (fun i hi => m2 _ (by omega)) lw1
          have hS0 : S0ok S pl ru := by
            refine ⟨fun s hs => ⟨?_, ?_, (s2 s hs).2⟩, fun A s e => ?_⟩
            · have := ((s6 s).mp hs).2
              rcases this with h | ⟨h, _⟩ <;> omega
            · have := ((s6 s).mp hs).1.2.1
              omega
            · rintro ⟨h1, h2⟩
              have := ((s6 s).mp (by rw [e]; exact List.mem_append_right _ (List.mem_singleton.mpr rfl))).2
              rcases this with h | ⟨_, h⟩ <;> omega
          have hG0 : GX so S pl ru (fun _ => False) 0 fpl fru fr (nI S.length) := Or.inl ⟨rfl, [], fun r hr => absurd hr List.not_mem_nil, List.Pairwise.nil, by simpa [grpS] using s4, by simp, by simpa using s3, fun x => by simp⟩
          obtain ⟨f3, sp3, tm3, pl3, ru3, fr3, M3, a1, a2, a3⟩ := fx_goesAll_ok (fsp := fsp) (P := fun _ => False) hn hsg hsu hw hwl (T := T + left.length + right.length) (by omega) rk5'.1 rk6' (ra := T + left.length) (by omega) (by omega) rk1'.1 rk7 m3' hpl (by omega) hS0 lw2 (la_congr (fun i hi => m2 _ (by omega)) l2) m4 hG0
          have hGT : GT so un S pl ru left right w (fun _ => False) tm3 pl3 ru3 fr3 M3 := by
            rcases a3 with ⟨b1, b2⟩ | ⟨b1, b2, b3⟩
            · have nt : ¬ TMm so un left (sbt w pl) := by
                rcases EXS_TM m3' m4 with ⟨_, h⟩ | ⟨h, _⟩
                · exact h
                · rw [b1] at h; exact absurd h (by decide)
              rcases b2 with ⟨v1, v2⟩ | ⟨v1, L, v2, v3, v4⟩
              · refine Or.inl ⟨v1, nt, fun _ h => h.elim, Or.inl ⟨rfl, ?_⟩⟩
                obtain ⟨D, u1, u2, u3, u4, u5, u6⟩ := v2
                refine ⟨D, u1, u2, u3, u4, u5, fun x => (u6 x).trans ?_⟩
                constructor
                · rintro (h | ⟨q1, q2⟩)
                  · exact h.elim
                  · exact ⟨q2, Or.inl q1⟩
                · rintro ⟨q1, q2 | ⟨_, h, _⟩⟩
                  · exact Or.inr ⟨q2, q1⟩
                  · exact h.elim
              · refine Or.inr (Or.inr ⟨v1, L, v2, v3, fun x hx => ?_⟩)
                rcases v4 x hx with h | ⟨q1, q2⟩
                · exact h.elim
                · exact ⟨q2, Or.inl q1⟩
            · refine Or.inr (Or.inl ⟨b2, Or.inl ?_⟩)
              obtain ⟨L, c1, c2, c3⟩ := b3
              exact ⟨pv2, L, m3', c1, c2, c3⟩
          have fo3 : ∀ i : Nat, i < T → f3 i = fp i := fun i hi => by rw [a2 i (by omega), m2 i (by omega), fo1 i hi]
          have l13 : la f3 T left := la_congr (fun i hi => by rw [a2 _ (by omega), m2 _ (by omega)]) l1
          have l23 : la f3 (T + left.length) right := la_congr (fun i hi => by rw [a2 _ (by omega), m2 _ (by omega)]) l2
          have lw3 : la f3 wa w := la_congr (fun i hi => by rw [a2 _ (by omega), m2 _ (by omega), fo1 _ (by omega)]) hlw
          -- the head of left, the head of what stands there
          obtain ⟨lc, ll, hle⟩ : ∃ (lc : Nat) (ll : List Nat), left = lc :: ll := by
            cases left with
            | nil => exact absurd (wf_pos rk1'.1.1) (by simp)
            | cons a b => exact ⟨a, b, rfl⟩
          obtain ⟨tc, tl, hte⟩ : ∃ (tc : Nat) (tl : List Nat), sbt w pl = tc :: tl := by
            cases e : sbt w pl with
            | nil => rw [e] at ns1; exact absurd (wf_pos ns1.1.1) (by simp)
            | cons a b => exact ⟨a, b, rfl⟩
          have hlc5 : 512 ≤ lc := by rw [hle] at rk4'; exact rk4'
          have hlc : lc < 5632 := by have := rk1'.1.2.1; rw [hle] at this; exact cok_lt (col_cons.mp this).1
          have htc : tc < 5632 := by have := ns1.1.2.1; rw [hte] at this; exact cok_lt (col_cons.mp this).1
          have hopn : opn left = lc / 512 - 1 := by rw [hle]; rfl
          have hop1 : fx_operatorAt n f3 (nI T) = some (nI (opn left)) := by
            rw [fx_operatorAt_ok (c := lc) (by rw [hle] at l13; exact l13.1) hlc (by omega), opI_op hlc5, hopn]
          have hop2 : fx_operatorAt n f3 (nI (wa + pl)) = some (opI tc) := by
            have := ns4 f3 wa lw3
            rw [hte] at this
            exact fx_operatorAt_ok this.1 htc (by omega)
          have ho10 : opn left < 10 ∧ so (opn left) ≠ 3 := by
            have := rk1'.1
            rw [hle] at this
            rw [hopn]
            exact (okt_op this (by omega)).2.2
          obtain ⟨sg1, sg2, sg3, sg4⟩ := hsg (opn left) ho10
          -- what is left to do: the choices of parts, then the next rule
          have fin : ∃ (fp' fsp' fgp' fgt' fb' fw' : Nat → Int32) (wt' fm' pv' : Int32) (ff' : Nat → Int32) (tm' : Int32) (fpl' fru' fr' : Nat → Int32) (M' : Int32), lx_laysSteps_35 n fs fu fk (nI R.length) (nI wa) on p2 k25 (m + 1) x4 (nI pl) (nI ru) fp (nI T) fsp fgp fgt fb fw wt fm pv ff 0 fpl fru fr (nI S.length) = lx_laysSteps_35 n fs fu fk (nI R.length) (nI wa) on p2 k25 m x4 (nI pl) (nI (ru + 1)) fp' (nI T) fsp' fgp' fgt' fb' fw' wt' fm' pv' ff' tm' fpl' fru' fr' M' ∧ (∀ i : Nat, i < T → fp' i = fp i) ∧ GT so un S pl ru left right w (bitok so un left w pl) tm' fpl' fru' fr' M' := by
            have start : lx_laysSteps_35 n fs fu fk (nI R.length) (nI wa) on p2 k25 (m + 1) x4 (nI pl) (nI ru) fp (nI T) fsp fgp fgt fb fw wt fm pv ff 0 fpl fru fr (nI S.length) = (xr 10 fs (nI (opn left)) fun y_166 => if y_166 = (2 : Int32) then (if opI tc = nI (opn left) then (xr 10 fu (nI (opn left)) fun y_176 => if y_176 = (-1 : Int32) then (lx_laysSteps_166 n fs fu fk (nI R.length) (nI wa) on p2 k25 (lx_laysSteps_35 n fs fu fk (nI R.length) (nI wa) on p2 k25 m) n x4 (nI pl) (nI ru) (nI T) (nI T) (nI (T + left.length)) (nI (opn left)) 1 f3 (nI (T + left.length + right.length)) sp3 gp2 gt2 b2 w2 (nI 0) fm2 pv2 ff2 tm3 pl3 ru3 fr3 M3) else (lx_laysSteps_166 n fs fu fk (nI R.length) (nI wa) on p2 k25 (lx_laysSteps_35 n fs fu fk (nI R.length) (nI wa) on p2 k25 m) n x4 (nI pl) (nI ru) (nI T) (nI T) (nI (T + left.length)) (nI (opn left)) 0 f3 (nI (T + left.length + right.length)) sp3 gp2 gt2 b2 w2 (nI 0) fm2 pv2 ff2 tm3 pl3 ru3 fr3 M3)) else lx_laysSteps_35 n fs fu fk (nI R.length) (nI wa) on p2 k25 m x4 (nI pl) (nI (ru + 1)) f3 (nI T) sp3 gp2 gt2 b2 w2 (nI 0) fm2 pv2 ff2 tm3 pl3 ru3 fr3 M3) else lx_laysSteps_35 n fs fu fk (nI R.length) (nI wa) on p2 k25 m x4 (nI pl) (nI (ru + 1)) f3 (nI T) sp3 gp2 gt2 b2 w2 (nI 0) fm2 pv2 ff2 tm3 pl3 ru3 fr3 M3) := by
              show bx_laysSteps_35 n fs fu fk (nI R.length) (nI wa) on p2 k25 (lx_laysSteps_35 n fs fu fk (nI R.length) (nI wa) on p2 k25 m) _ _ _ _ _ _ _ _ _ _ _ _ _ _ _ _ _ _ _ = _
              unfold bx_laysSteps_35
              rw [if_neg (by rw [nI_le_iff (by omega) (by omega)]; omega), if_pos rfl, fx_holds_on, xb1_s, if_pos hon, if_neg (by decide), fx_rowOfRule_l (by omega), xb1_s, co1, xb3_s, fx_rowOfRule_r (by omega), xb1_s, co2, xb3_s, xl_eq, nI_add, m1, xb11_s, a1, xb8_s, hop1, xb1_s]
              simp only [xl_eq, nI_1, nI_add, hop2, xb1_s]
            rw [start, xr_n ho10.1 (by decide), sg1]
            by_cases q2 : so (opn left) = 2
            · rw [if_pos (by rw [q2]; rfl)]
              by_cases q3 : isop (opn left) (sbt w pl) = true
              · rw [hte] at q3
                rw [if_pos ((isop_iff ho10.1 htc).mpr q3), xr_n ho10.1 (by decide)]
                obtain ⟨e1, e2⟩ := isop_head q3
                have h6 := great_parts hw hgr hpl hte e1 (by rw [e2]; exact q2)
                have p1 : 1 ≤ 2 ^ (pts (sbt w pl)).length := Nat.one_le_two_pow
                cases hu : un (opn left) with
                | none =>
                  rw [if_pos (sg3 hu)]
                  have hK1 : 1 ≤ (pts (sbt w pl)).length := by
                    rw [hte] at ns1 ⊢
                    rw [(pts_of ns1.1.1).2.1]
                    have := (ns1.1.2.2 tc (List.mem_cons_self ..) e1).2 (by rw [e2]; exact q2)
                    omega
                  have p2' : 2 ≤ 2 ^ (pts (sbt w pl)).length := Nat.pow_le_pow_right (n := 2) (i := 1) (by decide) hK1
                  have h64 := Nat.pow_le_pow_right (n := 2) (by decide) h6
                  obtain ⟨fp', fsp', fgp', fgt', fb', fw', wt', fm', pv', ff', tm', fpl', fru', fr', M', x1, x2, x3⟩ := lx_laysSteps_166_ok (fk := fk) (mr := nI R.length) (p1 := on) (p2 := p2) (k25 := k25) (k35 := lx_laysSteps_35 n fs fu fk (nI R.length) (nI wa) on p2 k25 m) (x4 := x4) (x10 := nI (opn left)) (T0 := T) (la9 := T) (ra := T + left.length) (T := T + left.length + right.length) hn hsg hsu hw hwl (by omega) (by rw [← hlr9]; exact hrk') (by omega) (by omega) (by omega) hpl (by omega) hS0 h6 hte e1 e2 q2 (2 ^ (pts (sbt w pl)).length - 2) 1 n f3 sp3 gp2 gt2 b2 w2 ff2 pl3 ru3 fr3 (nI 0) fm2 pv2 tm3 M3 (by omega) (fun _ => Nat.le_refl _) lw3 l13 l23 (GT_iff (fun b => ⟨fun h => h.elim, fun h => by have := h.1.2.2.1 hu; omega⟩) hGT) (by omega)
                  exact ⟨fp', fsp', fgp', fgt', fb', fw', wt', fm', pv', ff', tm', fpl', fru', fr', M', x1, fun i hi => by rw [x2 i (by omega), fo3 i hi], x3⟩
                | some u =>
                  obtain ⟨su1, su2⟩ := sg4 u hu
                  rw [if_neg (by rw [su1]; exact nI_m1 (by omega))]
                  have h64 := Nat.pow_le_pow_right (n := 2) (by decide) h6
                  obtain ⟨fp', fsp', fgp', fgt', fb', fw', wt', fm', pv', ff', tm', fpl', fru', fr', M', x1, x2, x3⟩ := lx_laysSteps_166_ok (fk := fk) (mr := nI R.length) (p1 := on) (p2 := p2) (k25 := k25) (k35 := lx_laysSteps_35 n fs fu fk (nI R.length) (nI wa) on p2 k25 m) (x4 := x4) (x10 := nI (opn left)) (T0 := T) (la9 := T) (ra := T + left.length) (T := T + left.length + right.length) hn hsg hsu hw hwl (by omega) (by rw [← hlr9]; exact hrk') (by omega) (by omega) (by omega) hpl (by omega) hS0 h6 hte e1 e2 q2 (2 ^ (pts (sbt w pl)).length - 1) 0 n f3 sp3 gp2 gt2 b2 w2 ff2 pl3 ru3 fr3 (nI 0) fm2 pv2 tm3 M3 (by omega) (fun h => by rw [hu] at h; exact absurd h (by simp)) lw3 l13 l23 (GT_iff (fun b => ⟨fun h => h.elim, fun h => absurd h.2 (Nat.not_lt_zero _)⟩) hGT) (by omega)
                  exact ⟨fp', fsp', fgp', fgt', fb', fw', wt', fm', pv', ff', tm', fpl', fru', fr', M', x1, fun i hi => by rw [x2 i (by omega), fo3 i hi], x3⟩
              · have q3' := q3
                rw [hte] at q3
                rw [if_neg (fun h => q3 ((isop_iff ho10.1 htc).mp h))]
                exact ⟨f3, sp3, gp2, gt2, b2, w2, nI 0, fm2, pv2, ff2, tm3, pl3, ru3, fr3, M3, rfl, fo3, GT_iff (fun b => ⟨fun h => h.elim, fun h => q3' h.2.1⟩) hGT⟩
            · rw [show (2 : Int32) = nI 2 from rfl, if_neg (fun h => q2 ((nI_inj (by omega) (by decide)).mp h))]
              exact ⟨f3, sp3, gp2, gt2, b2, w2, nI 0, fm2, pv2, ff2, tm3, pl3, ru3, fr3, M3, rfl, fo3, GT_iff (fun b => ⟨fun h => h.elim, fun h => q2 h.1⟩) hGT⟩
          obtain ⟨f5, sp5, gp5, gt5, b5, w5, wt5, fm5, pv5, ff5, tm5, pl5, ru5, fr5, M5, y1, y2, y3⟩ := fin
          have hS5 : STo so un R on np w pl (ru + 1) tm5 pl5 ru5 fr5 M5 := STo_step hnp (by omega) hon hTM s1 s2 s6 (by rw [hlr9]; exact y3)
          obtain ⟨fp', fsp', fgp', fgt', fb', fw', wt', fm', pv', ff', tm', fpl', fru', fr', M', x1, x2, x3⟩ := ih (ru + 1) m f5 sp5 gp5 gt5 b5 w5 ff5 pl5 ru5 fr5 wt5 fm5 pv5 tm5 M5 (by omega) (la_congr (fun i hi => y2 _ (by omega)) hlw) hS5 (by omega)
          exact ⟨fp', fsp', fgp', fgt', fb', fw', wt', fm', pv', ff', tm', fpl', fru', fr', M', y1.trans x1, fun i hi => by rw [x2 i hi, y2 i hi], x3⟩
        · exact absurd a (by decide)
      · have hon' : onb on ru = false := by simpa using hon
        obtain ⟨fp', fsp', fgp', fgt', fb', fw', wt', fm', pv', ff', tm', fpl', fru', fr', M', x1, x2, x3⟩ := ih (ru + 1) m fp fsp fgp fgt fb fw ff fpl fru fr wt fm pv 0 M (by omega) hlw (STo_skip hon' hS) (by omega)
        refine ⟨fp', fsp', fgp', fgt', fb', fw', wt', fm', pv', ff', tm', fpl', fru', fr', M', ?_, x2, x3⟩
        show bx_laysSteps_35 n fs fu fk (nI R.length) (nI wa) on p2 k25 (lx_laysSteps_35 n fs fu fk (nI R.length) (nI wa) on p2 k25 m) _ _ _ _ _ _ _ _ _ _ _ _ _ _ _ _ _ _ _ = _
        unfold bx_laysSteps_35
        rw [if_neg (by rw [nI_le_iff (by omega) (by omega)]; omega), if_pos rfl, fx_holds_on, xb1_s, if_neg hon, if_pos rfl, xl_eq, nI_1]
        exact x1
    · have ht1 : tm = 1 := (STo_tm hS).resolve_left ht
      subst ht1
      refine ⟨fp, fsp, fgp, fgt, fb, fw, wt, fm, pv, ff, 1, fpl, fru, fr, M, ?_, fun _ _ => rfl, STo_one hS⟩
      show bx_laysSteps_35 n fs fu fk (nI R.length) (nI wa) on p2 k25 (lx_laysSteps_35 n fs fu fk (nI R.length) (nI wa) on p2 k25 m) _ _ _ _ _ _ _ _ _ _ _ _ _ _ _ _ _ _ _ = _
      unfold bx_laysSteps_35
      rw [if_neg (by rw [nI_le_iff (by omega) (by omega)]; omega), if_neg (by decide), xl_eq, nI_1]
