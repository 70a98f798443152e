/-! ===== a clause, a signature: the class ===== -/
/-- what the class makes of a clause, up to its end -/
def CLK (L : List Nat) (h : Nat → Nat → Int32) (q : Nat) (o : CR) (res : Option (Int32 × (Nat → Nat → Int32) × (Nat → Nat → Int32))) : Prop :=
  ∃ (r : Int32) (ga' h' : Nat → Nat → Int32), res = some (r, ga', h') ∧ FSC h h' ∧ ((r = 0 ∧ o.1 = none ∧ h' 0 4 = nI o.2.2) ∨
    (r = 1 ∧ ∃ (ops1 : List OpE) (vs1 : List (List Nat)) (p1 : Nat), q < p1 ∧ p1 ≤ L.length ∧ o.1 = (semi L ops1 vs1 p1).1 ∧ o.2.2 = (semi L ops1 vs1 p1).2.2 ∧ (o.1 ≠ none → o.2.1 = (semi L ops1 vs1 p1).2.1) ∧ SCN h' L (bk L p1) ∧ SGW ga' ops1 vs1))
theorem CLK_no {L : List Nat} {h ga h' : Nat → Nat → Int32} {q e b : Nat} (f : FSC h h') (hb9 : h' 0 4 = nI b) : CLK L h q (none, e, b) (some (0, ga, h')) := ⟨_, _, _, rfl, f, Or.inl ⟨rfl, rfl, hb9⟩⟩
theorem CLK_semi {L : List Nat} {h ga h' : Nat → Nat → Int32} {q p1 : Nat} {ops : List OpE} {vs : List (List Nat)} (f : FSC h h') (h1 : q < p1) (h2 : p1 ≤ L.length) (hs : SCN h' L (bk L p1)) (hg : SGW ga ops vs) : CLK L h q (semi L ops vs p1) (some (1, ga, h')) := ⟨_, _, _, rfl, f, Or.inr ⟨rfl, ops, vs, p1, h1, h2, rfl, rfl, fun _ => rfl, hs, hg⟩⟩
/-- behind an operator's name -/
def opc2 (L : List Nat) (ops : List OpE) (vs : List (List Nat)) (its : Nat) (w : List Nat) (p1 : Nat) : CR :=
  if its = 0 then (match rnum L p1 with
      | (none, p2, b2) => (none, p2, b2)
      | (some v, p2, _) => semi L (ops ++ [(w, 0, v, none)]) vs p2)
    else if its = 2 then (match runit L ops vs p1 with
      | (none, p2, b2) => (none, p2, b2)
      | (some u, p2, _) => semi L (ops ++ [(w, 2, 2, u)]) vs p2)
    else semi L (ops ++ [(w, 1, 2, none)]) vs p1
theorem opc_eq {L : List Nat} {ops : List OpE} {vs : List (List Nat)} {its e b : Nat} (h : ops.length ≠ 10) : opc L ops vs its e b = match rname L ops vs e with
  | (none, p1, b1) => (none, p1, b1)
  | (some w, p1, _) => opc2 L ops vs its w p1 := by
  unfold opc
  rw [if_neg h]
  rfl
theorem fx_readOperator_c {n q p1 its : Nat} {ga h : Nat → Nat → Int32} {ops : List OpE} {vs : List (List Nat)} {w L : List Nat} {x : Int32} (hn : 100000 ≤ n) (hx : (its = 0 ∧ x = 215205) ∨ (its = 1 ∧ x = 3) ∨ (its = 2 ∧ x = 35)) (hs : SCN h L (bk L p1)) (hq : q < p1) (hp : p1 ≤ L.length) (hg : SGW ga ops vs) (h10 : ops.length < 10) (hw : ∀ c ∈ w, 97 ≤ c ∧ c ≤ 122) (hnm : isNm w = true) (hnew : newn ops vs w = none) :
    CLK L h q (opc2 L ops vs its w p1) (fx_X5_readOperator n ga h x (nI (wv w))) := by
  have hb0 := hs.2.2.1
  have hbk := bk_not hb0
  have hq1 := bk_ge (L := L) (p := p1)
  have hq2 := bk_le (L := L) hp
  have hL4 := hs.1.1
  generalize eq1 : bk L p1 = q1 at *
  obtain ⟨s1, s2, s3, s4, s5, s6, s7, s8⟩ := hs
  have hs : SCN h L q1 := ⟨s1, s2, s3, s4, s5, s6, s7, s8⟩
  unfold fx_X5_readOperator
  rcases hx with ⟨i0, x0⟩ | ⟨i0, x0⟩ | ⟨i0, x0⟩
  · -- free
    subst i0 x0
    have eo : opc2 L ops vs 0 w p1 = match rnum L p1 with
      | (none, p2, b2) => (none, p2, b2)
      | (some v, p2, _) => semi L (ops ++ [(w, 0, v, none)]) vs p2 := rfl
    rw [eo, if_neg (by decide), if_neg (by decide), s6, s8]
    have er : rnum L p1 = if dg L q1 = q1 + 1 ∧ gb L q1 ≤ 51 then (some (gb L q1 - 48), dg L q1, q1) else (none, dg L q1, q1) := by unfold rnum; rw [eq1]
    by_cases z : isDg L q1 = true
    · obtain ⟨v1, v2⟩ := tkv_2 z
      have zb := isb_lt (show isb L q1 48 57 = true from z)
      rw [tks_2.mpr z, if_pos (show nI 2 = 2 by decide), v1]
      unfold nv1
      by_cases y : dg L q1 = q1 + 1
      · rw [if_pos y, if_neg (show ¬ nI (gb L q1 - 48) < 0 by rw [show (0 : Int32) = nI 0 from rfl, nI_lt_iff (by omega) (by decide)]; omega)]
        by_cases y2 : gb L q1 ≤ 51
        · obtain ⟨ga', a1, a2⟩ := fx_addOperator_c (n := n) (st := 0) (m := gb L q1 - 48) (u := none) hg h10 hw hnm hnew (by decide) (fun _ => ⟨by omega, rfl⟩) (fun z => absurd z (by decide)) (fun z => absurd z (by decide))
          have a1' : fx_X5_addOperator n ga (nI (wv w)) 0 (nI (gb L q1 - 48)) (-1) = some ga' := a1
          obtain ⟨h', b1, b2, b3⟩ := fx_advance_c (n := n) hn hs
          rw [if_pos (show nI (gb L q1 - 48) ≤ 3 by rw [show (3 : Int32) = nI 3 from rfl, nI_le_iff (by omega) (by decide)]; omega), a1', xb1_s, b1, xb1_s]
          rw [if_pos ⟨y, y2⟩] at er
          rw [er]
          rw [v2] at b3
          exact CLK_semi b2 (by omega) (by omega) b3 a2
        · rw [if_neg (show ¬ nI (gb L q1 - 48) ≤ 3 by rw [show (3 : Int32) = nI 3 from rfl, nI_le_iff (by omega) (by decide)]; omega)]
          rw [if_neg (fun g => y2 g.2)] at er
          rw [er]
          exact CLK_no FSC_r s5
      · rw [if_neg y, if_pos (show (-1 : Int32) < 0 by decide)]
        rw [if_neg (fun g => y g.1)] at er
        rw [er]
        exact CLK_no FSC_r s5
    · have z' : isDg L q1 = false := Bool.eq_false_iff.mpr z
      rw [dg_not z', if_neg (fun g => by omega)] at er
      rw [er, if_neg (show ¬ nI (tks L q1) = 2 from fun g => z (tks_2.mp ((nI_inj (by have := tks_le (L := L) (q := q1); omega) (by decide)).mp g)))]
      exact CLK_no FSC_r s5
  · -- c
    subst i0 x0
    have eo : opc2 L ops vs 1 w p1 = semi L (ops ++ [(w, 1, 2, none)]) vs p1 := rfl
    obtain ⟨ga', a1, a2⟩ := fx_addOperator_c (n := n) (st := 1) (m := 2) (u := none) hg h10 hw hnm hnew (by decide) (fun z => absurd z (by decide)) (fun _ => ⟨rfl, rfl⟩) (fun z => absurd z (by decide))
    have a1' : fx_X5_addOperator n ga (nI (wv w)) 1 2 (-1) = some ga' := a1
    rw [eo, if_pos rfl, a1', xb1_s]
    exact CLK_semi FSC_r hq hp (by rw [eq1]; exact hs) a2
  · -- ac
    subst i0 x0
    have eo : opc2 L ops vs 2 w p1 = match runit L ops vs p1 with
      | (none, p2, b2) => (none, p2, b2)
      | (some u, p2, _) => semi L (ops ++ [(w, 2, 2, u)]) vs p2 := rfl
    obtain ⟨ga', a1, a2⟩ := fx_addOperator_c (n := n) (st := 2) (m := 2) (u := none) hg h10 hw hnm hnew (by decide) (fun z => absurd z (by decide)) (fun z => absurd z (by decide)) (fun _ => ⟨rfl, fun k hk => nomatch hk⟩)
    have a1' : fx_X5_addOperator n ga (nI (wv w)) 2 2 (-1) = some ga' := a1
    rw [eo, if_neg (by decide), if_pos rfl, s6, s8, a1', xb1_s]
    cases z : isLe L q1 with
    | false =>
      have ew := wd_not z
      have er : runit L ops vs p1 = (some none, q1, q1) := by
        unfold runit
        rw [eq1, ew, if_pos (Nat.le_refl _)]
      rw [er, if_neg (show ¬ nI (tks L q1) = 1 from fun g => by have := tks_1.mp ((nI_inj (by have := tks_le (L := L) (q := q1); omega) (by decide)).mp g); rw [z] at this; exact absurd this (by decide))]
      exact CLK_semi FSC_r (by omega) hq2 (by rw [hbk]; exact hs) a2
    | true =>
      obtain ⟨v1, v2⟩ := tkv_1 z
      have wl := wd_let2 hq2
      have wp := wd_pos z
      have wl2 := wd_le (L := L) hq2
      have ku := wv_eq wl (show ∀ c ∈ wUnit, 97 ≤ c ∧ c ≤ 122 by decide) (by decide) (by decide)
      rw [show nI (wnu wUnit) = (702772 : Int32) by decide] at ku
      rw [tks_1.mpr z, if_pos (show nI 1 = 1 by decide), v1]
      have nle : ¬ wd L q1 ≤ q1 := by omega
      by_cases y : sli L q1 (wd L q1) = wUnit
      · rw [if_pos (ku.mpr y)]
        obtain ⟨h2, b1, b2, b3⟩ := fx_advance_c (n := n) hn hs
        rw [v2] at b3
        have hq3 := bk_ge (L := L) (p := wd L q1)
        have hq4 := bk_le (L := L) wl2
        generalize eq2 : bk L (wd L q1) = q2 at *
        obtain ⟨t1, t2, t3, t4, t5, t6, t7, t8⟩ := b3
        have b3 : SCN h2 L q2 := ⟨t1, t2, t3, t4, t5, t6, t7, t8⟩
        rw [b1, xb1_s, t6, t8]
        have bad : CLK L h q (none, wd L q2, q2) (some (0, ga, h2)) := CLK_no b2 t5
        cases z2 : isLe L q2 with
        | false =>
          have er : runit L ops vs p1 = (none, wd L q2, q2) := by
            unfold runit
            rw [eq1, if_neg nle, if_pos y, eq2, if_pos (wd_iff.mpr z2)]
          rw [er, if_neg (show ¬ nI (tks L q2) = 1 from fun g => by have := tks_1.mp ((nI_inj (by have := tks_le (L := L) (q := q2); omega) (by decide)).mp g); rw [z2] at this; exact absurd this (by decide))]
          unfold jx_X5_readOperator_65
          rw [if_pos (by decide)]
          exact bad
        | true =>
          obtain ⟨y1, y2⟩ := tkv_1 z2
          have yl := wd_let2 hq4
          have yp := wd_pos z2
          have yl2 := wd_le (L := L) hq4
          obtain ⟨r, r1, r2⟩ := fx_findOperator_c (n := n) hn hg.1 hg.2.2.1 yl
          have er : runit L ops vs p1 = match newn ops vs (sli L q2 (wd L q2)) with
             | none => (none, wd L q2, q2)
             | some k => if k < ops.length ∧ (opN ops k).2.1 = 0 ∧ (opN ops k).2.2.1 = 0 then (some (some k), wd L q2, q2) else (none, wd L q2, q2) := by
            unfold runit
            rw [eq1, if_neg nle, if_pos y, eq2, if_neg (show ¬ wd L q2 ≤ q2 by omega)]
            cases newn ops vs (sli L q2 (wd L q2)) <;> rfl
          rw [tks_1.mpr z2, if_pos (show nI 1 = 1 by decide), y1, r1, xb1_s]
          unfold jx_X5_readOperator_65
          rcases r2 with ⟨o, o1, o2, o3⟩ | ⟨o1, o2⟩
          · have en : newn ops vs (sli L q2 (wd L q2)) = some o := by
              cases en : newn ops vs (sli L q2 (wd L q2)) with
              | none => exact absurd o2 (nam_none en o (Nat.zero_le _) (by omega) (nmv_op.mpr (Or.inl o1)))
              | some k =>
                obtain ⟨k1, k2, k3⟩ := nam_v en
                exact congrArg some (hg.2.2.2.2.1 k o k1 (nmv_op.mpr (Or.inl o1)) (k2.trans o2.symm))
            have ck := fx_kindOf_c (n := n) hg.1 o1
            have cp := fx_partsOf_c (n := n) hg.1 o1
            rw [soF_lt o1] at ck
            have em : maF ops o = (opN ops o).2.2.1 := by unfold maF; rw [if_pos o1]
            rw [em] at cp
            rw [en] at er
            have er' : runit L ops vs p1 = if o < ops.length ∧ (opN ops o).2.1 = 0 ∧ (opN ops o).2.2.1 = 0 then (some (some o), wd L q2, q2) else (none, wd L q2, q2) := er
            rw [o3, if_neg (show ¬ nI o < 0 by rw [show (0 : Int32) = nI 0 from rfl, nI_lt_iff (by omega) (by decide)]; omega), ck, xb1_s]
            have kl : (opN ops o).2.1 ≤ 2 := (hg.2.2.2.1 o o1).1
            by_cases k0 : (opN ops o).2.1 = 0
            · have ml := ((hg.2.2.2.1 o o1).2.1 k0).1
              rw [k0, if_pos (show nI 0 = 0 by decide), cp, xb1_s]
              by_cases m0 : (opN ops o).2.2.1 = 0
              · obtain ⟨h3, c1, c2, c3⟩ := fx_advance_c (n := n) hn b3
                rw [y2] at c3
                obtain ⟨gb', d1, d2⟩ := fx_addOperator_c (n := n) (st := 2) (m := 2) (u := some o) hg h10 hw hnm hnew (by decide) (fun z => absurd z (by decide)) (fun z => absurd z (by decide)) (fun _ => ⟨rfl, fun k hk => by rw [← Option.some.inj hk]; exact ⟨o1, k0, m0⟩⟩)
                have d1' : fx_X5_addOperator n ga (nI (wv w)) 2 2 (nI o) = some gb' := d1
                rw [m0, if_pos (show nI 0 = 0 by decide), c1, xb1_s, d1', xb1_s]
                rw [if_pos ⟨o1, k0, m0⟩] at er'
                rw [er']
                exact CLK_semi (FSC_t b2 c2) (by omega) (by omega) c3 d2
              · rw [if_neg (show ¬ nI (opN ops o).2.2.1 = 0 by rw [show (0 : Int32) = nI 0 from rfl, nI_inj (by omega) (by decide)]; exact m0)]
                rw [if_neg (fun g => m0 g.2.2)] at er'
                rw [er']
                exact bad
            · rw [if_neg (show ¬ nI (opN ops o).2.1 = 0 by rw [show (0 : Int32) = nI 0 from rfl, nI_inj (by omega) (by decide)]; exact k0)]
              rw [if_neg (fun g => k0 g.2.1)] at er'
              rw [er']
              exact bad
          · rw [o2, if_pos (show (-1 : Int32) < 0 by decide)]
            cases en : newn ops vs (sli L q2 (wd L q2)) with
            | none =>
              rw [en] at er
              have er' : runit L ops vs p1 = (none, wd L q2, q2) := er
              rw [er']
              exact bad
            | some k =>
              obtain ⟨k1, k2, k3⟩ := nam_v en
              rw [en] at er
              have er' : runit L ops vs p1 = if k < ops.length ∧ (opN ops k).2.1 = 0 ∧ (opN ops k).2.2.1 = 0 then (some (some k), wd L q2, q2) else (none, wd L q2, q2) := er
              rw [if_neg (fun g => o1 k g.1 k2)] at er'
              rw [er']
              exact bad
      · have er : runit L ops vs p1 = (none, wd L q1, q1) := by
          unfold runit
          rw [eq1, if_neg nle, if_neg y]
        rw [er, if_neg (fun g => y (ku.mp g))]
        have ns : isG L q1 59 = false := by
          unfold isG
          rw [hbk]
          cases g : isb L q1 59 59 with
          | false => rfl
          | true =>
            obtain ⟨g1, g2⟩ := isb_one.mp g
            have := isb_lt (show isb L q1 97 122 = true from z)
            omega
        have es : semi L (ops ++ [(w, 2, 2, none)]) vs q1 = (none, q1, q1) := by
          unfold semi
          rw [ns, hbk]; rfl
        refine ⟨_, _, _, rfl, FSC_r, Or.inr ⟨rfl, ops ++ [(w, 2, 2, none)], vs, q1, by omega, hq2, ?_, ?_, fun g => absurd rfl g, by rw [hbk]; exact hs, a2⟩⟩
        · rw [es]
        · rw [es]
