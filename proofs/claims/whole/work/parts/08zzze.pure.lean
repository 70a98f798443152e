/-! ===== readClause, read, takeOver: the class ===== -/
theorem jx79_op_c {n q e its : Nat} {ga h : Nat → Nat → Int32} {ops : List OpE} {vs : List (List Nat)} {L : List Nat} {x : Int32} (hn : 100000 ≤ n) (hx : (its = 0 ∧ x = 215205) ∨ (its = 1 ∧ x = 3) ∨ (its = 2 ∧ x = 35)) (hs : SCN h L q) (he : tke L q = e) (hq : q < e) (hg : SGW ga ops vs) (h10 : ops.length < 10) (b : Nat) :
    CLK L h q (opc L ops vs its e b) (jx_X5_readClause_79 n x 0 ga h) := by
  obtain ⟨h1, a1, a2, a3⟩ := fx_advance_c (n := n) hn hs
  have hel := tke_le (L := L) hs.2.1
  rw [he] at a3 hel
  rw [opc_eq (show ops.length ≠ 10 by omega)]
  unfold jx_X5_readClause_79
  rw [a1, xb1_s]
  have hq3 := bk_ge (L := L) (p := e)
  have hq4 := bk_le (L := L) hel
  have er : rname L ops vs e = if bk L e < wd L (bk L e) ∧ isNm (sli L (bk L e) (wd L (bk L e))) = true ∧ newn ops vs (sli L (bk L e) (wd L (bk L e))) = none then (some (sli L (bk L e) (wd L (bk L e))), wd L (bk L e), bk L e) else (none, wd L (bk L e), bk L e) := rfl
  generalize eq2 : bk L e = q2 at *
  obtain ⟨t1, t2, t3, t4, t5, t6, t7, t8⟩ := a3
  have a3 : SCN h1 L q2 := ⟨t1, t2, t3, t4, t5, t6, t7, t8⟩
  rw [t6, t8]
  cases z : isLe L q2 with
  | false =>
    have z2 := wd_not z
    rw [if_neg (by omega)] at er
    rw [er, if_neg (show ¬ nI (tks L q2) = 1 from fun g => by have := tks_1.mp ((nI_inj (by have := tks_le (L := L) (q := q2); omega) (by decide)).mp g); rw [z] at this; exact absurd this (by decide))]
    exact CLK_no a2 t5
  | true =>
    obtain ⟨y1, y2⟩ := tkv_1 z
    have yl := wd_let2 hq4
    have yp := wd_pos z
    have yl2 := wd_le (L := L) hq4
    have cn := fx_isNewName_c (n := n) hn hg.1 hg.2.2.1 yl
    rw [tks_1.mpr z, if_pos (show nI 1 = 1 by decide), y1, cn, xb1_s]
    by_cases c : isNm (sli L q2 (wd L q2)) = true ∧ nam (nmF ops vs) ops.length vs.length (sli L q2 (wd L q2)) 15 0 = none
    · obtain ⟨h2, b1, b2, b3⟩ := fx_advance_c (n := n) hn a3
      rw [y2] at b3
      rw [if_pos ⟨yp, c.1, c.2⟩] at er
      rw [er, if_pos c, if_neg (show ¬ (1 : Int32) = 0 by decide), b1, xb1_s, if_pos rfl]
      obtain ⟨r, ga', h', r1, r2, r3⟩ := fx_readOperator_c (n := n) (q := q) (p1 := wd L q2) (its := its) (h := h2) hn hx b3 (by omega) yl2 hg h10 yl c.1 c.2
      refine ⟨r, ga', h', ?_, FSC_t a2 (FSC_t b2 r2), r3⟩
      rw [r1, xb3_s]
      rcases r3 with ⟨g, _⟩ | ⟨g, _⟩
      · rw [g, xz_0]
      · rw [g, xz_1]
    · rw [if_neg (fun g => c g.2)] at er
      rw [er, if_neg c, if_pos rfl]
      exact CLK_no a2 t5
theorem jx79_va_c {n q e : Nat} {ga h : Nat → Nat → Int32} {ops : List OpE} {vs : List (List Nat)} {L : List Nat} {x : Int32} (hn : 100000 ≤ n) (hs : SCN h L q) (he : tke L q = e) (hq : q < e) (hg : SGW ga ops vs) (h5 : vs.length < 5) (b : Nat) :
    CLK L h q (vac L ops vs e b) (jx_X5_readClause_79 n x 1 ga h) := by
  obtain ⟨h1, a1, a2, a3⟩ := fx_advance_c (n := n) hn hs
  have hel := tke_le (L := L) hs.2.1
  rw [he] at a3 hel
  have ev : vac L ops vs e b = match rname L ops vs e with
    | (none, p1, b1) => (none, p1, b1)
    | (some w, p1, _) => semi L ops (vs ++ [w]) p1 := by
    unfold vac
    rw [if_neg (by omega)]
    rfl
  rw [ev]
  unfold jx_X5_readClause_79
  rw [a1, xb1_s]
  have hq3 := bk_ge (L := L) (p := e)
  have hq4 := bk_le (L := L) hel
  have er : rname L ops vs e = if bk L e < wd L (bk L e) ∧ isNm (sli L (bk L e) (wd L (bk L e))) = true ∧ newn ops vs (sli L (bk L e) (wd L (bk L e))) = none then (some (sli L (bk L e) (wd L (bk L e))), wd L (bk L e), bk L e) else (none, wd L (bk L e), bk L e) := rfl
  generalize eq2 : bk L e = q2 at *
  obtain ⟨t1, t2, t3, t4, t5, t6, t7, t8⟩ := a3
  have a3 : SCN h1 L q2 := ⟨t1, t2, t3, t4, t5, t6, t7, t8⟩
  rw [t6, t8]
  cases z : isLe L q2 with
  | false =>
    have z2 := wd_not z
    rw [if_neg (by omega)] at er
    rw [er, if_neg (show ¬ nI (tks L q2) = 1 from fun g => by have := tks_1.mp ((nI_inj (by have := tks_le (L := L) (q := q2); omega) (by decide)).mp g); rw [z] at this; exact absurd this (by decide))]
    exact CLK_no a2 t5
  | true =>
    obtain ⟨y1, y2⟩ := tkv_1 z
    have yl := wd_let2 hq4
    have yp := wd_pos z
    have yl2 := wd_le (L := L) hq4
    have cn := fx_isNewName_c (n := n) hn hg.1 hg.2.2.1 yl
    rw [tks_1.mpr z, if_pos (show nI 1 = 1 by decide), y1, cn, xb1_s]
    by_cases c : isNm (sli L q2 (wd L q2)) = true ∧ nam (nmF ops vs) ops.length vs.length (sli L q2 (wd L q2)) 15 0 = none
    · obtain ⟨h2, b1, b2, b3⟩ := fx_advance_c (n := n) hn a3
      rw [y2] at b3
      rw [if_pos ⟨yp, c.1, c.2⟩] at er
      obtain ⟨ga', c1, c2⟩ := fx_addVariable_c (n := n) hg h5 yl c.1 c.2
      rw [er, if_pos c, if_neg (show ¬ (1 : Int32) = 0 by decide), b1, xb1_s, if_neg (show ¬ (1 : Int32) = 0 by decide), c1, xb1_s]
      exact CLK_semi (FSC_t a2 b2) (by omega) yl2 b3 c2
    · rw [if_neg (fun g => c g.2)] at er
      rw [er, if_neg c, if_pos rfl]
      exact CLK_no a2 t5
theorem fx_readClause_c {n q : Nat} {ga h : Nat → Nat → Int32} {ops : List OpE} {vs : List (List Nat)} {L : List Nat} (hn : 100000 ≤ n) (hs : SCN h L q) (hg : SGW ga ops vs) : CLK L h q (rcl L ops vs q) (fx_X5_readClause n ga h) := by
  have hbk := bk_not hs.2.2.1
  have hq2 := hs.2.1
  have er : rcl L ops vs q = if wd L q ≤ q then (none, wd L q, q)
    else if sli L q (wd L q) = wVar then vac L ops vs (wd L q) q
    else if sli L q (wd L q) = wFree then opc L ops vs 0 (wd L q) q
    else if sli L q (wd L q) = wC then opc L ops vs 1 (wd L q) q
    else if sli L q (wd L q) = wAc then opc L ops vs 2 (wd L q) q
    else (none, wd L q, q) := by
    unfold rcl
    rw [hbk]
  obtain ⟨s1, s2, s3, s4, s5, s6, s7, s8⟩ := hs
  have hs : SCN h L q := ⟨s1, s2, s3, s4, s5, s6, s7, s8⟩
  have bad : ∀ e : Nat, CLK L h q (none, e, q) (some (0, ga, h)) := fun e => CLK_no FSC_r s5
  unfold fx_X5_readClause
  rw [s6, s8]
  cases z : isLe L q with
  | false =>
    rw [if_pos (wd_iff.mpr z)] at er
    rw [er, if_neg (show ¬ nI (tks L q) = 1 from fun g => by have := tks_1.mp ((nI_inj (by have := tks_le (L := L) (q := q); omega) (by decide)).mp g); rw [z] at this; exact absurd this (by decide))]
    unfold jx_X5_readClause_29
    rw [if_pos rfl, if_neg (show ¬ (0 : Int32) = 215205 by decide), if_neg (show ¬ (0 : Int32) = 3 by decide), if_neg (show ¬ (0 : Int32) = 35 by decide)]
    exact bad _
  | true =>
    obtain ⟨y1, y2⟩ := tkv_1 z
    have yl := wd_let2 hq2
    have yp := wd_pos z
    have kw : ∀ (x : List Nat), (∀ c ∈ x, 97 ≤ c ∧ c ≤ 122) → 1 ≤ x.length → x.length ≤ 6 → (nI (wv (sli L q (wd L q))) = nI (wnu x) ↔ sli L q (wd L q) = x) := fun x h1 h2 h3 => wv_eq yl h1 h2 h3
    have k1 := kw wFree (by decide) (by decide) (by decide)
    have k2 := kw wC (by decide) (by decide) (by decide)
    have k3 := kw wAc (by decide) (by decide) (by decide)
    have k5 := kw wVar (by decide) (by decide) (by decide)
    rw [show nI (wnu wFree) = (215205 : Int32) by decide] at k1
    rw [show nI (wnu wC) = (3 : Int32) by decide] at k2
    rw [show nI (wnu wAc) = (35 : Int32) by decide] at k3
    rw [show nI (wnu wVar) = (22578 : Int32) by decide] at k5
    rw [if_neg (show ¬ wd L q ≤ q by omega)] at er
    rw [tks_1.mpr z, if_pos (show nI 1 = 1 by decide), y1]
    have g00 := hg.1.2.2.1
    have g01 := hg.1.2.2.2.1
    have gl := hg.1.1
    have gl5 := hg.1.2.1
    have op : ∀ (its : Nat) (x : Int32), ((its = 0 ∧ x = 215205) ∨ (its = 1 ∧ x = 3) ∨ (its = 2 ∧ x = 35)) → CLK L h q (opc L ops vs its (wd L q) q) (jx_X5_readClause_53 n x 0 ga h) := fun its x hx => by
      unfold jx_X5_readClause_53
      rw [if_pos rfl, g00]
      by_cases f : ops.length < 10
      · rw [if_pos (show nI ops.length < 10 by rw [show (10 : Int32) = nI 10 from rfl, nI_lt_iff (by omega) (by decide)]; exact f)]
        exact jx79_op_c hn hx hs y2 yp hg f q
      · rw [if_neg (show ¬ nI ops.length < 10 by rw [show (10 : Int32) = nI 10 from rfl, nI_lt_iff (by omega) (by decide)]; exact f)]
        unfold opc
        rw [if_pos (show ops.length = 10 by omega)]
        exact bad _
    by_cases c5 : sli L q (wd L q) = wVar
    · rw [if_pos c5] at er
      rw [er, if_pos (k5.mpr c5)]
      unfold jx_X5_readClause_29 jx_X5_readClause_53
      rw [if_neg (show ¬ (1 : Int32) = 0 by decide), if_neg (show ¬ (1 : Int32) = 0 by decide), g01]
      by_cases f : vs.length < 5
      · rw [if_pos (show nI vs.length < 5 by rw [show (5 : Int32) = nI 5 from rfl, nI_lt_iff (by omega) (by decide)]; exact f)]
        exact jx79_va_c hn hs y2 yp hg f q
      · rw [if_neg (show ¬ nI vs.length < 5 by rw [show (5 : Int32) = nI 5 from rfl, nI_lt_iff (by omega) (by decide)]; exact f)]
        unfold vac
        rw [if_pos (show vs.length = 5 by omega)]
        exact bad _
    · rw [if_neg c5] at er
      rw [if_neg (fun g => c5 (k5.mp g))]
      unfold jx_X5_readClause_29
      rw [if_pos rfl]
      by_cases c1 : sli L q (wd L q) = wFree
      · rw [if_pos c1] at er
        rw [er, if_pos (k1.mpr c1), k1.mpr c1]
        exact op 0 _ (Or.inl ⟨rfl, rfl⟩)
      · rw [if_neg c1] at er
        rw [if_neg (fun g => c1 (k1.mp g))]
        by_cases c2 : sli L q (wd L q) = wC
        · rw [if_pos c2] at er
          rw [er, if_pos (k2.mpr c2), k2.mpr c2]
          exact op 1 _ (Or.inr (Or.inl ⟨rfl, rfl⟩))
        · rw [if_neg c2] at er
          rw [if_neg (fun g => c2 (k2.mp g))]
          by_cases c3 : sli L q (wd L q) = wAc
          · rw [if_pos c3] at er
            rw [er, if_pos (k3.mpr c3), k3.mpr c3]
            exact op 2 _ (Or.inr (Or.inr ⟨rfl, rfl⟩))
          · rw [if_neg c3] at er
            rw [er, if_neg (fun g => c3 (k3.mp g))]
            exact bad _
/-- what the class makes of a signature's text -/
def RDK (L : List Nat) (h : Nat → Nat → Int32) (o : CR) (res : Option (Int32 × (Nat → Nat → Int32) × (Nat → Nat → Int32))) : Prop :=
  ∃ (r : Int32) (ga' h' : Nat → Nat → Int32), res = some (r, ga', h') ∧ FSC h h' ∧ ((r = 0 ∧ o.1 = none ∧ h' 0 4 = nI o.2.2) ∨ (r = 1 ∧ ∃ (ops : List OpE) (vs : List (List Nat)), o.1 = some (ops, vs) ∧ SGW ga' ops vs))
theorem lx_read5_c {n : Nat} {L : List Nat} (hn : 100000 ≤ n) : ∀ (d j q m : Nat) (ga h : Nat → Nat → Int32) (ops : List OpE) (vs : List (List Nat)), SCN h L q → SGW ga ops vs → L.length < q + d → d ≤ m → j ≤ q → RDK L h (sgl L d ops vs q) (lx_X5_read_18 n m (nI j) ga h)
  | 0, j, q, m, ga, h, ops, vs, hs, hg, hd, _, _ => by have := hs.2.1; omega
  | d + 1, j, q, 0, ga, h, ops, vs, hs, hg, hd, hm, _ => by omega
  | d + 1, j, q, m + 1, ga, h, ops, vs, hs, hg, hd, hm, hj => by
    have hL4 := hs.1.1
    have hq := hs.2.1
    have hbk := bk_not hs.2.2.1
    have s6 := hs.2.2.2.2.2.1
    have t3 := tks_le (L := L) (q := q)
    show RDK L h (sgl L (d + 1) ops vs q) (bx_X5_read_18 n (lx_X5_read_18 n m) (nI j) ga h)
    unfold bx_X5_read_18
    rw [s6]
    by_cases z : L.length ≤ q
    · have es : sgl L (d + 1) ops vs q = (some (ops, vs), q, q) := if_pos z
      have done : RDK L h (sgl L (d + 1) ops vs q) (some (1, ga, h)) := ⟨_, _, _, rfl, FSC_r, Or.inr ⟨rfl, ops, vs, by rw [es], hg⟩⟩
      rw [tks_0.mpr z, if_pos (show nI 0 = 0 by decide), if_pos (show nI 0 = 0 by decide)]
      split
      · exact done
      · exact done
    · have es : sgl L (d + 1) ops vs q = match rcl L ops vs q with
        | (none, p1, b1) => (none, p1, b1)
        | (some (ops', vs'), p1, _) => sgl L d ops' vs' (bk L p1) := if_neg z
      rw [es, if_neg (show ¬ (400 : Int32) ≤ nI j by rw [show (400 : Int32) = nI 400 from rfl, nI_le_iff (by decide) (by omega)]; omega), if_neg (show ¬ nI (tks L q) = 0 from fun g => z (tks_0.mp ((nI_inj (by omega) (by decide)).mp g)))]
      obtain ⟨r, ga', h', r1, r2, r3⟩ := fx_readClause_c (n := n) hn hs hg
      rw [r1, xb3_s]
      rcases r3 with ⟨g1, g2, g3⟩ | ⟨g1, ops1, vs1, p1, g2, g3, g4, g5, g6, g7, g8⟩
      · rw [g1, if_pos rfl]
        have e0 : rcl L ops vs q = (none, (rcl L ops vs q).2.1, (rcl L ops vs q).2.2) := by rw [← g2]
        rw [e0]
        exact ⟨_, _, _, rfl, r2, Or.inl ⟨rfl, rfl, g3⟩⟩
      · rw [g1, if_neg (show ¬ (1 : Int32) = 0 by decide), show (59 : Int32) = nI 59 from rfl, fx_isSign_c g7 (by omega), xb1_s]
        have eg : isG L p1 59 = isb L (bk L p1) 59 59 := rfl
        rw [← eg]
        cases y : isG L p1 59 with
        | false =>
          have e1 : semi L ops1 vs1 p1 = (none, bk L p1, bk L p1) := by unfold semi; rw [y]; rfl
          rw [e1] at g4 g5
          have e0 : rcl L ops vs q = (none, (rcl L ops vs q).2.1, bk L p1) := Prod.ext g4 (Prod.ext rfl g5)
          rw [e0, if_neg (show ¬ (false = true) by decide), if_pos rfl]
          exact ⟨_, _, _, rfl, r2, Or.inl ⟨rfl, rfl, g7.2.2.2.2.1⟩⟩
        | true =>
          have e1 : semi L ops1 vs1 p1 = (some (ops1, vs1), bk L p1 + 1, bk L p1) := by unfold semi; rw [y]; rfl
          have ne : (rcl L ops vs q).1 ≠ none := by rw [g4, e1]; exact fun g => nomatch g
          have g6' := g6 ne
          rw [e1] at g4 g5 g6'
          have e0 : rcl L ops vs q = (some (ops1, vs1), bk L p1 + 1, bk L p1) := Prod.ext g4 (Prod.ext g6' g5)
          obtain ⟨y1, y2⟩ := isb_one.mp (show isb L (bk L p1) 59 59 = true from y)
          obtain ⟨t1, t2, t3⟩ := tks_sign (Or.inr (Or.inr (Or.inr (Or.inl rfl)))) y1 y2
          obtain ⟨h2, b1, b2, b3⟩ := fx_advance_c (n := n) hn g7
          rw [t3] at b3
          rw [e0, if_pos rfl, if_neg (show ¬ (1 : Int32) = 0 by decide), b1, xb1_s, xl_eq, nI_1]
          have k1 := bk_ge (L := L) (p := p1)
          have k2 := bk_ge (L := L) (p := bk L p1 + 1)
          obtain ⟨r', gb', h3, c1, c2, c3⟩ := lx_read5_c hn d (j + 1) (bk L (bk L p1 + 1)) m ga' h2 ops1 vs1 b3 g8 (by omega) (by omega) (by omega)
          exact ⟨r', gb', h3, c1, FSC_t r2 (FSC_t b2 c2), c3⟩
theorem SGW_nil {ga : Nat → Nat → Int32} (h0 : ga 0 0 = 0) (h1 : ga 0 1 = 0) (h2 : ga 0 2 = 31) : SGW ga [] [] := by
  have nv : ∀ i : Nat, ¬ nmv ([] : List OpE).length ([] : List (List Nat)).length i = true := fun i hi => by
    rcases nmv_op.mp hi with g | g
    · exact absurd g (Nat.not_lt_zero _)
    · have : i < 10 + 0 := g.2
      omega
  refine ⟨⟨Nat.zero_le _, Nat.zero_le _, h0, h1, fun o ho => absurd ho (Nat.not_lt_zero _), fun o ho => absurd ho (Nat.not_lt_zero _)⟩, by rw [h2]; exact LBW_nil, fun i hi => absurd hi (nv i), fun i hi => absurd hi (Nat.not_lt_zero _), fun i j hi => absurd hi (nv i), fun i hi => absurd hi (nv i)⟩
theorem fx_read5_c {n : Nat} {L : List Nat} {ga h : Nat → Nat → Int32} (hn : 100000 ≤ n) (hs : SCN h L (bk L 0)) : RDK L h (SGN L) (fx_X5_read n ga h) := by
  have hL4 := hs.1.1
  unfold fx_X5_read
  rw [xl_eq, xl_eq, xl_eq]
  exact lx_read5_c hn 401 0 (bk L 0) n _ h [] [] hs (SGW_nil (by rw [mu0_ne (by decide), mu0_ne (by decide), mu0_eq]) (by rw [mu0_ne (by decide), mu0_eq]) mu0_eq) (by omega) (by omega) (Nat.zero_le _)
/-- what lasts -/
def lasW (x : Int32) (h : Nat) : Bool := decide (h < 15) && hb x h
theorem ENV_of {ga : Nat → Nat → Int32} {ops : List OpE} {vs : List (List Nat)} (h : SGW ga ops vs) : ENV ga (lasW (ga 0 2)) (soF ops) (maF ops) (unF ops) ops.length vs.length (nmF ops vs) := by
  obtain ⟨g1, g2, g3, g4⟩ := h
  have lt : ∀ o : Nat, soF ops o ≠ 3 → o < ops.length := fun o q => by
    by_cases z : o < ops.length
    · exact z
    · exact absurd (soF_ge z) q
  have em : ∀ o : Nat, o < ops.length → maF ops o = (opN ops o).2.2.1 := fun o ho => if_pos ho
  have eu : ∀ o : Nat, o < ops.length → unF ops o = (opN ops o).2.2.2 := fun o ho => if_pos ho
  refine ⟨g1, ⟨g1.2.1, fun o ho => ?_, fun o ho => ?_, fun o u hu => ?_⟩, fun v hv => ?_, fun q hq => ?_, lt, fun v hv => ?_, fun o ho => ?_⟩
  · have l := lt o (by omega)
    rw [em o l]
    rw [soF_lt l] at ho
    exact ((g4.1 o l).2.2.1 ho).1
  · have l := lt o (by omega)
    rw [em o l]
    rw [soF_lt l] at ho
    exact ((g4.1 o l).2.1 ho).1
  · have l : o < ops.length := by
      by_cases z : o < ops.length
      · exact z
      · unfold unF at hu; rw [if_neg z] at hu; exact nomatch hu
    rw [eu o l] at hu
    obtain ⟨k1, k2, k3, k4⟩ := g4.1 o l
    have s2 : (opN ops o).2.1 = 2 := by
      by_cases z0 : (opN ops o).2.1 = 0
      · rw [(k2 z0).2] at hu; exact nomatch hu
      · by_cases z1 : (opN ops o).2.1 = 1
        · rw [(k3 z1).2] at hu; exact nomatch hu
        · omega
    obtain ⟨m1, m2, m3⟩ := (k4 s2).2 u hu
    have := g1.1
    rw [soF_lt l, soF_lt m1, em u m1]
    exact ⟨s2, by omega, m2, m3⟩
  · rw [hb_sh (by omega)]
    unfold lasW
    rw [decide_eq_true hv, Bool.true_and]
  · rw [soF_lt hq]
    exact (g4.1 q hq).1
  · unfold lasW
    rw [decide_eq_true (by omega), Bool.true_and]
    exact (g2 v (by omega)).mpr (Or.inl hv)
  · unfold lasW at ho
    rw [Bool.and_eq_true, decide_eq_true_eq] at ho
    rcases (g2 (5 + o) ho.1).mp ho.2 with f | ⟨f1, f2, f3, f4⟩
    · omega
    · rw [show 5 + o - 5 = o by omega] at f2 f3 f4
      refine ⟨by rw [soF_lt f2]; exact f3, fun p hp => ?_⟩
      by_cases l : p < ops.length
      · rw [eu p l] at hp
        exact f4 p l hp
      · unfold unF at hp; rw [if_neg l] at hp; exact nomatch hp
theorem NML_of {ga : Nat → Nat → Int32} {ops : List OpE} {vs : List (List Nat)} (h : SGW ga ops vs) : NML (soF ops) vs.length (nmF ops vs) := fun i hi => by
  have : nmv ops.length vs.length i = true := by
    rcases hi with ⟨_, g⟩ | g
    · refine nmv_op.mpr (Or.inl ?_)
      by_cases z : i < ops.length
      · exact z
      · exact absurd (soF_ge z) g
    · exact nmv_op.mpr (Or.inr g)
  exact (h.2.2.1 i this).2
theorem SGW_congr {ga gb' : Nat → Nat → Int32} {ops : List OpE} {vs : List (List Nat)} (h : SGW ga ops vs) (e0 : ∀ j : Nat, j < 3 → gb' 0 j = ga 0 j) (e : ∀ a i : Nat, 1 ≤ a → a ≤ 4 → i < 10 → gb' a i = ga a i) (e5 : ∀ i : Nat, i < 5 → gb' 5 i = ga 5 i) : SGW gb' ops vs := by
  obtain ⟨⟨s1, s2, s3, s4, s5, s6⟩, g2, g3, g4⟩ := h
  refine ⟨⟨s1, s2, by rw [e0 0 (by decide)]; exact s3, by rw [e0 1 (by decide)]; exact s4, fun o ho => ?_, fun j hj => by rw [e5 j (by omega)]; exact s6 j hj⟩, by rw [e0 2 (by decide)]; exact g2, g3, g4⟩
  rw [e 1 o (by decide) (by decide) (by omega), e 2 o (by decide) (by decide) (by omega), e 3 o (by decide) (by decide) (by omega), e 4 o (by decide) (by decide) (by omega)]
  exact s5 o ho
