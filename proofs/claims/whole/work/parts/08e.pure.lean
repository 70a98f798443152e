/-! ===== a clause, read ===== -/
def opc (L : List Nat) (ops : List OpE) (vs : List (List Nat)) (its e b : Nat) : CR :=
  if ops.length = 10 then (none, e, b) else match rname L ops vs e with
  | (none, p1, b1) => (none, p1, b1)
  | (some w, p1, b1) =>
    if its = 0 then (match rnum L p1 with
      | (none, p2, b2) => (none, p2, b2)
      | (some v, p2, _) => semi L (ops ++ [(w, 0, v, none)]) vs p2)
    else if its = 2 then (match runit L ops vs p1 with
      | (none, p2, b2) => (none, p2, b2)
      | (some u, p2, _) => semi L (ops ++ [(w, 2, 2, u)]) vs p2)
    else semi L (ops ++ [(w, 1, 2, none)]) vs p1
def vac (L : List Nat) (ops : List OpE) (vs : List (List Nat)) (e b : Nat) : CR :=
  if vs.length = 5 then (none, e, b) else match rname L ops vs e with
  | (none, p1, b1) => (none, p1, b1)
  | (some w, p1, _) => semi L ops (vs ++ [w]) p1
def rcl (L : List Nat) (ops : List OpE) (vs : List (List Nat)) (p : Nat) : CR :=
  if wd L (bk L p) ≤ bk L p then (none, wd L (bk L p), bk L p)
  else if sli L (bk L p) (wd L (bk L p)) = wVar then vac L ops vs (wd L (bk L p)) (bk L p)
  else if sli L (bk L p) (wd L (bk L p)) = wFree then opc L ops vs 0 (wd L (bk L p)) (bk L p)
  else if sli L (bk L p) (wd L (bk L p)) = wC then opc L ops vs 1 (wd L (bk L p)) (bk L p)
  else if sli L (bk L p) (wd L (bk L p)) = wAc then opc L ops vs 2 (wd L (bk L p)) (bk L p)
  else (none, wd L (bk L p), bk L p)
abbrev ClR := Option (Int32 × Int32 × Int32 × (Nat → Int32) × (Nat → Int32) × (Nat → Int32) × (Nat → Int32) × (Nat → Int32) × Int32 × Int32)
/-- what a clause makes -/
def CLO (L : List Nat) (p : Nat) (o : CR) (res : ClR) : Prop := ∃ (r : Int32) (fn' fnm' fs' fm' fu' : Nat → Int32) (no' nv' : Int32), res = some (r, nI o.2.1, nI o.2.2, fn', fnm', fs', fm', fu', no', nv') ∧ o.2.1 ≤ L.length ∧
  ((o.1 = none ∧ r = 0) ∨ ∃ (ops' : List OpE) (vs' : List (List Nat)), o.1 = some (ops', vs') ∧ r = 1 ∧ no' = nI ops'.length ∧ nv' = nI vs'.length ∧ NWR ops' vs' fn' fnm' fs' fm' fu' ∧ OPS ops' vs' ∧ p < o.2.1)
theorem CLO_no {L : List Nat} {p e b : Nat} {fn fnm fs9 fm9 fu9 : Nat → Int32} {no nv : Int32} (he : e ≤ L.length) : CLO L p (none, e, b) (some (0, nI e, nI b, fn, fnm, fs9, fm9, fu9, no, nv)) := ⟨_, _, _, _, _, _, _, _, rfl, he, Or.inl ⟨rfl, rfl⟩⟩
theorem semi_ok {n p p1 : Nat} {f fn fnm fs9 fm9 fu9 : Nat → Int32} {L : List Nat} {b0 : Int32} {ops : List OpE} {vs : List (List Nat)} (hn : 100000 ≤ n) (h : TPE f L) (hp : p ≤ p1) (hp1 : p1 ≤ L.length) (hw : NWR ops vs fn fnm fs9 fm9 fu9) (hO : OPS ops vs) :
    CLO L p (semi L ops vs p1) (xb3 (fx_takes n f (nI L.length) (nI p1) b0 ((59 : Int32))) fun r_7 m_point_8 m_begin_9 => xz r_7 (some (r_7, m_point_8, m_begin_9, fn, fnm, fs9, fm9, fu9, nI ops.length, nI vs.length))) := by
  have tt := fx_takes_ok (n := n) (p := p1) (c := 59) (b := b0) hn h hp1 (by decide)
  have e59 : nI 59 = (59 : Int32) := rfl
  have hb1 := bk_le (L := L) hp1
  have hb2 := bk_ge (L := L) (p := p1)
  rw [e59] at tt
  rw [tt, xb3_s]
  unfold semi
  by_cases hG : isG L p1 59 = true
  · have hlt := (isb_lt (show isb L (bk L p1) 59 59 = true from hG)).1
    simp only [if_pos hG]
    rw [xz_1]
    exact ⟨_, _, _, _, _, _, _, _, rfl, by (try dsimp only); omega, Or.inr ⟨ops, vs, rfl, rfl, rfl, rfl, hw, hO, by (try dsimp only); omega⟩⟩
  · simp only [if_neg hG]
    rw [xz_0]
    exact ⟨_, _, _, _, _, _, _, _, rfl, hb1, Or.inl ⟨rfl, rfl⟩⟩
theorem NWR_pre {ops : List OpE} {vs : List (List Nat)} {fn fnm fs9 fm9 fu9 fs' fm' fu' : Nat → Int32} {w : List Nat} (h : NWR ops vs fn fnm fs9 fm9 fu9) (hw : w.length ≤ 6) (h10 : ops.length < 10)
    (h1 : ∀ i : Nat, i ≠ ops.length → fs' i = fs9 i) (h2 : ∀ i : Nat, i ≠ ops.length → fm' i = fm9 i) (h3 : ∀ i : Nat, i ≠ ops.length → fu' i = fu9 i) :
    NWR ops vs (put fn (6 * ops.length) w) (upd fnm ops.length (nI w.length)) fs' fm' fu' := by
  refine ⟨h.1, h.2.1, fun i hi => ?_, fun i hi => ?_⟩
  · obtain ⟨y1, y2, y3, y4⟩ := h.2.2.1 i hi
    rcases nmv_op.mp hi with g | g
    · exact ⟨by rw [upd_ne (by omega)]; exact y1, la_put (Or.inl (by omega)) y2, y3, y4⟩
    · exact ⟨by rw [upd_ne (by omega)]; exact y1, la_put (Or.inr (by omega)) y2, y3, y4⟩
  · obtain ⟨y1, y2, y3⟩ := h.2.2.2 i hi
    exact ⟨(h1 i (by omega)).trans y1, (h2 i (by omega)).trans y2, (h3 i (by omega)).trans y3⟩
theorem rname_le {L : List Nat} {ops : List OpE} {vs : List (List Nat)} {p : Nat} (hp : p ≤ L.length) : p ≤ (rname L ops vs p).2.1 ∧ (rname L ops vs p).2.1 ≤ L.length := by
  have hb1 := bk_le (L := L) hp
  have hb2 := bk_ge (L := L) (p := p)
  have hw1 := wd_le (L := L) hb1
  have hw2 := wd_ge (L := L) (p := bk L p)
  unfold rname
  split
  · exact ⟨by show p ≤ wd L (bk L p); omega, hw1⟩
  · exact ⟨by show p ≤ wd L (bk L p); omega, hw1⟩
theorem rnum_le {L : List Nat} {p : Nat} (hp : p ≤ L.length) : p ≤ (rnum L p).2.1 ∧ (rnum L p).2.1 ≤ L.length := by
  have hb1 := bk_le (L := L) hp
  have hb2 := bk_ge (L := L) (p := p)
  have hw1 := dg_le (L := L) hb1
  have hw2 := dg_ge (L := L) (p := bk L p)
  unfold rnum
  split
  · exact ⟨by show p ≤ dg L (bk L p); omega, hw1⟩
  · exact ⟨by show p ≤ dg L (bk L p); omega, hw1⟩
theorem runit_le {L : List Nat} {ops : List OpE} {vs : List (List Nat)} {p : Nat} (hp : p ≤ L.length) : p ≤ (runit L ops vs p).2.1 ∧ (runit L ops vs p).2.1 ≤ L.length := by
  have hb1 := bk_le (L := L) hp
  have hb2 := bk_ge (L := L) (p := p)
  have hw1 := wd_le (L := L) hb1
  have hw2 := wd_ge (L := L) (p := bk L p)
  have hb3 := bk_le (L := L) hw1
  have hb4 := bk_ge (L := L) (p := wd L (bk L p))
  have hw3 := wd_le (L := L) hb3
  have hw4 := wd_ge (L := L) (p := bk L (wd L (bk L p)))
  unfold runit
  split
  · exact ⟨by show p ≤ wd L (bk L p); omega, hw1⟩
  · split
    · split
      · exact ⟨by show p ≤ wd L (bk L (wd L (bk L p))); omega, hw3⟩
      · split
        · exact ⟨by show p ≤ wd L (bk L (wd L (bk L p))); omega, hw3⟩
        · split
          · exact ⟨by show p ≤ wd L (bk L (wd L (bk L p))); omega, hw3⟩
          · exact ⟨by show p ≤ wd L (bk L (wd L (bk L p))); omega, hw3⟩
    · exact ⟨by show p ≤ wd L (bk L p); omega, hw1⟩
/-- an operator's clause behind its word -/
theorem jx127_op {n p e b its : Nat} {f fn fnm fs9 fm9 fu9 : Nat → Int32} {L : List Nat} {ops : List OpE} {vs : List (List Nat)} {x1 : Int32} (hn : 100000 ≤ n) (h : TPE f L) (hp : p ≤ e) (he : e ≤ L.length) (hits : its ≤ 2) (hw : NWR ops vs fn fnm fs9 fm9 fu9) (hO : OPS ops vs) (h10 : ops.length < 10) :
    CLO L p (opc L ops vs its e b) (jx_readsClause_127 n f (nI L.length) x1 0 (nI its) (nI ops.length) (nI e) (nI b) fn fnm fs9 fm9 fu9 (nI ops.length) (nI vs.length)) := by
  have h4 := h.1
  have rl := rname_le (ops := ops) (vs := vs) he
  unfold jx_readsClause_127 opc
  rw [if_neg (show ¬ ops.length = 10 by omega)]
  rcases fx_readsName_ok (b0 := nI b) hn h he (show ops.length < 15 by omega) hw with ⟨q1, q2⟩ | ⟨w, q1, q2, q3, q4, q5⟩
  · rw [q2, xb5_s, if_pos rfl]
    generalize rname L ops vs e = o at q1 rl ⊢
    obtain ⟨o1, p1, b1⟩ := o
    dsimp only at q1 rl ⊢
    subst q1
    exact CLO_no rl.2
  · have hw6 := isNm_iff q2
    rw [q5, xb5_s, if_neg (by decide), if_pos rfl]
    generalize rname L ops vs e = o at q1 rl ⊢
    obtain ⟨o1, p1, b1⟩ := o
    dsimp only at q1 rl ⊢
    subst q1
    rw [xw_n h10 (by decide), xw_n h10 (by decide), xw_n h10 (by decide)]
    dsimp only
    by_cases i0 : its = 0
    · have z0 : nI its = (0 : Int32) := by rw [i0]; rfl
      rw [if_pos i0, if_pos z0]
      obtain ⟨fm', n1, n2, n3⟩ := fx_readsNumber_ok (fm9 := upd fm9 ops.length 2) (b0 := nI b1) hn h rl.2 h10
      have rn := rnum_le (L := L) rl.2
      rw [n1, xb4_s]
      generalize rnum L p1 = o at n3 rn ⊢
      obtain ⟨o1, p2, b2⟩ := o
      dsimp only at n3 rn ⊢
      cases o1 with
      | none =>
        rw [if_pos rfl, if_pos rfl]
        exact CLO_no rn.2
      | some v =>
        obtain ⟨v1, v2⟩ := n3 v rfl
        rw [if_neg (show ¬ (some v) = none by simp), if_neg (by decide)]
        dsimp only
        unfold jx_readsClause_197
        rw [i0, if_neg (by decide), xl_eq, nI_1, show ops.length + 1 = (ops ++ [(w, 0, v, none)]).length by simp]
        exact semi_ok hn h (by omega) rn.2 (NWR_op hw h10 hw6.2 q4 (fun i hi => upd_ne hi) (fun i hi => by rw [n2 i hi, upd_ne hi]) (fun i hi => upd_ne hi) (upd_eq _ _ _) v1 (upd_eq _ _ _)) (OPS_op hO h10 hw.2.1 q2 q3 (by omega) (fun _ => ⟨v2, rfl⟩) (fun z => absurd z (by decide)) (fun z => absurd z (by decide)))
    · have z0 : ¬ nI its = (0 : Int32) := by rw [show (0 : Int32) = nI 0 from rfl, nI_inj (by omega) (by decide)]; exact i0
      rw [if_neg i0, if_neg z0]
      unfold jx_readsClause_197
      by_cases i2 : its = 2
      · have z2 : nI its = (2 : Int32) := by rw [i2]; rfl
        rw [if_pos i2, if_pos z2]
        obtain ⟨fu', n1, n2, n3⟩ := fx_readsUnit_ok (fu0 := upd fu9 ops.length (-1)) (b0 := nI b1) hn h rl.2 (NWR_pre (fs' := upd fs9 ops.length (nI its)) (fm' := upd fm9 ops.length 2) (fu' := fu9) hw hw6.2 h10 (fun i hi => upd_ne hi) (fun i hi => upd_ne hi) (fun i hi => rfl)) h10 hO
        have rn := runit_le (L := L) (ops := ops) (vs := vs) rl.2
        rw [n1, xb4_s]
        generalize runit L ops vs p1 = o at n3 rn ⊢
        obtain ⟨o1, p2, b2⟩ := o
        dsimp only at n3 rn ⊢
        cases o1 with
        | none =>
          rw [if_pos rfl, if_pos rfl]
          exact CLO_no rn.2
        | some u =>
          obtain ⟨v1, v2⟩ := n3 u rfl
          rw [if_neg (show ¬ (some u) = none by simp), if_neg (by decide)]
          dsimp only
          rw [xl_eq, nI_1, show ops.length + 1 = (ops ++ [(w, 2, 2, u)]).length by simp]
          exact semi_ok hn h (by omega) rn.2 (NWR_op hw h10 hw6.2 q4 (fun i hi => upd_ne hi) (fun i hi => upd_ne hi) (fun i hi => by rw [n2 i hi, upd_ne hi]) (by rw [upd_eq, i2]) (upd_eq _ _ _) v1) (OPS_op hO h10 hw.2.1 q2 q3 (by omega) (fun z => absurd z (by decide)) (fun z => absurd z (by decide)) (fun _ => ⟨rfl, v2⟩))
      · have i1 : its = 1 := by omega
        have z2 : ¬ nI its = (2 : Int32) := by rw [show (2 : Int32) = nI 2 from rfl, nI_inj (by omega) (by decide)]; exact i2
        rw [if_neg i2, if_neg z2, xl_eq, nI_1, show ops.length + 1 = (ops ++ [(w, 1, 2, none)]).length by simp]
        exact semi_ok hn h (by omega) rl.2 (NWR_op hw h10 hw6.2 q4 (fun i hi => upd_ne hi) (fun i hi => upd_ne hi) (fun i hi => upd_ne hi) (by rw [upd_eq, i1]) (upd_eq _ _ _) (upd_eq _ _ _)) (OPS_op hO h10 hw.2.1 q2 q3 (by omega) (fun z => absurd z (by decide)) (fun _ => ⟨rfl, rfl⟩) (fun z => absurd z (by decide)))
theorem jx127_va {n p e b : Nat} {f fn fnm fs9 fm9 fu9 : Nat → Int32} {L : List Nat} {ops : List OpE} {vs : List (List Nat)} {x1 x3 : Int32} (hn : 100000 ≤ n) (h : TPE f L) (hp : p ≤ e) (he : e ≤ L.length) (hw : NWR ops vs fn fnm fs9 fm9 fu9) (hO : OPS ops vs) (h5 : vs.length < 5) :
    CLO L p (vac L ops vs e b) (jx_readsClause_127 n f (nI L.length) x1 1 x3 (nI (10 + vs.length)) (nI e) (nI b) fn fnm fs9 fm9 fu9 (nI ops.length) (nI vs.length)) := by
  have h4 := h.1
  have h10 := hw.1
  have rl := rname_le (ops := ops) (vs := vs) he
  unfold jx_readsClause_127 vac
  rw [if_neg (show ¬ vs.length = 5 by omega)]
  rcases fx_readsName_ok (b0 := nI b) hn h he (show 10 + vs.length < 15 by omega) hw with ⟨q1, q2⟩ | ⟨w, q1, q2, q3, q4, q5⟩
  · rw [q2, xb5_s, if_pos rfl]
    generalize rname L ops vs e = o at q1 rl ⊢
    obtain ⟨o1, p1, b1⟩ := o
    dsimp only at q1 rl ⊢
    subst q1
    exact CLO_no rl.2
  · have hw6 := isNm_iff q2
    rw [q5, xb5_s, if_neg (by decide), if_neg (by decide)]
    generalize rname L ops vs e = o at q1 rl ⊢
    obtain ⟨o1, p1, b1⟩ := o
    dsimp only at q1 rl ⊢
    subst q1
    dsimp only
    rw [xl_eq, nI_1, show vs.length + 1 = (vs ++ [w]).length by simp]
    exact semi_ok hn h (by omega) rl.2 (NWR_vs hw h5 hw6.2 q4) (OPS_vs hO h10 h5 q2 q3)
theorem fx_readsClause_ok {n p : Nat} {f fn fnm fs9 fm9 fu9 : Nat → Int32} {L : List Nat} {ops : List OpE} {vs : List (List Nat)} {b0 : Int32} (hn : 100000 ≤ n) (h : TPE f L) (hp : p ≤ L.length) (hw : NWR ops vs fn fnm fs9 fm9 fu9) (hO : OPS ops vs) :
    CLO L p (rcl L ops vs p) (fx_readsClause n f (nI L.length) (nI p) b0 fn fnm fs9 fm9 fu9 (nI ops.length) (nI vs.length)) := by
  have h4 := h.1
  have h10 := hw.1
  have h5 := hw.2.1
  have hb1 := bk_le (L := L) hp
  have hb2 := bk_ge (L := L) (p := p)
  have hw1 := wd_le (L := L) hb1
  have hw2 := wd_ge (L := L) (p := bk L p)
  have w1 := fx_isWord_ok (n := n) wFree hn h hw2 hw1 wd_let (by decide) (by decide)
  have w2 := fx_isWord_ok (n := n) wC hn h hw2 hw1 wd_let (by decide) (by decide)
  have w3 := fx_isWord_ok (n := n) wAc hn h hw2 hw1 wd_let (by decide) (by decide)
  have w5 := fx_isWord_ok (n := n) wVar hn h hw2 hw1 wd_let (by decide) (by decide)
  have w1' : fx_isWord n f (nI (wd L (bk L p))) (nI (bk L p)) 4 (ltr [102, 114, 101, 101]) = some (if sli L (bk L p) (wd L (bk L p)) = wFree then 1 else 0) := w1
  have w2' : fx_isWord n f (nI (wd L (bk L p))) (nI (bk L p)) 1 (ltr [99]) = some (if sli L (bk L p) (wd L (bk L p)) = wC then 1 else 0) := w2
  have w3' : fx_isWord n f (nI (wd L (bk L p))) (nI (bk L p)) 2 (ltr [97, 99]) = some (if sli L (bk L p) (wd L (bk L p)) = wAc then 1 else 0) := w3
  have w5' : fx_isWord n f (nI (wd L (bk L p))) (nI (bk L p)) 3 (ltr [118, 97, 114]) = some (if sli L (bk L p) (wd L (bk L p)) = wVar then 1 else 0) := w5
  unfold fx_readsClause rcl
  rw [fx_word_ok hn h hp, xb3_s]
  by_cases c1 : wd L (bk L p) ≤ bk L p
  · simp only [if_pos c1]
    rw [if_pos trivial]
    unfold jx_readsClause_23
    rw [if_pos rfl, if_pos rfl]
    exact CLO_no hw1
  · simp only [if_neg c1]
    rw [if_neg (show ¬ (1 : Int32) = 0 by decide), w5', xb1_s]
    have op82 : ∀ (its : Nat) (x1 : Int32), its ≤ 2 → CLO L p (opc L ops vs its (wd L (bk L p)) (bk L p)) (jx_readsClause_82 n f (nI L.length) x1 0 (nI its) (nI (wd L (bk L p))) (nI (bk L p)) fn fnm fs9 fm9 fu9 (nI ops.length) (nI vs.length)) := fun its x1 hi => by
      unfold jx_readsClause_82
      rw [if_pos rfl, show (10 : Int32) = nI 10 from rfl]
      by_cases q : ops.length = 10
      · rw [if_pos (by rw [q])]
        unfold opc
        rw [if_pos q]
        exact CLO_no hw1
      · rw [if_neg (by rw [nI_inj (by omega) (by decide)]; exact q), if_pos rfl]
        exact jx127_op hn h (by omega) hw1 hi hw hO (by omega)
    by_cases cv : sli L (bk L p) (wd L (bk L p)) = wVar
    · have va82 : ∀ (x1 x3 : Int32), CLO L p (vac L ops vs (wd L (bk L p)) (bk L p)) (jx_readsClause_82 n f (nI L.length) x1 1 x3 (nI (wd L (bk L p))) (nI (bk L p)) fn fnm fs9 fm9 fu9 (nI ops.length) (nI vs.length)) := fun x1 x3 => by
        unfold jx_readsClause_82
        rw [if_neg (by decide), show (5 : Int32) = nI 5 from rfl, show (10 : Int32) = nI 10 from rfl]
        by_cases q : vs.length = 5
        · rw [if_pos (by rw [q])]
          unfold vac
          rw [if_pos q]
          exact CLO_no hw1
        · rw [if_neg (by rw [nI_inj (by omega) (by decide)]; exact q), if_neg (by decide), xl_eq, nI_add]
          exact jx127_va hn h (by omega) hw1 hw hO (by omega)
      simp only [if_pos cv]
      rw [if_neg (show ¬ (1 : Int32) = 0 by decide)]
      unfold jx_readsClause_23
      rw [if_neg (show ¬ (1 : Int32) = 0 by decide), w1', xb1_s]
      have d1 : ¬ sli L (bk L p) (wd L (bk L p)) = wFree := by rw [cv]; decide
      have d2 : ¬ sli L (bk L p) (wd L (bk L p)) = wC := by rw [cv]; decide
      have d3 : ¬ sli L (bk L p) (wd L (bk L p)) = wAc := by rw [cv]; decide
      rw [if_neg d1, if_pos rfl, w2', xb1_s, if_neg d2, if_pos rfl, w3', xb1_s, if_neg d3, if_pos rfl, if_neg (show ¬ (1 : Int32) = 0 by decide)]
      exact va82 _ _
    · simp only [if_neg cv]
      rw [if_pos trivial]
      unfold jx_readsClause_23
      rw [if_neg (show ¬ (1 : Int32) = 0 by decide), w1', xb1_s]
      by_cases c3 : sli L (bk L p) (wd L (bk L p)) = wFree
      · simp only [if_pos c3]
        rw [if_neg (show ¬ (1 : Int32) = 0 by decide), if_pos trivial]
        exact op82 0 _ (by decide)
      · simp only [if_neg c3]
        rw [if_pos trivial, w2', xb1_s]
        by_cases c4 : sli L (bk L p) (wd L (bk L p)) = wC
        · simp only [if_pos c4]
          rw [if_neg (show ¬ (1 : Int32) = 0 by decide), if_pos trivial]
          exact op82 1 _ (by decide)
        · simp only [if_neg c4]
          rw [if_pos trivial, w3', xb1_s]
          by_cases c5 : sli L (bk L p) (wd L (bk L p)) = wAc
          · simp only [if_pos c5]
            rw [if_neg (show ¬ (1 : Int32) = 0 by decide), if_pos trivial]
            exact op82 2 _ (by decide)
          · simp only [if_neg c5]
            rw [if_pos trivial, if_pos trivial]
            exact CLO_no hw1
