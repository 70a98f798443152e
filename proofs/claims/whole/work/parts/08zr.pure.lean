/-! ===== the matcher: pairs; back to the last branch ===== -/
theorem pair_pts {so ma : Nat → Nat} {un : Nat → Option Nat} {nv : Nat} {p : List Nat} (hsv : SV so un ma nv) (h : tok so un ma nv p) (h1 : kd so p = 1) : 512 ≤ hd0 p ∧ so (hd0 p / 512 - 1) = 1 ∧ ar (hd0 p) = 2 ∧ ∃ p1 p2 : List Nat, pts p = [p1, p2] := by
  unfold kd at h1
  by_cases q : hd0 p < 512
  · rw [if_pos q] at h1; omega
  · rw [if_neg q] at h1
    have ha : ar (hd0 p) = 2 := by
      rcases h.2.2 _ (hd0_mem h.1.1.1) with g | ⟨g1, g2, g3, g4⟩
      · have := hsv.1; omega
      · rw [g4 (by omega)]; exact hsv.2.1 _ h1
    have pl := pts_len h.1.1.1
    rw [ha] at pl
    refine ⟨by omega, h1, ha, ?_⟩
    match hq : pts p, pl with
    | [p1, p2], _ => exact ⟨p1, p2, rfl⟩
/-- a pair's goal has two ways -/
theorem pair_iff {so ma : Nat → Nat} {un : Nat → Option Nat} {nv : Nat} {R : GoalC} {C0 : List GoalC} {be : Nat → Option (List Nat)} {sg : Nat → List Nat} (hsv : SV so un ma nv) (hp : tok so un ma nv R.1) (ht : tok so un ma nv R.2.2) (h1 : kd so R.1 = 1) (hh : hd0 R.2.2 = hd0 R.1) : SolG so un (R :: C0) be sg ↔ ∃ wy : Nat, wy < 2 ∧ SW so un R C0 be 0 wy sg := by
  obtain ⟨p, L, t⟩ := R
  have hp : tok so un ma nv p := hp
  have ht : tok so un ma nv t := ht
  have h1 : kd so p = 1 := h1
  have hh : hd0 t = hd0 p := hh
  obtain ⟨k1, k2, k3, p1, p2, k4⟩ := pair_pts hsv hp h1
  have r := row_pts hp.1.1.1
  have ev : von so un sg p ↔ von so un sg p1 ∧ von so un sg p2 := by
    have := von_pts (so := so) (un := un) (sg := sg) (c := hd0 p) (l := (pts p).flatten) (by rw [← r]; exact hp.1.1.1) (by omega)
    rw [← r, k4] at this
    rw [this]
    exact ⟨fun h => ⟨h p1 (by simp), h p2 (by simp)⟩, fun h q hq => by
      rcases List.mem_cons.mp hq with g | g
      · rw [g]; exact h.1
      · rw [List.mem_singleton.mp g]; exact h.2⟩
  have ef : von so un sg p → (fil so un sg p = t ↔ hd0 t = hd0 p ∧ ∃ t1 t2 : List Nat, pts t = [t1, t2] ∧ ((fil so un sg p1 = t1 ∧ fil so un sg p2 = t2) ∨ (fil so un sg p1 = t2 ∧ fil so un sg p2 = t1))) := fun hv => by
    have := eq_comm2 (sg := sg) (c := hd0 p) (l := (pts p).flatten) (t := t) (p1 := p1) (p2 := p2) (SV_SU hsv) (by rw [← r]; exact hp.1.1) (by rw [← r]; exact tok_len hp) (by rw [← r]; exact hv) (by omega) k2 (by rw [← r]; exact k4) ht.1
    rw [← r] at this; exact this
  have hss : SolG so un ((p, L, t) :: C0) be sg ↔ extS be sg ∧ (von so un sg p ∧ fil so un sg p = t) ∧ ∀ z ∈ C0, gsat so un sg z := by
    unfold SolG
    rw [List.forall_mem_cons]
    have : gsat so un sg (p, L, t) ↔ von so un sg p ∧ fil so un sg p = t := by
      unfold gsat
      rw [if_neg (by show ¬ kd so p = 2; omega)]
    rw [this]
  have hsw : ∀ wy : Nat, SW so un (p, L, t) C0 be 0 wy sg ↔ extS be sg ∧ (∀ z ∈ C0, gsat so un sg z) ∧ ∃ p1 p2 t1 t2 : List Nat, pts p = [p1, p2] ∧ pts t = [t1, t2] ∧ (wy = 1 → t1 ≠ t2) ∧ von so un sg p1 ∧ von so un sg p2 ∧ ((wy = 0 ∧ fil so un sg p1 = t1 ∧ fil so un sg p2 = t2) ∨ (wy = 1 ∧ fil so un sg p1 = t2 ∧ fil so un sg p2 = t1)) := fun wy => by
    unfold SW
    rw [if_pos h1]
  rw [hss]
  constructor
  · rintro ⟨x1, ⟨x2, x3⟩, x4⟩
    obtain ⟨v1, v2⟩ := ev.mp x2
    obtain ⟨y1, t1, t2, y2, y3⟩ := (ef x2).mp x3
    rcases y3 with ⟨a, b⟩ | ⟨a, b⟩
    · exact ⟨0, by decide, (hsw 0).mpr ⟨x1, x4, p1, p2, t1, t2, k4, y2, (fun h => absurd h (by decide)), v1, v2, Or.inl ⟨rfl, a, b⟩⟩⟩
    · by_cases e : t1 = t2
      · exact ⟨0, by decide, (hsw 0).mpr ⟨x1, x4, p1, p2, t1, t2, k4, y2, (fun h => absurd h (by decide)), v1, v2, Or.inl ⟨rfl, by rw [a, e], by rw [b, e]⟩⟩⟩
      · exact ⟨1, by decide, (hsw 1).mpr ⟨x1, x4, p1, p2, t1, t2, k4, y2, fun _ => e, v1, v2, Or.inr ⟨rfl, a, b⟩⟩⟩
  · rintro ⟨wy, _, h⟩
    obtain ⟨x1, x4, q1, q2, t1, t2, e1, e2, e3, v1, v2, e4⟩ := (hsw wy).mp h
    rw [k4] at e1
    obtain ⟨f1, f2⟩ := List.cons.inj e1
    obtain ⟨f3, _⟩ := List.cons.inj f2
    subst f1
    subst f3
    have x2 := ev.mpr ⟨v1, v2⟩
    refine ⟨x1, ⟨x2, (ef x2).mpr ⟨hh, t1, t2, e2, ?_⟩⟩, x4⟩
    rcases e4 with ⟨_, a, b⟩ | ⟨_, a, b⟩
    · exact Or.inl ⟨a, b⟩
    · exact Or.inr ⟨a, b⟩
theorem fx_meetPair_c {n bk gi a b no nv hd gu nb wy : Nat} {ga u vt : Nat → Nat → Int32} {w : Nat → Nat → Int64} {las : Nat → Bool} {N : List (List Nat)} {so ma : Nat → Nat} {un : Nat → Option Nat} {nmL : Nat → List Nat} {be : Nat → Option (List Nat)} {AL : List Nat → Prop} {R : GoalC} {C0 : List GoalC} (he : ENV ga las so ma un no nv nmL) (hALp : ∀ t : List Nat, AL t → ∀ q ∈ pts t, AL q) (hT : TBK vt w las so ma un nv N) (hst : vt 0 1 = nI hd) (hB : BDG u N be) (hbk : bk < 64) (hgi : u 6 bk = nI gi) (hgi2 : gi < gu) (hgu : gu ≤ 200) (hG : u 0 2 = nI gu) (h8 : u 8 bk = nI wy) (ha : a < N.length) (ha2 : nth N a = R.1) (ea : u 1 gi = nI a) (hb9 : b < N.length) (hb2 : nth N b = R.2.2) (eb : u 3 gi = nI b) (hC0 : CHN u N C0 gi (u 4 gi)) (hgok : GOK AL so ma un nv (R :: C0)) (hk : kd so R.1 = 1) (hh : hd0 R.2.2 = hd0 R.1) (hwy : wy < 2) :
    ∃ (x' : Int32) (u' : Nat → Nat → Int32), fx_X0_meetPair n u vt (nI bk) = some (x', u') ∧ WOUT las so ma un nv AL hd u N R C0 be gu nb 0 wy (some (x', u', vt, w)) := by
  obtain ⟨p, L, t⟩ := R
  have ha2 : nth N a = p := ha2
  have hb2 : nth N b = t := hb2
  have hk : kd so p = 1 := hk
  have hh : hd0 t = hd0 p := hh
  have hsv := he.2.1
  have hs2 := fun (o : Nat) (h : so o ≠ 3) => (ENV_op he h).2.2
  have h1 := hT.1.1
  have tp : tok so un ma nv p := (hgok _ List.mem_cons_self).1
  have tt : tok so un ma nv t := (hgok _ List.mem_cons_self).2.1
  have alt : AL t := (hgok _ List.mem_cons_self).2.2.1
  have hgok0 : GOK AL so ma un nv C0 := fun q hq => hgok q (List.mem_cons_of_mem _ hq)
  obtain ⟨k1, k2, k3, p1, p2, k4⟩ := pair_pts hsv tp hk
  obtain ⟨l1, l2, l3, t1, t2, l4⟩ := pair_pts hsv tt (by unfold kd at hk ⊢; rw [hh]; exact hk)
  have part := fun (j : Nat) (hj : j < 2) => fx_partOf_c (n := n) hT.1 ha (j := j) (by rw [ha2, k3]; exact hj)
  have tart := fun (j : Nat) (hj : j < 2) => fx_partOf_c (n := n) hT.1 hb9 (j := j) (by rw [hb2, l3]; exact hj)
  have swE : ∀ sg : Nat → List Nat, SW so un (p, L, t) C0 be 0 wy sg ↔ extS be sg ∧ (∀ z ∈ C0, gsat so un sg z) ∧ (wy = 1 → t1 ≠ t2) ∧ von so un sg p1 ∧ von so un sg p2 ∧ ((wy = 0 ∧ fil so un sg p1 = t1 ∧ fil so un sg p2 = t2) ∨ (wy = 1 ∧ fil so un sg p1 = t2 ∧ fil so un sg p2 = t1)) := fun sg => by
    unfold SW
    rw [if_pos (show kd so (p, L, t).1 = 1 from hk)]
    constructor
    · rintro ⟨x1, x2, q1, q2, s1, s2, e1, e2, e3⟩
      have e1 : pts p = [q1, q2] := e1
      have e2 : pts t = [s1, s2] := e2
      rw [k4] at e1
      rw [l4] at e2
      obtain ⟨f1, f2⟩ := List.cons.inj e1
      obtain ⟨f3, _⟩ := List.cons.inj f2
      obtain ⟨g1, g2⟩ := List.cons.inj e2
      obtain ⟨g3, _⟩ := List.cons.inj g2
      subst f1; subst f3; subst g1; subst g3
      exact ⟨x1, x2, e3⟩
    · rintro ⟨x1, x2, e3⟩
      exact ⟨x1, x2, p1, p2, t1, t2, k4, l4, e3⟩
  have st : fx_X0_meetPair n u vt (nI bk) = jx_X0_meetPair_20 n vt (nI bk) (nI gi) u := by
    unfold fx_X0_meetPair
    rw [if_neg (by rw [show (0 : Int32) = nI 0 from rfl, nI_lt_iff (by omega) (by decide)]; omega), if_neg (by rw [show (64 : Int32) = nI 64 from rfl, nI_le_iff (by decide) (by omega)]; omega), xr_n hbk (by decide), hgi]
  obtain ⟨a1, a2, a3, a4⟩ := part 0 (by decide)
  obtain ⟨b1, b2, b3, b4⟩ := part 1 (by decide)
  obtain ⟨c1, c2, c3, c4⟩ := tart 0 (by decide)
  obtain ⟨d1, d2, d3, d4⟩ := tart 1 (by decide)
  rw [ha2, k4] at a3 b3
  rw [hb2, l4] at c3 d3
  have a3 : nth N a1 = p1 := a3
  have b3 : nth N b1 = p2 := b3
  have c3 : nth N c1 = t1 := c3
  have d3 : nth N d1 = t2 := d3
  have m1 : p1 ∈ pts p := by rw [k4]; simp
  have m2 : p2 ∈ pts p := by rw [k4]; simp
  have n1 : t1 ∈ pts t := by rw [l4]; simp
  have n2 : t2 ∈ pts t := by rw [l4]; simp
  have tp1 := tok_pts tp p1 m1
  have tp2 := tok_pts tp p2 m2
  have tt1 := tok_pts tt t1 n1
  have tt2 := tok_pts tt t2 n2
  have six := fun {q : List Nat} (tq : tok so un ma nv q) => show (pts q).length ≤ 6 by rw [pts_len tq.1.1.1]; exact (tok_ar hsv hs2 tq _ (hd0_mem tq.1.1.1)).1
  have gkq : ∀ {q s : List Nat}, tok so un ma nv q → tok so un ma nv s → AL s → (tok so un ma nv q ∧ tok so un ma nv s ∧ AL s ∧ (kd so q = 2 → sl 63 (pts q) ≠ [])) := fun {q s} tq ts as => ⟨tq, ts, as, fun k2 => by
    rw [sl63 (six tq)]
    intro e
    have h1 := pts_len tq.1.1.1
    have h2 := (sum_ar tq k2).2.2.1
    rw [e] at h1
    simp only [List.length_nil] at h1
    omega⟩
  have sgq : ∀ {q s : List Nat}, tok so un ma nv q → sgm so (q, 63, s) = q.length - 1 := fun {q s} tq => by
    unfold sgm
    by_cases z : kd so q = 2
    · rw [if_pos z]
      show (sl 63 (pts q)).flatten.length = _
      rw [sl63 (six tq)]
      have := congrArg List.length (row_pts tq.1.1.1)
      rw [List.length_cons] at this
      omega
    · rw [if_neg z]
  have sgR : sgm so (p, L, t) = p1.length + p2.length := by
    unfold sgm
    rw [if_neg (by show ¬ kd so p = 2; omega)]
    have := congrArg List.length (row_pts tp.1.1.1)
    rw [List.length_cons, k4] at this
    simp only [List.flatten_cons, List.flatten_nil, List.append_nil, List.length_append] at this
    show p.length - 1 = _
    omega
  have hp1 := wf_pos tp1.1.1.1
  have hp2 := wf_pos tp2.1.1.1
  -- two goals
  have two : ∀ (s1 s2 : List Nat) (y1 y2 : Nat), y1 < N.length → nth N y1 = s1 → y2 < N.length → nth N y2 = s2 → tok so un ma nv s1 → tok so un ma nv s2 → AL s1 → AL s2 → WAY so un (p, L, t) C0 be 0 wy ((p1, 63, s1) :: (p2, 63, s2) :: C0) be →
      (∀ sg : Nat → List Nat, SW so un (p, L, t) C0 be 0 wy sg ↔ extS be sg ∧ (∀ z ∈ C0, gsat so un sg z) ∧ (von so un sg p1 ∧ fil so un sg p1 = s1) ∧ von so un sg p2 ∧ fil so un sg p2 = s2) →
      ∃ (x' : Int32) (u' : Nat → Nat → Int32), jx_X0_meetPair_99 n vt (nI bk) (nI gi) (nI wy) (nI a) (nI y1) (nI y2) u = some (x', u') ∧ WOUT las so ma un nv AL hd u N (p, L, t) C0 be gu nb 0 wy (some (x', u', vt, w)) := fun s1 s2 y1 y2 hy1 e1 hy2 e2 ts1 ts2 as1 as2 hway heq => by
    obtain ⟨u1, g1, g2, g3, g4⟩ := fx_addGoal_c (n := n) (L := 63) hG (by omega) h1 (show b1 < N.length by omega) b3 hy2 e2 (by decide) (CHN_top hC0 (show gi ≤ gu by omega))
    obtain ⟨u2, q1, q2, q3, q4⟩ := fx_addGoal_c (n := n) (L := 63) g2 (by omega) h1 (show a1 < N.length by omega) a3 hy1 e1 (by decide) g3
    refine ⟨nI (gu + 1), u2, ?_, nI (gu + 1), u2, vt, w, [], rfl, by rw [List.append_nil]; exact hT, hst, fun e h => absurd h List.not_mem_nil, FRM.trans (FRM_go g4) (FRM_go ⟨fun z h1 h4 j hj => q4.1 z h1 h4 j (by omega), q4.2⟩), by rw [q4.2.2 3 (by decide), g4.2.2 3 (by decide)], Or.inl ⟨(p1, 63, s1) :: (p2, 63, s2) :: C0, be, gu + 1 + 1, hway, by rw [List.append_nil]; exact q3, q2, by omega, by rw [List.append_nil]; exact BDG_frame hB (by rw [q4.2.2 4 (by decide), g4.2.2 4 (by decide)]) (by rw [q4.2.1 5 (by decide), g4.2.1 5 (by decide)]), fun _ _ _ => rfl, fun z hz => ?_, ?_, ?_, fun sg => ?_⟩⟩
    · unfold jx_X0_meetPair_99
      have b4' : fx_X8_partOf n vt (nI a) 1 = some (nI b1) := b4
      have a4' : fx_X8_partOf n vt (nI a) 0 = some (nI a1) := a4
      have g1' : fx_X0_addGoal n u (nI b1) 63 (nI y2) (u 4 gi) = some (nI gu, u1) := g1
      have q1' : fx_X0_addGoal n u1 (nI a1) 63 (nI y1) (nI gu) = some (nI (gu + 1), u2) := q1
      rw [b4', xb1_s, xr_n (by omega) (by decide), g1', xb2_s, a4', xb1_s, q1', xb2_s]
    · rcases List.mem_cons.mp hz with h | h
      · rw [h]; exact gkq tp1 ts1 as1
      · rcases List.mem_cons.mp h with h | h
        · rw [h]; exact gkq tp2 ts2 as2
        · exact hgok0 z h
    · show gu + 1 + 1 + (4 * sgm so (p1, 63, s1) + 1 + (4 * sgm so (p2, 63, s2) + 1 + pot so C0)) + 1 ≤ gu + (4 * sgm so (p, L, t) + 1 + pot so C0)
      rw [sgq tp1, sgq tp2, sgR]; omega
    · show sgm so (p1, 63, s1) + (sgm so (p2, 63, s2) + sgC so C0) + 1 ≤ sgm so (p, L, t) + sgC so C0
      rw [sgq tp1, sgq tp2, sgR]; omega
    · rw [heq]
      unfold SolG
      rw [List.forall_mem_cons, List.forall_mem_cons, gsat_whole (six tp1) tp1, gsat_whole (six tp2) tp2]
      exact ⟨fun ⟨x1, x2, x3, x4⟩ => ⟨x1, x3, x4, x2⟩, fun ⟨x1, x3, x4, x2⟩ => ⟨x1, x2, x3, x4⟩⟩
  rw [st]
  unfold jx_X0_meetPair_20
  rw [if_neg (by rw [show (0 : Int32) = nI 0 from rfl, nI_lt_iff (by omega) (by decide)]; omega), if_pos (by rw [show (256 : Int32) = nI 256 from rfl, nI_lt_iff (by omega) (by decide)]; omega), xr_n hbk (by decide), xr_n (by omega) (by decide), xr_n (by omega) (by decide), h8, ea, eb]
  have hw2 : wy = 0 ∨ wy = 1 := by omega
  rcases hw2 with rfl | rfl
  · rw [c4, xb1_s, xr_n (by omega) (by decide), eb, xl_eq]
    have d4' : fx_X8_partOf n vt (nI b) ((1 : Int32) - nI 0) = some (nI d1) := d4
    rw [d4', xb1_s, if_neg (by decide)]
    refine two t1 t2 c1 d1 (by omega) c3 (by omega) d3 tt1 tt2 (hALp t alt t1 n1) (hALp t alt t2 n2) (Or.inl ⟨hk, rfl, p1, p2, t1, t2, k4, l4, by rw [if_pos rfl]⟩) (fun sg => ?_)
    rw [swE]
    constructor
    · rintro ⟨x1, x2, x3, x4, x5, x6⟩
      rcases x6 with ⟨_, a, b⟩ | ⟨z, _⟩
      · exact ⟨x1, x2, ⟨x4, a⟩, x5, b⟩
      · exact absurd z (by decide)
    · rintro ⟨x1, x2, ⟨x4, a⟩, x5, b⟩
      exact ⟨x1, x2, fun h => absurd h (by decide), x4, x5, Or.inl ⟨rfl, a, b⟩⟩
  · rw [d4, xb1_s, xr_n (by omega) (by decide), eb, xl_eq]
    have c4' : fx_X8_partOf n vt (nI b) ((1 : Int32) - nI 1) = some (nI c1) := c4
    rw [c4', xb1_s, if_pos (by decide)]
    by_cases e : d1 = c1
    · rw [if_pos (by rw [e])]
      have e12 : t1 = t2 := by rw [← c3, ← d3, e]
      exact ⟨-2, u, rfl, -2, u, vt, w, [], rfl, by rw [List.append_nil]; exact hT, hst, fun e h => absurd h List.not_mem_nil, FRM.refl, rfl, Or.inr ⟨rfl, fun sg hs => by
        rw [swE] at hs
        exact hs.2.2.1 rfl e12⟩⟩
    · rw [if_neg (by rw [nI_inj (by omega) (by omega)]; exact e)]
      have e12 : t1 ≠ t2 := fun h => e (nth_inj hT.1.2.2.1 (by omega) (by omega) (by rw [d3, c3, h]))
      refine two t2 t1 d1 c1 (by omega) d3 (by omega) c3 tt2 tt1 (hALp t alt t2 n2) (hALp t alt t1 n1) (Or.inl ⟨hk, rfl, p1, p2, t1, t2, k4, l4, by rw [if_neg (by decide)]⟩) (fun sg => ?_)
      rw [swE]
      constructor
      · rintro ⟨x1, x2, x3, x4, x5, x6⟩
        rcases x6 with ⟨z, _⟩ | ⟨_, a, b⟩
        · exact absurd z (by decide)
        · exact ⟨x1, x2, ⟨x4, a⟩, x5, b⟩
      · rintro ⟨x1, x2, ⟨x4, a⟩, x5, b⟩
        exact ⟨x1, x2, fun _ => e12, x4, x5, Or.inr ⟨rfl, a, b⟩⟩
theorem fx_hasWay_c {n bk k lim gu : Nat} {u : Nat → Nat → Int32} {mask : Int32} (h3 : u 0 3 = nI (bk + 1)) (hbk : bk < 64) (h8 : u 8 bk = nI k - 1) (hk : k ≤ 1000) (h9 : u 9 bk = nI lim) (hl : lim ≤ 1000) (h10 : u 10 bk = mask) (h11 : u 11 bk = nI gu) :
    ∃ u' : Nat → Nat → Int32, fx_X0_hasWay n u = some (if k < lim then 1 else 0, u') ∧ u' 0 3 = nI (if k < lim then bk + 1 else bk) ∧ u' 0 4 = mask ∧ u' 0 2 = nI gu ∧ u' 8 bk = nI k ∧ (∀ a : Nat, a ≠ 0 → a ≠ 8 → u' a = u a) ∧ (∀ i : Nat, i ≠ bk → u' 8 i = u 8 i) ∧ ∀ j : Nat, j ≠ 2 → j ≠ 3 → j ≠ 4 → u' 0 j = u 0 j := by
  have ek : nI k - 1 + 1 = nI k := by
    rw [Int32.sub_eq_add_neg, Int32.add_assoc, show (-1 : Int32) + 1 = 0 from rfl, Int32.add_zero]
  unfold fx_X0_hasWay
  rw [h3, xl_eq, i1, nI_sub (by omega), show bk + 1 - 1 = bk by omega, ← i1, if_neg (by rw [show (0 : Int32) = nI 0 from rfl, nI_lt_iff (by omega) (by decide)]; omega), if_pos (by rw [show (64 : Int32) = nI 64 from rfl, nI_lt_iff (by omega) (by decide)]; exact hbk), xr_n hbk (by decide), h10, xl_eq, xr_n hbk (by decide), mu_ne (by decide), h11, xl_eq, xr_n hbk (by decide), mu_ne (by decide), mu_ne (by decide), h8, xl_eq, ek, xwp_n hbk (by decide), xr_n hbk (by decide), mu_eq, upd_eq, xr_n hbk (by decide), mu_ne (by decide), mu_ne (by decide), mu_ne (by decide), h9]
  by_cases q : k < lim
  · rw [if_neg (by rw [nI_le_iff (by omega) (by omega)]; omega), if_pos q, if_pos q]
    refine ⟨_, rfl, ?_, ?_, ?_, ?_, fun a a0 a8 => ?_, fun i hi => ?_, fun j j2 j3 j4 => ?_⟩
    · rw [mu_ne (by decide), mu_eq, upd_ne (by decide), mu_eq, upd_ne (by decide)]; exact h3
    · rw [mu_ne (by decide), mu_eq, upd_ne (by decide), mu_eq, upd_eq]
    · rw [mu_ne (by decide), mu_eq, upd_eq]
    · rw [mu_eq, upd_eq]
    · rw [mu_ne a8, mu_ne a0, mu_ne a0]
    · rw [mu_eq, upd_ne hi, mu_ne (by decide), mu_ne (by decide)]
    · rw [mu_ne (by decide), mu_eq, upd_ne j2, mu_eq, upd_ne j4]
  · rw [if_pos (by rw [nI_le_iff (by omega) (by omega)]; omega), if_neg q, if_neg q, mu_ne (by decide), mu_eq, upd_ne (by decide), mu_eq, upd_ne (by decide), h3, xl_eq, i1, nI_sub (by omega), show bk + 1 - 1 = bk by omega, xl_eq]
    refine ⟨_, rfl, ?_, ?_, ?_, ?_, fun a a0 a8 => ?_, fun i hi => ?_, fun j j2 j3 j4 => ?_⟩
    · rw [mu_eq, upd_eq]
    · rw [mu_eq, upd_ne (by decide), mu_ne (by decide), mu_eq, upd_ne (by decide), mu_eq, upd_eq]
    · rw [mu_eq, upd_ne (by decide), mu_ne (by decide), mu_eq, upd_eq]
    · rw [mu_ne (by decide), mu_eq, upd_eq]
    · rw [mu_ne a0, mu_ne a8, mu_ne a0, mu_ne a0]
    · rw [mu_ne (by decide), mu_eq, upd_ne hi, mu_ne (by decide), mu_ne (by decide)]
    · rw [mu_eq, upd_ne j3, mu_ne (by decide), mu_eq, upd_ne j2, mu_eq, upd_ne j4]
theorem fx_lastIsPair_c {n bk gi a no nv : Nat} {ga u vt : Nat → Nat → Int32} {w : Nat → Nat → Int64} {las : Nat → Bool} {N : List (List Nat)} {so ma : Nat → Nat} {un : Nat → Option Nat} {nmL : Nat → List Nat} (he : ENV ga las so ma un no nv nmL) (hT : TBK vt w las so ma un nv N) (h3 : u 0 3 = nI (bk + 1)) (hbk : bk < 64) (hgi : u 6 bk = nI gi) (hgi2 : gi < 256) (ha : a < N.length) (ea : u 1 gi = nI a) :
    fx_X0_lastIsPair n u vt ga = some (if kd so (nth N a) = 1 then 1 else 0) := by
  have ka := fx_kindAt_c (n := n) he hT ha
  have tp := hT.2 _ (nth_mem ha)
  have hkle : kd so (nth N a) ≤ 2 := by
    unfold kd
    split
    · omega
    · exact (ENV_op he (tp.1.1.2.2 _ (hd0_mem tp.1.1.1) (by omega)).1).2.2
  unfold fx_X0_lastIsPair
  rw [h3, xl_eq, i1, nI_sub (by omega), show bk + 1 - 1 = bk by omega, if_neg (by rw [show (0 : Int32) = nI 0 from rfl, nI_lt_iff (by omega) (by decide)]; omega), if_neg (by rw [show (64 : Int32) = nI 64 from rfl, nI_le_iff (by decide) (by omega)]; omega), xr_n hbk (by decide), hgi]
  unfold jx_X0_lastIsPair_27
  rw [if_neg (by rw [show (0 : Int32) = nI 0 from rfl, nI_lt_iff (by omega) (by decide)]; omega), if_neg (by rw [show (256 : Int32) = nI 256 from rfl, nI_le_iff (by decide) (by omega)]; omega), xr_n hgi2 (by decide), ea, ka, xb1_s]
  by_cases q : kd so (nth N a) = 1
  · rw [if_pos (by rw [q]; rfl), if_pos q]; rfl
  · rw [if_neg (by rw [show (1 : Int32) = nI 1 from rfl, nI_inj (by omega) (by decide)]; exact q), if_neg q]
