/-! ===== the matcher: a goal that is no sum ===== -/
theorem von_congr {so : Nat → Nat} {un : Nat → Option Nat} {s1 s2 : Nat → List Nat} {p : List Nat} (h : ∀ c ∈ p, c < 512 → s1 c = s2 c) (hv : von so un s1 p) : von so un s2 p := fun c hc h5 => by
  rw [← h c hc h5]; exact hv c hc h5
theorem take_app {N E : List (List Nat)} : (N ++ E).take N.length = N := by simp
/-- a ground pattern's node, then given back -/
theorem put_back {n a no nv hd : Nat} {ga u vt : Nat → Nat → Int32} {w : Nat → Nat → Int64} {las : Nat → Bool} {N : List (List Nat)} {so ma : Nat → Nat} {un : Nat → Option Nat} {nmL : Nat → List Nat} {be : Nat → Option (List Nat)} (hn : 100000 ≤ n) (he : ENV ga las so ma un no nv nmL) (hT : TBK vt w las so ma un nv N) (hst : vt 0 1 = nI hd) (hhd : hd ≤ 80) (hN : N.length + 30 ≤ 1024) (hB : BDG u N be) (ha : a < N.length) (hg : ∀ c ∈ nth N a, c < 512 → be c ≠ none) :
    ∃ (r : Int32) (v1 : Nat → Nat → Int32) (w1 : Nat → Nat → Int64) (E : List (List Nat)), fx_X8_put 23 n vt w ga 5 (u 5) (nI a) 0 0 = some (r, v1, w1) ∧ TBK v1 w1 las so ma un nv (N ++ E) ∧ VAL (N ++ E) so r (fil so un (sgB be) (nth N a)) ∧ von so un (sgB be) (nth N a) ∧ sS so ma nv (fil so un (sgB be) (nth N a)) ∧
      (∃ v2 : Nat → Nat → Int32, fx_X8_giveBack n v1 (vt 0 0) = some v2 ∧ TBK v2 w1 las so ma un nv N ∧ v2 0 1 = nI hd) := by
  have tk := hT.2 _ (nth_mem ha)
  have h20 := tok_len tk
  have hcol := tk.1.1.2.1
  have bn := BNC_of hB hcol hg
  obtain ⟨r, v1, w1, E, y1, y2, y3, y4, y5, y6⟩ := fx_put8_c (sg := sgB be) (b := 0) (fb := u 5) (bn := 5) (n := n) hn he (by decide) 23 a 0 hd N vt w ha (by omega) (by omega) hst (by omega) (by omega) hT bn
  obtain ⟨v2, z1, z2, z3, z4⟩ := fx_giveBack_c (n := n) (f0 := N.length) hn y2.1 (by rw [List.length_append]; omega)
  rw [take_app] at z2
  obtain ⟨hv1, hv2⟩ := tok_von (sg := sgB be) he.2.1.1 hT.2 tk.2.2 bn
  refine ⟨r, v1, w1, E, y1, y2, y3, hv1, filT_S he.2.1 21 (nth N a) tk.1.1 (by omega) (by omega) (von_vok hv1) tk.2.2 hv2, v2, ?_, ⟨z2, hT.2⟩, by rw [z4 1 (by decide), y5]⟩
  rw [hT.1.2.1]
  exact z1
theorem fx_meetPlain_c {n i a b wp wt no nv hd G nb : Nat} {ga u vt : Nat → Nat → Int32} {w : Nat → Nat → Int64} {las : Nat → Bool} {N : List (List Nat)} {so ma : Nat → Nat} {un : Nat → Option Nat} {nmL : Nat → List Nat} {be : Nat → Option (List Nat)} {AL : List Nat → Prop} {g : GoalC} {C0 : List GoalC} (hn : 100000 ≤ n) (he : ENV ga las so ma un no nv nmL) (hALp : ∀ t : List Nat, AL t → ∀ q ∈ pts t, AL q) (hT : TBK vt w las so ma un nv N) (hst : vt 0 1 = nI hd) (hhd : hd ≤ 80) (hN : N.length + 30 ≤ 1024) (hB : BDG u N be) (hi : i < G) (hG2 : G ≤ 200) (hG : u 0 2 = nI G) (ha : a < N.length) (ha2 : nth N a = g.1) (ea : u 1 i = nI a) (hb9 : b < N.length) (hb2 : nth N b = g.2.2) (eb : u 3 i = nI b) (hL : u 2 i = nI g.2.1 ∧ g.2.1 < 64) (hC0 : CHN u N C0 i (u 4 i)) (hgok : GOK AL so ma un nv (g :: C0)) (h3 : u 0 3 = nI nb) (hnb : nb < 64) (hk : kd so g.1 ≠ 2) (h63 : g.2.1 = 63) (hw0 : u 0 0 = nI wp) (hwp : wp < N.length) (hw1 : u 0 1 = nI wt) (hwt : wt < N.length) (hsnd : ∀ sg : Nat → List Nat, SolG so un (g :: C0) be sg → von so un sg (nth N wp) ∧ fil so un sg (nth N wp) = nth N wt) :
    OUTC las so ma un nv AL (nth N wp) hd u N (g :: C0) be G nb (fx_X0_meetPlain n u vt w ga (nI i)) := by
  have hsv := he.2.1
  have hs2 := fun (o : Nat) (h : so o ≠ 3) => (ENV_op he h).2.2
  have h1 := hT.1.1
  have tp := (hgok g List.mem_cons_self).1
  have tt := (hgok g List.mem_cons_self).2.1
  have alt := (hgok g List.mem_cons_self).2.2.1
  have hgok0 : GOK AL so ma un nv C0 := fun q hq => hgok q (List.mem_cons_of_mem _ hq)
  have nda := (TB_get hT.1 ha).1
  have hcp := nda.2.1 _ (hd0_mem nda.1)
  have cl := cc_lt hcp
  rw [ha2] at hcp cl
  have hcol := tp.1.1.2.1
  have h20 := tok_len tp
  have gc := ground_c (p := g.1) hB hcol
  have h6 : (pts g.1).length ≤ 6 := by rw [pts_len tp.1.1.1]; exact (tok_ar hsv hs2 tp _ (hd0_mem tp.1.1.1)).1
  have gs : ∀ sg : Nat → List Nat, gsat so un sg g ↔ von so un sg g.1 ∧ fil so un sg g.1 = g.2.2 := fun sg => by
    unfold gsat; rw [if_neg hk]
  have solC : ∀ sg : Nat → List Nat, SolG so un (g :: C0) be sg ↔ extS be sg ∧ (von so un sg g.1 ∧ fil so un sg g.1 = g.2.2) ∧ ∀ q ∈ C0, gsat so un sg q := fun sg => by
    unfold SolG
    rw [List.forall_mem_cons, gs]
  have potC : pot so (g :: C0) = 4 * sgm so g + 1 + pot so C0 := rfl
  have sgCC : sgC so (g :: C0) = sgm so g + sgC so C0 := rfl
  unfold fx_X0_meetPlain
  rw [if_neg (by rw [show (0 : Int32) = nI 0 from rfl, nI_lt_iff (by omega) (by decide)]; omega), if_pos (by rw [show (256 : Int32) = nI 256 from rfl, nI_lt_iff (by omega) (by decide)]; omega), xr_n (by omega) (by decide), xr_n (by omega) (by decide), ea, eb, fx_codeOf_c hT.1 ha, xb1_s, fx_maskOf_c hT.1 ha, xb1_s, xl_eq, xl_eq, ha2]
  by_cases q : ∀ c ∈ g.1, c < 512 → be c ≠ none
  · -- ground
    rw [if_pos (gc.mpr q)]
    obtain ⟨r, v1, w1, E, y1, y2, y3, y4, y5, v2, z1, z2, z3⟩ := put_back (n := n) hn he hT hst hhd hN hB ha (by rw [ha2]; exact q)
    rw [ha2] at y3 y4
    rw [y1, xb3_s]
    have same : ∀ sg : Nat → List Nat, extS be sg → (von so un sg g.1 ∧ (fil so un sg g.1 = g.2.2 ↔ fil so un (sgB be) g.1 = g.2.2)) := fun sg hx => by
      have e := extS_sgB hx hcol q
      refine ⟨von_congr (fun c hc h5 => (e c hc h5).symm) y4, ?_⟩
      rw [fil_congr tp.1.1.1 h20 e]
    have ef : (r = nI b) ↔ fil so un (sgB be) g.1 = g.2.2 := by
      rcases y3 with ⟨k1, k2⟩ | ⟨k1, i', k2, k3, k4⟩
      · rw [k2]
        refine ⟨fun z => absurd z.symm (nI_m1 (by omega)), fun z => ?_⟩
        rw [z, tt.2.1] at k1; exact nomatch k1
      · rw [k4, nI_inj (by have := y2.1.1; omega) (by omega), ← k3]
        constructor
        · intro z
          rw [z, (nth_pre hb9).2, hb2]
        · intro z
          refine nth_inj y2.1.2.2.1 k2 (nth_pre hb9).1 ?_
          rw [z, (nth_pre hb9).2, hb2]
    by_cases k : r = nI b
    · rw [if_pos k]
      unfold jx_X0_meetPlain_88
      rw [z1, xb1_s, if_neg (by decide), xr_n (by omega) (by decide)]
      refine ⟨u 4 i, u, v2, w1, [], rfl, by rw [List.append_nil]; exact z2, z3, fun e h => absurd h List.not_mem_nil, FRM.refl, Or.inl ⟨rfl, C0, be, G, Or.inl ⟨rfl, rfl, q⟩, by rw [List.append_nil]; exact CHN_top hC0 (by omega), hG, Nat.le_refl _, by rw [List.append_nil]; exact hB, fun _ _ _ => rfl, hgok0, by omega, by omega, fun sg => ?_⟩⟩
      rw [solC]
      constructor
      · rintro ⟨x1, x2, x3⟩; exact ⟨x1, x3⟩
      · rintro ⟨x1, x3⟩
        obtain ⟨s1, s2⟩ := same sg x1
        exact ⟨x1, ⟨s1, s2.mpr (ef.mp k)⟩, x3⟩
    · rw [if_neg k]
      unfold jx_X0_meetPlain_88
      rw [z1, xb1_s, if_pos rfl]
      refine ⟨-2, u, v2, w1, [], rfl, by rw [List.append_nil]; exact z2, z3, fun e h => absurd h List.not_mem_nil, FRM.refl, Or.inr (Or.inl ⟨rfl, rfl, fun sg hs => ?_⟩)⟩
      rw [solC] at hs
      exact k (ef.mpr ((same sg hs.1).2.mp hs.2.1.2))
  · rw [if_neg (fun z => q (gc.mp z))]
    have r := row_pts tp.1.1.1
    by_cases q5 : hd0 g.1 < 512
    · -- a variable
      have hleaf : g.1 = [hd0 g.1] := by
        have hl : (pts g.1).flatten = [] := leaf_row (so := so) (by rw [← r]; exact tp.1.1) (by unfold ar; rw [if_pos q5])
        rw [hl] at r; exact r
      have hc5 : hd0 g.1 < 5 := by rcases hcol _ (hd0_mem tp.1.1.1) with z | z <;> omega
      have hbn : be (hd0 g.1) = none := by
        apply Classical.byContradiction
        intro z
        refine q (fun c hc h5 => ?_)
        rw [hleaf] at hc
        rw [List.mem_singleton.mp hc]; exact z
      rw [if_neg (fun z => (le8 hcp).mp z q5), cc_v q5]
      obtain ⟨u1, y1, y2, y3, y4, y5⟩ := fx_bind_c (n := n) hB hc5 hb9 hb2
      obtain ⟨rf, f1, f2, f3⟩ := fx_fits_c (n := n) hn he hT y2 hwp hwt
      rw [y1, xb1_s, y4 0 (by decide), y4 1 (by decide), hw0, hw1, f1, xb1_s]
      have frm : FRM u u1 G be nb := ⟨fun z h1 h4 j _ => by rw [y3 z (by omega) (by omega)], fun v hv hb9 => y5 v (fun e => by rw [e] at hb9; exact hb9 hbn), fun z h6 _ j _ => by rw [y3 z (by omega) (by omega)], ⟨y3 12 (by decide) (by decide), y3 13 (by decide) (by decide)⟩, y4 0 (by decide), y4 1 (by decide), y4 5 (by decide)⟩
      have eqv : ∀ sg : Nat → List Nat, SolG so un (g :: C0) be sg ↔ SolG so un C0 (bup be (hd0 g.1) g.2.2) sg := fun sg => by
        rw [solC]
        have ev : fil so un sg g.1 = sg (hd0 g.1) := by rw [hleaf]; exact fil_var q5
        rw [ev]
        constructor
        · rintro ⟨x1, ⟨x2, x3⟩, x4⟩
          refine ⟨fun v hv r' hr' => ?_, x4⟩
          by_cases z : v = hd0 g.1
          · rw [z, bup_eq] at hr'
            rw [z, x3, Option.some.inj hr']
          · rw [bup_ne z] at hr'
            exact x1 v hv r' hr'
        · rintro ⟨x1, x4⟩
          have x3 : sg (hd0 g.1) = g.2.2 := x1 _ hc5 _ bup_eq
          refine ⟨fun v hv r' hr' => ?_, ⟨fun c hc h5 => ?_, x3⟩, x4⟩
          · have z : v ≠ hd0 g.1 := fun e => by rw [e, hbn] at hr'; exact nomatch hr'
            exact x1 v hv r' (by rw [bup_ne z]; exact hr')
          · rw [hleaf] at hc
            rw [List.mem_singleton.mp hc, x3]
            exact ⟨tt.1, tok_len tt⟩
      by_cases k : rf = 0
      · rw [if_pos k]
        refine ⟨-2, u1, vt, w, [], rfl, by rw [List.append_nil]; exact hT, hst, fun e h => absurd h List.not_mem_nil, frm, Or.inr (Or.inl ⟨y4 3 (by decide), rfl, fun sg hs => ?_⟩)⟩
        have h9 := hsnd sg hs
        have := f3 ⟨sg, ((eqv sg).mp hs).1, h9⟩
        rw [k] at this; exact absurd this (by decide)
      · rw [if_neg k, xr_n (by omega) (by decide), y3 4 (by decide) (by decide)]
        refine ⟨u 4 i, u1, vt, w, [], rfl, by rw [List.append_nil]; exact hT, hst, fun e h => absurd h List.not_mem_nil, frm, Or.inl ⟨y4 3 (by decide), C0, bup be (hd0 g.1) g.2.2, G, Or.inr (Or.inl ⟨hd0 g.1, hleaf, hc5, hbn, rfl, rfl⟩), ?_, by rw [y4 2 (by decide)]; exact hG, Nat.le_refl _, by rw [List.append_nil]; exact y2, fun v hv hne => bup_ne (fun e => by rw [e] at hne; exact hne hbn), hgok0, by omega, by omega, eqv⟩⟩
        rw [List.append_nil]
        exact CHN_top (CHN_frame (fun z h1 h4 j _ => by rw [y3 z (by omega) (by omega)]) hC0) (by omega)
    · -- an operator
      have wt9 := tt.1.1.1
      have ndb := (TB_get hT.1 hb9).1
      have hct := ndb.2.1 _ (hd0_mem ndb.1)
      rw [hb2] at hct
      have clt := cc_lt hct
      have cob := fx_codeOf_c (n := n) hT.1 hb9
      rw [hb2] at cob
      rw [if_pos ((le8 hcp).mpr q5), cob, xb1_s]
      by_cases qh : hd0 g.2.2 = hd0 g.1
      · rw [if_pos (by rw [qh])]
        have ka := fx_kindAt_c (n := n) he hT ha
        rw [ha2] at ka
        have hkle : kd so g.1 ≤ 2 := by
          unfold kd; rw [if_neg q5]
          exact hs2 _ (tp.1.1.2.2 _ (hd0_mem tp.1.1.1) (by omega)).1
        rw [ka, xb1_s]
        by_cases k1 : kd so g.1 = 1
        · rw [if_pos (by rw [k1]; rfl)]
          have hch : CHN u N (g :: C0) G (nI i) := ⟨i, hi, rfl, ⟨a, ha, ha2, ea⟩, hL, ⟨b, hb9, hb2, eb⟩, hC0⟩
          obtain ⟨u1, y1, y2, y3, y4, y5, y6, y7⟩ := fx_addBranch_c (n := n) (bp := 0) (lim := 2) h3 hnb (show i < 256 by omega) hG hch
          have y1' : fx_X0_addBranch n u (nI i) 0 2 = some u1 := y1
          rw [y1', xb1_s]
          have frm : FRM u u1 G be nb := ⟨fun z h1 h4 j _ => by rw [y3 z (by omega) (by omega)], fun v _ _ => by rw [y3 5 (by decide) (by decide)], fun z h6 h11 j hj => y5 z h6 h11 j hj, ⟨y4 12 (by decide), y4 13 (by decide)⟩, y6 0 (by decide), y6 1 (by decide), y6 5 (by decide)⟩
          refine ⟨-2, u1, vt, w, [], rfl, by rw [List.append_nil]; exact hT, hst, fun e h => absurd h List.not_mem_nil, frm, Or.inr (Or.inr ⟨y7, rfl, g, C0, 0, 2, G, ⟨rfl, Or.inl ⟨k1, rfl, rfl, rfl, qh⟩⟩, by rw [List.append_nil]; exact y2, Nat.le_refl _, by rw [List.append_nil]; exact BDG_frame hB (y6 4 (by decide)) (y3 5 (by decide) (by decide)), hgok, by omega, by omega, fun sg => Iff.rfl⟩)⟩
        · rw [if_neg (by rw [show (1 : Int32) = nI 1 from rfl, nI_inj (by omega) (by decide)]; exact k1)]
          have k0 : kd so g.1 = 0 := by omega
          obtain ⟨G', x', u', D, y1, y2, y3, y4, y5, y6⟩ := fx_meetParts_c (n := n) (i := i) hn he hT ha hb9 (by rw [ha2, hb2, qh]) (by omega) ea eb hG hG2 (CHN_top hC0 (by omega))
          rw [ha2, hb2] at y2
          rw [y1, xb2_s]
          have pl : (pts g.1).length = (pts g.2.2).length := by rw [pts_len tp.1.1.1, pts_len wt9, qh]
          have zs := zg_sum hsv hs2 pl (tok_pts tp)
          have zl := zg_len pl
          have dl := y2.length_eq
          have ds := sgC_perm (so := so) y2
          have rl := congrArg List.length r
          rw [List.length_cons] at rl
          have sg9 : sgm so g = g.1.length - 1 := by unfold sgm; rw [if_neg hk]
          have zmem : ∀ z ∈ D, z ∈ zg (pts g.1) (pts g.2.2) := fun z hz => y2.mem_iff.mp hz
          have gsD : ∀ sg : Nat → List Nat, ∀ z ∈ D, (gsat so un sg z ↔ von so un sg z.1 ∧ fil so un sg z.1 = z.2.2) := fun sg z hz => by
            obtain ⟨m1, m2, m3⟩ := zg_mem (zmem z hz)
            have tz := tok_pts tp z.1 m1
            have h6z : (pts z.1).length ≤ 6 := by rw [pts_len tz.1.1.1]; exact (tok_ar hsv hs2 tz _ (hd0_mem tz.1.1.1)).1
            have := gsat_whole (so := so) (un := un) (sg := sg) (t := z.2.2) h6z tz
            rw [← m2] at this
            exact this
          refine ⟨x', u', vt, w, [], rfl, by rw [List.append_nil]; exact hT, hst, fun e h => absurd h List.not_mem_nil, FRM_go y6, Or.inl ⟨y6.2.2 3 (by decide), D ++ C0, be, G', Or.inr (Or.inr (Or.inl ⟨k0, by omega, qh, rfl, D, y2, rfl⟩)), by rw [List.append_nil]; exact y5, y4, by omega, by rw [List.append_nil]; exact BDG_frame hB (y6.2.2 4 (by decide)) (y6.2.1 5 (by decide)), fun _ _ _ => rfl, fun z hz => ?_, ?_, ?_, fun sg => ?_⟩⟩
          · rcases List.mem_append.mp hz with hz | hz
            · obtain ⟨m1, m2, m3⟩ := zg_mem (zmem z hz)
              have tz := tok_pts tp z.1 m1
              have h6z : (pts z.1).length ≤ 6 := by rw [pts_len tz.1.1.1]; exact (tok_ar hsv hs2 tz _ (hd0_mem tz.1.1.1)).1
              refine ⟨tz, tok_pts tt z.2.2 m3, hALp _ alt z.2.2 m3, fun k2 => ?_⟩
              rw [m2, sl63 h6z]
              intro e
              have := pts_len tz.1.1.1
              have := (sum_ar tz k2).2.2.1
              rw [e] at *
              simp at *
              omega
            · exact hgok0 z hz
          · rw [pot_app, pot_sg (C := D), potC]; omega
          · rw [sgC_app, sgCC]; omega
          · rw [solC]
            have ef : von so un sg g.1 → (fil so un sg g.1 = g.2.2 ↔ hd0 g.2.2 = hd0 g.1 ∧ pts g.2.2 = (pts g.1).map (fil so un sg)) := fun hv => by
              have k00 : so (hd0 g.1 / 512 - 1) = 0 := by unfold kd at k0; rw [if_neg q5] at k0; exact k0
              have := eq_free (sg := sg) (c := hd0 g.1) (l := (pts g.1).flatten) (t := g.2.2) (SV_SU hsv) (by rw [← r]; exact tp.1.1) (by rw [← r]; exact h20) (by rw [← r]; exact hv) q5 k00 tt.1.1
              rw [← r] at this; exact this
            have ev : von so un sg g.1 ↔ ∀ z ∈ pts g.1, von so un sg z := by
              have := von_pts (so := so) (un := un) (sg := sg) (c := hd0 g.1) (l := (pts g.1).flatten) (by rw [← r]; exact tp.1.1.1) q5
              rw [← r] at this; exact this
            have za := zg_all (so := so) (un := un) (sg := sg) pl
            have da : (∀ z ∈ D, gsat so un sg z) ↔ (∀ z ∈ pts g.1, von so un sg z) ∧ pts g.2.2 = (pts g.1).map (fil so un sg) := by
              rw [← za]
              constructor
              · intro h z hz
                have hzD := y2.mem_iff.mpr hz
                exact (gsD sg z hzD).mp (h z hzD)
              · intro h z hz
                exact (gsD sg z hz).mpr (h z (zmem z hz))
            constructor
            · rintro ⟨x1, ⟨x2, x3⟩, x4⟩
              refine ⟨x1, fun z hz => ?_⟩
              rcases List.mem_append.mp hz with hz | hz
              · exact da.mpr ⟨ev.mp x2, ((ef x2).mp x3).2⟩ z hz
              · exact x4 z hz
            · rintro ⟨x1, x4⟩
              obtain ⟨d1, d2⟩ := da.mp (fun z hz => x4 z (List.mem_append_left _ hz))
              have x2 := ev.mpr d1
              exact ⟨x1, ⟨x2, (ef x2).mpr ⟨qh, d2⟩⟩, fun z hz => x4 z (List.mem_append_right _ hz)⟩
      · rw [if_neg (by rw [nI_inj (by omega) (by omega), cc_inj hct hcp]; exact qh)]
        refine ⟨-2, u, vt, w, [], rfl, by rw [List.append_nil]; exact hT, hst, fun e h => absurd h List.not_mem_nil, FRM.refl, Or.inr (Or.inl ⟨rfl, rfl, fun sg hs => ?_⟩)⟩
        rw [solC] at hs
        exact qh (fil_hd hsv tp tt (by omega) hk hs2 hs.2.1.1 hs.2.1.2)
