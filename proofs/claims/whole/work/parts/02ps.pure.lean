/-! ===== a sum's goal ===== -/
theorem flat_ge {f : Nat → List (List Nat)} : ∀ {k : Nat}, (∀ i : Nat, i < k → f i ≠ []) → k ≤ (((List.range k).map f).flatten).length
  | 0, _ => Nat.zero_le _
  | k + 1, h => by
    have ih := flat_ge (f := f) (k := k) (fun i hi => h i (by omega))
    rw [List.range_succ, List.map_append, List.flatten_append, List.length_append, List.map_singleton, List.flatten_singleton]
    have : 0 < (f k).length := List.length_pos_iff.mpr (h k (by omega))
    omega
theorem byShares_ok {slf : SLF} {n : Nat} {fs fu : Nat → Int32} {so : Nat → Nat} {un : Nat → Option Nat} {pv : Int32} {d : Nat} (hslf : SOK slf n fs fu so un pv d) (hn : 100000 ≤ n) (hsg : SG fs fu so un) (hsu : SU so un) {fp fgp fgt fb fw ff : Nat → Int32} {T W : Nat} {fm tm : Int32} {G : List Goal} {be : Nat → Option (List Nat)} {E : List Nat → Prop} {pa ta c : Nat} {l t : List Nat}
    (hc : ¬ c < 512) (h2 : so (c / 512 - 1) = 2) (hg : gok so un fp T (pa, c :: l, ta, t)) (hG : ∀ g ∈ G, gok so un fp T g) (hgp : la fgp 0 (G.map (fun g => g.1)).reverse) (hgt : la fgt 0 (G.map (fun g => g.2.2.1)).reverse) (hbn : bnd so un fp fb T be) (hpl : l.length + plen G < d) (hp2 : l.length + plen G ≤ 20) (hT : T + 500 * (d + 1) ≤ 59000) (hW : W + 70 * (d + 1) ≤ 4000) (hcv : cov pv be ((pa, c :: l, ta, t) :: G)) (he : EXS E fm ff tm) :
    PO G.length fp T fgp fgt fb fw W (fun k => E k ∨ Sol so un pv ((pa, c :: l, ta, t) :: G) be k) (fx_byShares slf n fs fu fp (nI T) fgp fgt fb fw (nI W) fm pv ff tm (nI G.length) (nI pa) (nI ta)) := by
  obtain ⟨⟨a1, a2, a3, a4, a5⟩, t1, t2, t3, t4⟩ := hg
  have a1' : la fp pa (c :: l) := a1
  have a2' : nok so un (c :: l) := a2
  have a3' : c2 so (c :: l) := a3
  have a5' : pa + (l.length + 1) ≤ T := a5
  have a4' : l.length + 1 ≤ 20 := a4
  have t1' : la fp ta t := t1
  have t2' : nok so un t := t2
  have t3' : t.length ≤ 20 := t3
  have t4' : ta + t.length ≤ T := t4
  have hcc := cok_lt (col_cons.mp a2'.1.2.1).1
  obtain ⟨q1, q2, q3⟩ := okt_op a2'.1 hc
  obtain ⟨k1, k2, k3⟩ := pts_of a2'.1.1
  have hlen2 := plen_len hG
  have har := ar_lt (c := c)
  generalize hop : c / 512 - 1 = op at *
  have hi : isop op (c :: l) = true := by
    show (decide (512 ≤ c) && decide (c / 512 - 1 = op)) = true
    simp [q1, hop]
  obtain ⟨s1, s2, s3, s4⟩ := nf_sum hsu q3 h2 a2' hi (by simp only [List.length_cons]; omega)
  have hkl : (pts (c :: l)).length ≤ l.length := by have := wf_len (wf_cons a2'.1.1); omega
  have hfl := flat1_len (so := so) (un := un) (op := op) t2'.1.1
  have hxs : (fpr so un op ta t).map Prod.snd = flat1 so un op t := fpr_snd
  have hxl : (fpr so un op ta t).length = (flat1 so un op t).length := by rw [← hxs, List.length_map]
  have hlp : la fp (pa + 1) (pts (c :: l)).flatten := by rw [k3]; exact a1'.2
  have hpr := prs_ok (T := T) hlp k1 (by rw [k3]; exact (col_cons.mp a2'.1.2.1).2) (by rw [k3]; omega) (by omega)
  have hcx : CXS slf n fs fu so un pv d op (pts (c :: l)).length (flat1 so un op t).length W (W + (pts (c :: l)).length + (flat1 so un op t).length) (W + (pts (c :: l)).length + (flat1 so un op t).length + (flat1 so un op t).length) G.length T (prs (pa + 1) (pts (c :: l))) (fpr so un op ta t) t G be := by
    refine ⟨⟨hslf, hn, hsg, hsu⟩, ⟨q3, h2, t2', t3', hxs⟩, ⟨rfl, rfl, by omega, hxl, prs_len, by omega⟩, fun p hp => ?_, ⟨by omega, by rw [prs_snd, k3]; omega, by rw [prs_snd, k3]; omega, rfl⟩, fun A top v hv hh => ?_⟩
    · exact s1 p.2 (by
        have : p.2 ∈ (prs (pa + 1) (pts (c :: l))).map Prod.snd := List.mem_map.mpr ⟨p, hp, rfl⟩
        rw [prs_snd] at this; exact this)
    · rcases hcv v hv hh with g | ⟨g, hg', hvg⟩
      · exact Or.inl g
      · rcases List.mem_cons.mp hg' with e | e
        · subst e
          have hvl : v ∈ l := by
            rcases List.mem_cons.mp hvg with z | z
            · omega
            · exact z
          rw [← k3] at hvl
          obtain ⟨p, hp, hvp⟩ := List.mem_flatten.mp hvl
          rw [← prs_snd (a := pa + 1) (qs := pts (c :: l))] at hp
          obtain ⟨y, hy, rfl⟩ := List.mem_map.mp hp
          obtain ⟨g2, w1, w2⟩ := gls2_new (so := so) (un := un) (op := op) (A := A) (H := flat1 so un op t) (i := 0) (top := top) (Q := G) hy
          exact Or.inr ⟨g2, w1, by rw [w2]; exact hvp⟩
        · exact Or.inr ⟨g, gls2_old e, hvg⟩
  -- once the parts lie in the list
  have fin : ∀ (fw1 : Nat → Int32) (x7 : Int32), (∀ i : Nat, i < W → fw1 i = fw i) → la fw1 W (adr (prs (pa + 1) (pts (c :: l)))) → la fw1 (W + (pts (c :: l)).length) (adr (fpr so un op ta t)) →
      PO G.length fp T fgp fgt fb fw W (fun k => E k ∨ Sol so un pv ((pa, c :: l, ta, t) :: G) be k) (jx_byShares_197 slf n fs fu pv (nI G.length) (nI pa) (nI ta) (nI op) (nI W) (nI (pts (c :: l)).length) x7 (nI (flat1 so un op t).length) fp (nI T) fgp fgt fb fw1 (nI (W + (pts (c :: l)).length + (flat1 so un op t).length)) fm ff tm) := by
    intro fw1 x7 hf hp1 hx1
    have hdy : DYN so un (pts (c :: l)).length W (W + (pts (c :: l)).length + (flat1 so un op t).length) T (prs (pa + 1) (pts (c :: l))) (fpr so un op ta t) G be [] fp fgp fgt fb fw1 := by
      refine ⟨fpr_ok t1' t2'.1.1 t2'.1.2.1 t4' (by omega), fun p hp => ?_, hG, hgp, hgt, hbn, hp1, hx1, trivial⟩
      have hpm : p.2 ∈ pts (c :: l) := by
        have : p.2 ∈ (prs (pa + 1) (pts (c :: l))).map Prod.snd := List.mem_map.mpr ⟨p, hp, rfl⟩
        rw [prs_snd] at this; exact this
      obtain ⟨o1, o2⟩ := hpr p hp
      have := pts_short a2'.1.1 hpm
      exact ⟨o1.1, nok_pts a2' p.2 hpm, c2_pts a2'.1.1 a3' p.2 hpm, by omega, o2⟩
    have hsh := fx_shares_ok hcx 22 [] [] (fpr so un op ta t) fp fgp fgt fb fw1 fm ff tm E rfl rfl (by omega) (fun a ha => absurd ha List.not_mem_nil) trivial hdy he
    obtain ⟨fp', fgp', fgt', fb', fw', fm', ff', tm', r1, r2, r3, r4, r5, r6⟩ := hsh
    rw [List.length_nil] at r1 r5
    have run : PO G.length fp T fgp fgt fb fw W (fun k => E k ∨ Sol so un pv ((pa, c :: l, ta, t) :: G) be k) (xb10 (fx_shares slf 22 n fs fu fp (nI T) fgp fgt fb fw1 (nI (W + (pts (c :: l)).length + (flat1 so un op t).length + (flat1 so un op t).length)) fm pv ff tm (nI G.length) (nI op) (nI W) (nI (pts (c :: l)).length) (nI (flat1 so un op t).length) (nI 0)) fun z0 z1 z2 z3 z4 z5 _ z7 z8 z9 => some (z0, z1, z2, z3, z4, z5, nI W, z7, z8, z9)) := by
      rw [r1, xb10_s]
      exact ⟨fp', fgp', fgt', fb', fw', fm', ff', tm', rfl, r2, r3, r4, fun i hi' => by rw [r5 i (by omega), hf i hi'], EXS_iff (fun q => or_congr Iff.rfl (sol_sum hsu q3 h2 a2' a4 hi t2' t3')) r6⟩
    unfold jx_byShares_197
    rw [xl_eq, nI_add, xr_n q3.1 (by decide)]
    cases hun : un op with
    | none =>
      rw [(hsg op q3).2.2.1 hun, if_pos rfl]
      by_cases qk : (flat1 so un op t).length < (pts (c :: l)).length
      · rw [if_pos (by rw [nI_lt_iff (by omega) (by omega)]; exact qk)]
        refine ⟨fp, fgp, fgt, fb, fw1, fm, ff, tm, rfl, fun _ _ => rfl, fun _ _ => ⟨rfl, rfl⟩, fun _ _ => rfl, hf, EXS_iff (fun q => ⟨Or.inl, ?_⟩) he⟩
        rintro (g | hs)
        · exact g
        · exfalso
          obtain ⟨B, b1, b2, sg, _, ⟨_, b3⟩, _⟩ := (sol_sum (pa := pa) (ta := ta) hsu q3 h2 a2' a4 hi t2' t3').mpr hs
          rw [List.nil_append] at b1 b2 b3
          rw [prs_len] at b2
          rw [prs_snd] at b3
          have hge := flat_ge (f := fun i => grp i B.reverse (flat1 so un op t).reverse) (k := (pts (c :: l)).length) (fun i hi' e0 => by
            have := (b3 i hi').2
            have e1 : gf i B (flat1 so un op t) = [] := by
              have h9 := grp_gf (i := i) (b := B.reverse) (d := (flat1 so un op t).reverse) (by simp [b1])
              rw [List.reverse_reverse, List.reverse_reverse] at h9
              rw [← h9]; exact e0
            rw [e1] at this
            have hz : mkt so un op [] = [] := by unfold mkt; rw [if_pos h2, hun]
            rw [hz] at this
            have hm := nth_mem hi'
            have hs' := pts_short a2'.1.1 hm
            have hk3 : wf 1 (fil so un sg (nth (pts (c :: l)) i)) := (fil_nok hsu 21 _ (okt_pts a2'.1 _ hm) (by omega) (by omega) (b3 i hi').1).1.1
            rw [this] at hk3
            exact absurd (wf_pos hk3) (by simp))
          have hpm := (grp_perm b2).length_eq
          rw [List.length_reverse] at hpm
          omega
      · rw [if_neg (by rw [nI_lt_iff (by omega) (by omega)]; exact qk), show (0 : Int32) = nI 0 from rfl]
        exact run
    | some u =>
      obtain ⟨u1, u2⟩ := (hsg op q3).2.2.2 u hun
      rw [u1, if_neg (nI_m1 (by omega)), show (0 : Int32) = nI 0 from rfl]
      exact run
  unfold fx_byShares
  rw [fx_operatorAt_ok a1'.1 hcc (by omega), xb1_s, opI_op q1, hop, fx_partsAt_ok a1'.1 hcc (by omega), xb1_s, xl_eq, nI_1, ← k2, show (0 : Int32) = nI 0 from rfl]
  obtain ⟨kk, hk⟩ := lx_byShares_28_ok (slf := slf) (fs := fs) (fu := fu) (fgp := fgp) (fgt := fgt) (fb := fb) (ff := ff) (pv := pv) (p0 := nI G.length) (p1 := nI pa) (p2 := nI ta) (x4 := nI op) (x5 := nI W) (tp := nI T) (fm := fm) (tm := tm) (base := W) (k := (pts (c :: l)).length) hn (by omega) (pts (c :: l)) (pa + 1) 0 n fw hlp (okt_pts a2'.1) (by rw [k3]; omega) (by omega) (by omega)
  simp only [Nat.add_zero] at hk
  rw [hk]
  unfold bx_byShares_28
  have hpw : ∀ i : Nat, i < W → put fw W (adr (prs (pa + 1) (pts (c :: l)))) i = fw i := fun i hi' => put_out (Or.inl hi')
  have hal : (adr (prs (pa + 1) (pts (c :: l)))).length = (pts (c :: l)).length := by simp [adr, prs_len]
  cases ht9 : t with
  | nil => rw [ht9] at t2'; exact absurd (wf_pos t2'.1.1) (by simp)
  | cons ct9 lt9 =>
    have t1'' := t1'
    rw [ht9] at t1''
    have hct : ct9 < 5632 := by have := t2'.1.2.1; rw [ht9] at this; exact cok_lt (col_cons.mp this).1
    have htl9 : ta < 60000 := by have := wf_pos t2'.1.1; omega
    rw [if_pos (Int32.le_refl _), fx_operatorAt_ok t1''.1 hct htl9, xb1_s]
    have one : isop op t = false → isun un op t = false → PO G.length fp T fgp fgt fb fw W (fun k => E k ∨ Sol so un pv ((pa, c :: l, ta, ct9 :: lt9) :: G) be k) (jx_byShares_174 slf n fs fu pv (nI G.length) (nI pa) (nI ta) (nI op) (nI W) (nI (pts (c :: l)).length) (nI (pa + 1 + (pts (c :: l)).flatten.length)) (nI 0) fp (nI T) fgp fgt fb (put fw W (adr (prs (pa + 1) (pts (c :: l))))) (nI (W + (pts (c :: l)).length)) fm ff tm) := by
      intro o1 o2
      have ef : fpr so un op ta t = [(ta, t)] := by unfold fpr; rw [if_pos h2, if_neg (by rw [o1]; decide), if_neg (by rw [o2]; decide)]
      have ef1 : (flat1 so un op t).length = 1 := by rw [← hxl, ef]; rfl
      unfold jx_byShares_174
      rw [xw_n (by omega) (by decide), xl_eq, nI_1, ← ht9]
      have := fin (upd (put fw W (adr (prs (pa + 1) (pts (c :: l))))) (W + (pts (c :: l)).length) (nI ta)) (nI (pa + 1 + (pts (c :: l)).flatten.length)) (fun i hi' => by rw [upd_ne (by omega), hpw i hi']) (la_upd (Or.inr (by rw [hal]; omega)) put_la) (by rw [ef]; exact ⟨upd_eq _ _ _, trivial⟩)
      rw [ef1] at this
      exact this
    by_cases qi : isop op t = true
    · rw [if_pos ((isop_iff q3.1 hct).mpr (by rw [← ht9]; exact qi)), xl_eq, nI_1, fx_partsAt_ok t1''.1 hct htl9, xb1_s, show (0 : Int32) = nI 0 from rfl]
      have hw9 : wf 1 (ct9 :: lt9) := by have := t2'.1.1; rw [ht9] at this; exact this
      obtain ⟨m1, m2, m3⟩ := pts_of hw9
      have ef : fpr so un op ta t = prs (ta + 1) (pts (ct9 :: lt9)) := by unfold fpr; rw [if_pos h2, if_pos qi, ht9]
      have eh : (flat1 so un op t).length = ar ct9 := by rw [← hxl, ef, prs_len, m2]
      have hlt9 : lt9.length + 1 = t.length := by rw [ht9]; rfl
      have h98 := lx_byShares_98_ok (slf := slf) (fs := fs) (fu := fu) (fp := fp) (fgp := fgp) (fgt := fgt) (fb := fb) (ff := ff) (so := so) (pv := pv) (p0 := nI G.length) (p1 := nI pa) (p2 := nI ta) (x4 := nI op) (x5 := nI W) (x6 := nI (pts (c :: l)).length) (x7 := nI (pa + 1 + (pts (c :: l)).flatten.length)) (tp := nI T) (fm := fm) (tm := tm) (b0 := W + (pts (c :: l)).length) (h := (flat1 so un op t).length) hn (by omega) (pts (ct9 :: lt9)) (ta + 1) 0 n (put fw W (adr (prs (pa + 1) (pts (c :: l))))) (by rw [m3]; exact t1''.2) (okt_pts (by rw [← ht9]; exact t2'.1)) (by rw [m3]; omega) (by rw [eh, m2]; omega) (by rw [m2, ← eh]; omega)
      simp only [Nat.add_zero] at h98
      rw [← eh, h98, ← ef, ← ht9]
      exact fin _ _ (fun i hi' => by rw [put_out (Or.inl (by omega)), hpw i hi']) (la_put (Or.inl (by rw [hal]; omega)) put_la) put_la
    · have qi' : isop op t = false := by simpa using qi
      rw [if_neg (fun h9 => qi (by rw [ht9]; exact (isop_iff q3.1 hct).mp h9)), xr_n q3.1 (by decide)]
      cases hun : un op with
      | none =>
        rw [(hsg op q3).2.2.1 hun, if_pos rfl, show (0 : Int32) = nI 0 from rfl]
        exact one qi' (by unfold isun; rw [hun])
      | some u =>
        obtain ⟨u1, u2⟩ := (hsg op q3).2.2.2 u hun
        rw [u1, if_neg (nI_m1 (by omega)), xr_n htl9 (by decide), t1''.1, xr_n q3.1 (by decide), u1, show (0 : Int32) = nI 0 from rfl, fx_codeOf_ok u2 (by decide), xb1_s]
        have eun : isun un op t = decide (ct9 = cdo u 0) := by rw [ht9]; unfold isun; rw [hun]
        by_cases qu : ct9 = cdo u 0
        · rw [if_pos (by rw [qu]), ← ht9]
          have ef : fpr so un op ta t = [] := by unfold fpr; rw [if_pos h2, if_neg qi, if_pos (by rw [eun]; exact decide_eq_true qu)]
          have ef0 : (flat1 so un op t).length = 0 := by rw [← hxl, ef]; rfl
          have := fin (put fw W (adr (prs (pa + 1) (pts (c :: l))))) (nI (pa + 1 + (pts (c :: l)).flatten.length)) hpw put_la (by rw [ef]; trivial)
          rw [ef0] at this
          exact this
        · rw [if_neg (by rw [nI_inj (by omega) (by unfold cdo; omega)]; exact qu)]
          exact one qi' (by rw [eun]; exact decide_eq_false qu)
