/-! ===== the matcher: meetSum, whole ===== -/
theorem sel_full {s : Nat} : ∀ {qs : List (List Nat)} {k : Nat}, (∀ j : Nat, k ≤ j → j < k + qs.length → s.testBit j = true) → sel s false k qs = qs
  | [], _, _ => rfl
  | x :: qs, k, h => by
    rw [List.length_cons] at h
    show (if s.testBit k = false then sel s false (k + 1) qs else x :: sel s false (k + 1) qs) = x :: qs
    rw [h k (by omega) (by omega), if_neg (by decide), sel_full (fun j h1 h2 => h j (by omega) (by omega))]
theorem remC_sg {so ma : Nat → Nat} {un : Nat → Option Nat} {nv left rest : Nat} {p t : List Nat} (hsv : SV so un ma nv) (hs2 : ∀ o : Nat, so o ≠ 3 → so o ≤ 2) (hp : tok so un ma nv p) (hk : kd so p = 2) :
    sgC so (remC so un p left t rest) + (if (sl left (pts p)).length = 1 then 1 else 0) = (sl left (pts p)).flatten.length := by
  unfold remC
  match hq : sl left (pts p) with
  | [] => rfl
  | [q] =>
    have hqm : q ∈ pts p := sel_mem (s := left) (o := false) (k := 0) (by rw [show sel left false 0 (pts p) = [q] from hq]; simp)
    have tq := tok_pts hp q hqm
    have h6 : (pts q).length ≤ 6 := by rw [pts_len tq.1.1.1]; exact (tok_ar hsv hs2 tq _ (hd0_mem tq.1.1.1)).1
    have hw := wf_pos tq.1.1.1
    have e : sgm so (q, 63, SS so un (opn p) t rest) = q.length - 1 := by
      unfold sgm
      by_cases z : kd so q = 2
      · rw [if_pos z]
        show (sl 63 (pts q)).flatten.length = _
        rw [sl63 h6]
        have := congrArg List.length (row_pts tq.1.1.1)
        rw [List.length_cons] at this
        omega
      · rw [if_neg z]
    show sgm so (q, 63, SS so un (opn p) t rest) + 0 + (if 1 = 1 then 1 else 0) = (q ++ []).length
    rw [e, if_pos rfl, List.append_nil]
    omega
  | q1 :: q2 :: qs =>
    show sgm so (p, left, SS so un (opn p) t rest) + 0 + (if (q1 :: q2 :: qs).length = 1 then 1 else 0) = _
    unfold sgm
    rw [if_pos hk]
    show (sl left (pts p)).flatten.length + 0 + _ = _
    rw [hq, if_neg (by simp), Nat.add_zero]
theorem remC_gok {so ma : Nat → Nat} {un : Nat → Option Nat} {nv left rest : Nat} {p t : List Nat} {AL : List Nat → Prop} (hsv : SV so un ma nv) (hs2 : ∀ o : Nat, so o ≠ 3 → so o ≤ 2) (hp : tok so un ma nv p) (htS : left ≠ 0 → tok so un ma nv (SS so un (opn p) t rest) ∧ AL (SS so un (opn p) t rest)) (hl : left < 64) (hlb : ∀ j : Nat, (pts p).length ≤ j → left.testBit j = false) : GOK AL so ma un nv (remC so un p left t rest) := fun g hg => by
  have lnil := sl_nil hl hlb
  have h0 : left ≠ 0 := fun z => by
    have e := lnil.mpr z
    unfold remC at hg
    rw [e] at hg
    exact absurd hg List.not_mem_nil
  obtain ⟨t1, t2⟩ := htS h0
  unfold remC at hg
  match hq : sl left (pts p), hg with
  | [q], hg =>
    have hqm : q ∈ pts p := sel_mem (s := left) (o := false) (k := 0) (by rw [show sel left false 0 (pts p) = [q] from hq]; simp)
    have tq := tok_pts hp q hqm
    have h6 : (pts q).length ≤ 6 := by rw [pts_len tq.1.1.1]; exact (tok_ar hsv hs2 tq _ (hd0_mem tq.1.1.1)).1
    rw [List.mem_singleton.mp hg]
    refine ⟨tq, t1, t2, fun k2 => ?_⟩
    show sl 63 (pts q) ≠ []
    rw [sl63 h6]
    intro e
    have h1 := pts_len tq.1.1.1
    have h2 := (sum_ar tq k2).2.2.1
    rw [e] at h1
    simp only [List.length_nil] at h1
    omega
  | q1 :: q2 :: qs, hg =>
    rw [List.mem_singleton.mp hg]
    refine ⟨hp, t1, t2, fun _ => ?_⟩
    show sl left (pts p) ≠ []
    rw [hq]; simp
theorem fx_meetSum_c {n i a b wp no nv hd G nb : Nat} {ga u vt : Nat → Nat → Int32} {w : Nat → Nat → Int64} {las : Nat → Bool} {N : List (List Nat)} {so ma : Nat → Nat} {un : Nat → Option Nat} {nmL : Nat → List Nat} {be : Nat → Option (List Nat)} {AL : List Nat → Prop} {g : GoalC} {C0 : List GoalC} (hn : 100000 ≤ n) (he : ENV ga las so ma un no nv nmL) (hALs : ∀ (t : List Nat) (op bits : Nat), tok so un ma nv t → AL t → op < 10 → so op = 2 → (sl bits (flat1 so un op t) = [] → un op ≠ none) → AL (SS so un op t bits)) (hT : TBK vt w las so ma un nv N) (hst : vt 0 1 = nI hd) (hhd : hd ≤ 80) (hN : N.length + 30 ≤ 1024) (hB : BDG u N be) (hi : i < G) (hG2 : G ≤ 200) (hG : u 0 2 = nI G) (ha : a < N.length) (ha2 : nth N a = g.1) (ea : u 1 i = nI a) (hb9 : b < N.length) (hb2 : nth N b = g.2.2) (eb : u 3 i = nI b) (hL : u 2 i = nI g.2.1 ∧ g.2.1 < 64) (hC0 : CHN u N C0 i (u 4 i)) (hgok : GOK AL so ma un nv (g :: C0)) (h3 : u 0 3 = nI nb) (hnb : nb < 64) (hk : kd so g.1 = 2) (hw0 : u 0 0 = nI wp) (hwp : wp < N.length) :
    OUTC las so ma un nv AL (nth N wp) hd u N (g :: C0) be G nb (fx_X0_meetSum n u vt w ga (nI i)) := by
  obtain ⟨p, L, t⟩ := g
  have ha2 : nth N a = p := ha2
  have hb2 : nth N b = t := hb2
  have hL : u 2 i = nI L ∧ L < 64 := hL
  have hk : kd so p = 2 := hk
  have hsv := he.2.1
  have hs2 := fun (o : Nat) (h : so o ≠ 3) => (ENV_op he h).2.2
  have tp : tok so un ma nv p := (hgok _ List.mem_cons_self).1
  have tt : tok so un ma nv t := (hgok _ List.mem_cons_self).2.1
  have alt : AL t := (hgok _ List.mem_cons_self).2.2.1
  have hne : sl L (pts p) ≠ [] := (hgok _ List.mem_cons_self).2.2.2 hk
  have hgok0 : GOK AL so ma un nv C0 := fun q hq => hgok q (List.mem_cons_of_mem _ hq)
  obtain ⟨s1, s2, s3, s4⟩ := sum_ar tp hk
  obtain ⟨o1, o2, o3⟩ := ENV_op he (op := opn p) (by omega)
  have hoo : opn p < 10 ∧ so (opn p) ≠ 3 := ⟨o2, by omega⟩
  have pl := pts_len tp.1.1.1
  have h6 : (pts p).length ≤ 6 := by rw [pl]; exact (tok_ar hsv hs2 tp _ (hd0_mem tp.1.1.1)).1
  have h6H := flat1_6 (op := opn p) hsv hs2 s2 tt
  have nda := (TB_get hT.1 ha).1
  have hcp := nda.2.1 _ (hd0_mem nda.1)
  rw [ha2] at hcp
  have co := fx_codeOf_c (n := n) hT.1 ha
  rw [ha2] at co
  obtain ⟨c1, c2, c3⟩ := asSum_c (n := n) (ga := ga) (un := un) he hT.1 hb9 s2
  rw [hb2] at c1 c2
  have pwn : (1 : Int32) <<< (nI (ar (hd0 p)) &&& 31) = nI (2 ^ ar (hd0 p)) := pw32 ⟨ar (hd0 p), by omega⟩
  have pwm : (1 : Int32) <<< (nI (flat1 so un (opn p) t).length &&& 31) = nI (2 ^ (flat1 so un (opn p) t).length) := pw32 ⟨(flat1 so un (opn p) t).length, by omega⟩
  have p2n : 0 < 2 ^ ar (hd0 p) := Nat.pow_pos (by decide)
  have p2m : 0 < 2 ^ (flat1 so un (opn p) t).length := Nat.pow_pos (by decide)
  have mb : ∀ j : Nat, (2 ^ (flat1 so un (opn p) t).length - 1).testBit j = decide (j < (flat1 so un (opn p) t).length) := fun j => Nat.testBit_two_pow_sub_one _ _
  have nb9 : ∀ j : Nat, (L &&& (2 ^ ar (hd0 p) - 1)).testBit j = (L.testBit j && decide (j < ar (hd0 p))) := fun j => by rw [Nat.testBit_and, Nat.testBit_two_pow_sub_one]
  have lf64 : L &&& (2 ^ ar (hd0 p) - 1) < 64 := Nat.lt_of_le_of_lt Nat.and_le_left hL.2
  have rs64 : 2 ^ (flat1 so un (opn p) t).length - 1 < 64 := by have := pow64 c2; omega
  have sl0 : sl (L &&& (2 ^ ar (hd0 p) - 1)) (pts p) = sl L (pts p) := sel_same (fun j _ hj => by
    rw [nb9, decide_eq_true (by omega), Bool.and_true])
  have full : sl (2 ^ (flat1 so un (opn p) t).length - 1) (flat1 so un (opn p) t) = flat1 so un (opn p) t := sel_full (fun j _ hj => by rw [mb, decide_eq_true (by omega)])
  have M0 : MSI so un be p L t 0 (L &&& (2 ^ ar (hd0 p) - 1)) (2 ^ (flat1 so un (opn p) t).length - 1) := by
    refine ⟨lf64, rs64, fun j hj => ?_, fun j hj => ?_, ⟨[], by rw [sl0]; exact List.Perm.refl _, fun q h => absurd h List.not_mem_nil, by rw [full]; exact List.Perm.refl _⟩, fun z hz => absurd hz (Nat.not_lt_zero _)⟩
    · rw [nb9] at hj
      have : L.testBit j = true ∧ j < ar (hd0 p) := by simpa using hj
      exact ⟨by omega, this.1⟩
    · rw [mb]; exact decide_eq_false (by omega)
  have hvB : ∀ q ∈ pts p, (∀ c ∈ q, c < 512 → be c ≠ none) → von so un (sgB be) q := fun q hq hg => by
    have tq := tok_pts tp q hq
    exact (tok_von hsv.1 hT.2 tq.2.2 (BNC_of hB tq.1.1.2.1 hg)).1
  have e0 : nI 0 = (0 : Int32) := rfl
  have lp := lx_ms86_c (n := n) (i0 := i) (u := u) (x4 := nI (cc (hd0 p))) hn he hhd hN hB ha ha2 hb9 hb2 hk hne (pts p).length 0 n _ _ vt w (by omega) (by omega) hT hst M0
  rw [e0, pl] at lp
  have potC : pot so ((p, L, t) :: C0) = 4 * (sl L (pts p)).flatten.length + 1 + pot so C0 := by
    show 4 * sgm so (p, L, t) + 1 + pot so C0 = _
    unfold sgm; rw [if_pos hk]
  have sgCC : sgC so ((p, L, t) :: C0) = (sl L (pts p)).flatten.length + sgC so C0 := by
    show sgm so (p, L, t) + sgC so C0 = _
    unfold sgm; rw [if_pos hk]
  have solC : ∀ sg : Nat → List Nat, SolG so un ((p, L, t) :: C0) be sg ↔ extS be sg ∧ gsat so un sg (p, L, t) ∧ ∀ q ∈ C0, gsat so un sg q := fun sg => by
    unfold SolG
    rw [List.forall_mem_cons]
  unfold fx_X0_meetSum
  rw [if_neg (by rw [show (0 : Int32) = nI 0 from rfl, nI_lt_iff (by omega) (by decide)]; omega), if_pos (by rw [show (256 : Int32) = nI 256 from rfl, nI_lt_iff (by omega) (by decide)]; omega), xr_n (by omega) (by decide), xr_n (by omega) (by decide), ea, eb, co, xb1_s, fx_operatorIn_c hcp, xb1_s, fx_partsIn_c hcp, xb1_s, opI_op s1, xr_n (by omega) (by decide), hL.1, xl_eq, pwn, xl_eq, i1, nI_sub (by omega), xl_eq, nI_and]
  show OUTC las so ma un nv AL (nth N wp) hd u N ((p, L, t) :: C0) be G nb (xb1 (fx_X8_partsAsSum n vt ga (nI b) (nI (opn p))) _)
  rw [c1, xb1_s, xl_eq, ← i1, pwm, xl_eq, i1, nI_sub (by omega)]
  show OUTC las so ma un nv AL (nth N wp) hd u N ((p, L, t) :: C0) be G nb (lx_X0_meetSum_86 n ga (nI i) n (nI a) (nI b) (nI (cc (hd0 p))) (nI (opn p)) (nI (ar (hd0 p))) (nI (L &&& (2 ^ ar (hd0 p) - 1))) (nI (2 ^ (flat1 so un (opn p) t).length - 1)) 0 u vt w)
  rcases lp with ⟨vt', w', l1, l2, l3, l4⟩ | ⟨lf, rs, vt', w', x9, l1, l2, l3, l4⟩
  · rw [l1]
    refine ⟨-2, u, vt', w', [], rfl, by rw [List.append_nil]; exact l2, l3, fun e h => absurd h List.not_mem_nil, FRM.refl, Or.inr (Or.inl ⟨rfl, rfl, fun sg hs => ?_⟩)⟩
    rw [solC] at hs
    exact l4 sg hs.1 hs.2.1
  · rw [l4]
    have l1s := l1
    obtain ⟨m1, m2, m3, m4, ⟨Gd, g1, g2, g3⟩, m5⟩ := l1s
    have hlb : ∀ j : Nat, (pts p).length ≤ j → lf.testBit j = false := fun j hj => by
      cases hq : lf.testBit j with
      | false => rfl
      | true => have := (m3 j hq).1; omega
    have LF : LFT be p L lf := ⟨m1, fun j hj => ⟨(m3 j hj).1, (m3 j hj).2, m5 j (by rw [← pl]; exact (m3 j hj).1) hj⟩⟩
    have RS : RST so un p t rs := ⟨m2, m4, _, g3⟩
    have GN : GND so un be p L t lf rs := ⟨Gd, g1, g2, g3⟩
    have sem : ∀ sg : Nat → List Nat, extS be sg → (gsat so un sg (p, L, t) ↔ OKR so un p t lf rs ∧ ∀ z ∈ remC so un p lf t rs, gsat so un sg z) := fun sg hx => by
      rw [MSI_sem hsv tp hk hoo tt hne hx hvB l1]
      exact rem_sem hsv hs2 tp hk hoo tt m1 hlb m2 m4
    have fl9 : (sl lf (pts p)).flatten.length ≤ (sl L (pts p)).flatten.length := by
      have := (g1.flatten).length_eq
      rw [List.flatten_append, List.length_append] at this
      omega
    have rsg := remC_sg (un := un) (left := lf) (rest := rs) (t := t) hsv hs2 tp hk
    have rln := remC_len (so := so) (un := un) (p := p) (t := t) (left := lf) (rest := rs)
    unfold jx_X0_meetSum_216
    rw [if_pos (by rw [show (0 : Int32) = nI 0 from rfl, nI_le_iff (by decide) (by omega)]; omega)]
    rcases fx_remainder_c (n := n) (i := i) hn he l2 l3 (by omega) (by omega) (by omega) hG ha ha2 ea hb9 hb2 eb (CHN_top hC0 (by omega)) hk m1 hlb m2 m4 with ⟨ok, x', u', vt2, w2, E, G', r1, r2, r3, r4, r5, r6, r7, r8, r9, r10⟩ | ⟨bad, r1⟩
    · rw [r1, xb4_s]
      have eqv : ∀ sg : Nat → List Nat, SolG so un ((p, L, t) :: C0) be sg ↔ SolG so un (remC so un p lf t rs ++ C0) be sg := fun sg => by
        rw [solC]
        unfold SolG
        rw [List.forall_mem_append]
        constructor
        · rintro ⟨x1, x2, x3⟩
          exact ⟨x1, ((sem sg x1).mp x2).2, x3⟩
        · rintro ⟨x1, x2, x3⟩
          exact ⟨x1, (sem sg x1).mpr ⟨ok, x2⟩, x3⟩
      have lnil := sl_nil m1 hlb
      have hSS : lf ≠ 0 → tok so un ma nv (SS so un (opn p) t rs) ∧ AL (SS so un (opn p) t rs) := fun h0 => by
        have hu : sl rs (flat1 so un (opn p) t) = [] → un (opn p) ≠ none := fun e hn9 => by
          have := ok.2 h0 hn9
          rw [e] at this
          exact h0 (lnil.mp (List.length_eq_zero_iff.mp (by simpa using this)))
        exact ⟨SS_tok hsv hs2 hoo s2 tt hu, hALs t (opn p) rs tt alt o2 s2 hu⟩
      have gk := remC_gok (rest := rs) (t := t) (un := un) hsv hs2 tp hSS m1 hlb
      have gkC : GOK AL so ma un nv (remC so un p lf t rs ++ C0) := fun z hz => by
        rcases List.mem_append.mp hz with h | h
        · exact gk z h
        · exact hgok0 z h
      have hEA : ∀ e ∈ E, AL e := fun e h => by
        obtain ⟨q1, q2⟩ := r4 e h
        rw [q2]; exact (hSS q1).2
      have nxt : (sl lf (pts p)).length ≤ 1 → OUTC las so ma un nv AL (nth N wp) hd u N ((p, L, t) :: C0) be G nb (some (x', u', vt2, w2)) := fun hl1 => by
        refine ⟨x', u', vt2, w2, E, rfl, r2, r3, hEA, FRM_go r8, Or.inl ⟨r8.2.2 3 (by decide), remC so un p lf t rs ++ C0, be, G', Or.inr (Or.inr (Or.inr ⟨hk, rfl, lf, rs, LF, RS, GN, hl1, rfl⟩)), r5, r6, by omega, BDG_frame (BDG_ext hB) (r8.2.2 4 (by decide)) (r8.2.1 5 (by decide)), fun _ _ _ => rfl, gkC, ?_, ?_, eqv⟩⟩
        · rw [pot_app, pot_sg (C := remC so un p lf t rs), potC]
          by_cases z : (sl lf (pts p)).length = 1
          · rw [if_pos z] at rsg; omega
          · have z0 : lf = 0 := lnil.mp (List.length_eq_zero_iff.mp (by omega))
            have er : remC so un p lf t rs = [] := by unfold remC; rw [lnil.mpr z0]
            rw [er] at r7 ⊢
            simp only [List.length_nil] at r7 ⊢
            have : sgC so ([] : List GoalC) = 0 := rfl
            omega
        · rw [sgC_app, sgCC]; omega
      by_cases xn : x' < 0
      · rw [if_pos xn]
        have h0 : lf = 0 := by
          apply Classical.byContradiction
          intro h
          rw [r10 h, show (0 : Int32) = nI 0 from rfl, nI_lt_iff (by omega) (by decide)] at xn
          omega
        exact nxt (by rw [lnil.mpr h0]; simp)
      · rw [if_neg xn, fx_bitCount_c m1, xb1_s, ← sl_pc h6 hlb]
        have sl6 : (sl lf (pts p)).length ≤ 6 := Nat.le_trans sel_le h6
        by_cases l2' : 2 ≤ (sl lf (pts p)).length
        · rw [if_pos (by rw [show (2 : Int32) = nI 2 from rfl, nI_le_iff (by decide) (by omega)]; exact l2')]
          have h0 : lf ≠ 0 := fun z => by rw [lnil.mpr z] at l2'; simp at l2'
          have er : remC so un p lf t rs = [(p, lf, SS so un (opn p) t rs)] := by
            unfold remC
            match hq : sl lf (pts p), l2' with
            | q1 :: q2 :: qs, _ => rfl
          rw [er] at r5 r7 gkC eqv rsg
          rw [if_neg (by omega)] at rsg
          have r5' : CHN u' (N ++ E) ((p, lf, SS so un (opn p) t rs) :: C0) G' x' := r5
          have r5s := r5'
          obtain ⟨gi, gi1, gi2, ⟨a', a1, a2, a3⟩, ⟨b1, b2⟩, ⟨y, y1, y2, y3⟩, c9⟩ := r5'
          obtain ⟨bp, bp1, bp2, bp3⟩ := fx_brOver_c (n := n) (u := u') (gi := gi) hn he r2 (nth_pre (B := E) hwp).1 (by rw [r8.2.2 0 (by decide)]; exact hw0) (by simp only [List.length_singleton] at r7; omega) a1 a2 a3 b1 y1 y2 y3 hk m1 hlb h0
          have hG'2 : G' = G + 1 := by simpa using r7
          obtain ⟨u3, z1, z2, z3, z4, z5, z6, z7⟩ := fx_addBranch_c (n := n) (bp := bp) (lim := if sto so un (nth (pts p) bp) = 2 then (flat1 so un (opn p) (SS so un (opn p) t rs)).length else 2 ^ (flat1 so un (opn p) (SS so un (opn p) t rs)).length) (by rw [r8.2.2 3 (by decide)]; exact h3) hnb (show gi < 256 by omega) r6 (gi2 ▸ r5s)
          rw [gi2, bp3, z1, xb1_s, xb1_s]
          rw [(nth_pre hwp).2] at bp2
          have f3 : FRM u' u3 G be nb := ⟨fun s h1 h4 j _ => by rw [z3 s (by omega) (by omega)], fun v _ _ => by rw [z3 5 (by decide) (by decide)], fun s h6 h11 j hj => z5 s h6 h11 j hj, ⟨z4 12 (by decide), z4 13 (by decide)⟩, z6 0 (by decide), z6 1 (by decide), z6 5 (by decide)⟩
          refine ⟨-2, u3, vt2, w2, E, rfl, r2, r3, hEA, FRM.trans (FRM_go r8) f3, Or.inr (Or.inr ⟨z7, rfl, (p, lf, SS so un (opn p) t rs), C0, bp, _, G', ⟨rfl, Or.inr ⟨hk, lf, rs, LF, RS, GN, l2', rfl, bp1, bp2, rfl⟩⟩, ?_, by omega, BDG_frame (BDG_ext hB) (by rw [z6 4 (by decide), r8.2.2 4 (by decide)]) (by rw [z3 5 (by decide) (by decide), r8.2.1 5 (by decide)]), gkC, ?_, ?_, eqv⟩)⟩
          · rw [r8.2.2 4 (by decide)] at z2
            exact z2
          · show G' + (4 * sgm so (p, lf, SS so un (opn p) t rs) + 1 + pot so C0) ≤ _
            have : sgC so [(p, lf, SS so un (opn p) t rs)] = sgm so (p, lf, SS so un (opn p) t rs) + 0 := rfl
            omega
          · show sgm so (p, lf, SS so un (opn p) t rs) + sgC so C0 ≤ _
            have : sgC so [(p, lf, SS so un (opn p) t rs)] = sgm so (p, lf, SS so un (opn p) t rs) + 0 := rfl
            omega
        · rw [if_neg (by rw [show (2 : Int32) = nI 2 from rfl, nI_le_iff (by decide) (by omega)]; exact l2')]
          exact nxt (by omega)
    · rw [r1, xb4_s, if_pos (by decide)]
      refine ⟨-2, u, vt', w', [], rfl, by rw [List.append_nil]; exact l2, l3, fun e h => absurd h List.not_mem_nil, FRM.refl, Or.inr (Or.inl ⟨rfl, rfl, fun sg hs => ?_⟩)⟩
      rw [solC] at hs
      exact bad ((sem sg hs.1).mp hs.2.1).1
