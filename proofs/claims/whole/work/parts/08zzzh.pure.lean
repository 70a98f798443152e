/-! ===== a term, read by the class ===== -/
theorem PTK_of {n : Nat} {f nm nmm fs fm9 fu : Nat → Int32} {so ma : Nat → Nat} {un : Nat → Option Nat} {no nv : Nat} {nmL : Nat → List Nat} {L : List Nat} (hn : 100000 ≤ n) (hs : SIG nm nmm fs fm9 fu so ma un no nv nmL) (hL : TPE f L) : PTK so ma un nv L (ptm so ma un nmL no nv L) := fun d p hp hd => by
  have hL4 := hL.1
  obtain ⟨r, fp', top', fsp', g1, g2⟩ := fx_readsTerm_ok hn hs hL d p 0 0 (fun _ => 0) (fun _ => 0) hp hd (by omega)
  obtain ⟨a1, a2, a3, a4, a5⟩ := g2
  refine ⟨a1, a2, fun t ht => ?_⟩
  rcases a5 with ⟨b1, _⟩ | ⟨t', b1, b2, b3, b4, b5, b6, b7⟩
  · rw [ht] at b1; exact nomatch b1
  · rw [ht] at b1
    have e := Option.some.inj b1
    rw [e]
    exact ⟨b5, b6, b7⟩
theorem rd_term {n no nv : Nat} {ga : Nat → Nat → Int32} {las : Nat → Bool} {so ma : Nat → Nat} {un : Nat → Option Nat} {nmL : Nat → List Nat} {L : List Nat} (hn : 100000 ≤ n) (he : ENV ga las so ma un no nv nmL) (hma : ∀ q : Nat, so q = 2 → ma q = 2) (hm9 : NMD nmL no nv) (huq : ∀ i j : Nat, nmv no nv i = true → nmv no nv j = true → nmL i = nmL j → i = j) (hpt : PTK so ma un nv L (ptm so ma un nmL no nv L)) :
    ∀ (d p : Nat) (F : List (Nat × Nat)) (V N : List (List Nat)) (rd h v : Nat → Nat → Int32) (w : Nat → Nat → Int64) (m x1 : Nat), p ≤ L.length → L.length + 1 ≤ p + d → RdS L las so (bk L p) F V N rd h v w → x1 ≤ bk L p → L.length + 1 ≤ bk L p + m → ROUT n ga L las so (ptm so ma un nmL no nv L d p) F V N (lx_X1_read_12 n ga m (nI x1) rd h v w) := by
  intro d
  induction d with
  | zero => intro p F V N rd h v w m x1 hp hd; omega
  | succ d ih =>
    intro p F V N rd h v w m x1 hp hd hs hx1 hm
    have e1 := he.1
    have no10 := e1.1
    have nv5 := e1.2.1
    obtain ⟨hq2, hL4⟩ := RdS_b hs
    have hq1 := bk_ge (L := L) (p := p)
    have ep : ptm so ma un nmL no nv L (d + 1) p = if wd L (bk L p) ≤ bk L p then (none, wd L (bk L p), bk L p) else
      match naw nmL no nv L (bk L p) (wd L (bk L p)) with
      | none => (none, wd L (bk L p), bk L p)
      | some k => if 10 ≤ k then (some [k - 10], wd L (bk L p), bk L p)
        else if so k = 0 ∧ ma k = 0 then (some [cdo k 0], wd L (bk L p), bk L p)
        else if isG L (wd L (bk L p)) 40 then plp so un L (ptm so ma un nmL no nv L d) k (ma k) (if so k = 2 then 9 else ma k) 10 1 [] (bk L (wd L (bk L p)) + 1)
        else (none, bk L (wd L (bk L p)), bk L (wd L (bk L p))) := rfl
    rw [ep]
    clear ep
    generalize eq0 : bk L p = q at *
    obtain ⟨s1, s2, s3, s4, s5, s6, s7⟩ := hs
    obtain ⟨c1, c2, c3, c4, c5, c6, c7, c8⟩ := s1
    have s1 : SCN h L q := ⟨c1, c2, c3, c4, c5, c6, c7, c8⟩
    obtain ⟨m, rfl⟩ : ∃ y, m = y + 1 := ⟨m - 1, by omega⟩
    have bad : ∀ e : Nat, ROUT n ga L las so (none, e, q) F V N (some (-2, rd, h, v, w)) := fun e => Or.inl ⟨rfl, rd, h, v, w, N, rfl, s1, s2, s4⟩
    show ROUT n ga L las so _ F V N (bx_X1_read_12 n ga (lx_X1_read_12 n ga m) (nI x1) rd h v w)
    unfold bx_X1_read_12
    cases z : isLe L q with
    | false =>
      rw [if_pos (wd_iff.mpr z)]
      have head : fx_X1_readHead n rd h ga v w = some (0, rd, h, v, w) := by
        unfold fx_X1_readHead
        rw [c6, if_neg (show ¬ nI (tks L q) = 1 from fun g => by have := tks_1.mp ((nI_inj (by have := tks_le (L := L) (q := q); omega) (by decide)).mp g); rw [z] at this; exact absurd this (by decide))]
      rw [head, xb5_s, if_pos (show (0 : Int32) = 0 from rfl)]
      split
      · exact bad _
      · exact bad _
    | true =>
      have hlt := isLe_lt _ z
      have wp := wd_pos z
      have wl := wd_le (L := L) hq2
      have yl := wd_let2 hq2
      obtain ⟨y1, y2⟩ := tkv_1 z
      rw [if_neg (show ¬ wd L q ≤ q by omega), if_neg (show ¬ (400 : Int32) ≤ nI x1 by rw [show (400 : Int32) = nI 400 from rfl, nI_le_iff (by decide) (by omega)]; omega)]
      have en : naw nmL no nv L q (wd L q) = nam nmL no nv (sli L q (wd L q)) 15 0 := rfl
      rw [en]
      generalize eqw : sli L q (wd L q) = wo at *
      obtain ⟨r1, a1, a2⟩ := fx_findVariable_c (n := n) hn e1 hm9 yl
      obtain ⟨r2, b1, b2⟩ := fx_findOperator_c (n := n) hn e1 hm9 yl
      have head0 : fx_X1_readHead n rd h ga v w = (if (0 : Int32) ≤ r1 then (jx_X1_readHead_53 n ga r1 r2 rd h v w) else (if (0 : Int32) ≤ r2 then (jx_X1_readHead_53 n ga r1 r2 rd h v w) else (some ((0 : Int32), rd, h, v, w)))) := by
        unfold fx_X1_readHead
        rw [c6, c8, tks_1.mpr z, if_pos (show nI 1 = 1 by decide), y1, a1, xb1_s, b1, xb1_s]
      obtain ⟨h2, d1, d2, d3⟩ := fx_advance_c (n := n) hn s1
      rw [y2] at d3
      have hq3 := bk_ge (L := L) (p := wd L q)
      have hq4 := bk_le (L := L) wl
      have h200 := d2.2.1.trans s2
      -- a leaf
      have leaf : ∀ (c : Nat), cck c → cok c → ar c = 0 → fx_X1_readHead n rd h ga v w = (xb3 (fx_X8_leaf n v w ga (nI (cc c))) fun r_49 v_ta_50 w_ta_51 => xb1 (fx_X1_addValue n rd r_49) fun v_rd_56 => some ((1 : Int32), v_rd_56, h2, v_ta_50, w_ta_51)) →
          ROUT n ga L las so (some [c], wd L q, q) F V N (xb5 (fx_X1_readHead n rd h ga v w) fun r_8 v_rd_9 v_h_10 v_ta_11 w_ta_12 => if r_8 = (0 : Int32) then (some ((-2 : Int32), v_rd_9, v_h_10, v_ta_11, w_ta_12)) else (if v_rd_9 0 1 ≤ rd 0 1 then (xb5 (fx_X1_closeAll n v_rd_9 v_h_10 ga v_ta_11 w_ta_12 ) fun r_22 v_rd_23 v_h_24 v_ta_25 w_ta_26 => if r_22 = (0 : Int32) then (some ((-2 : Int32), v_rd_23, v_h_24, v_ta_25, w_ta_26)) else (if v_rd_23 0 1 = (0 : Int32) then (xr 400 (v_rd_23 1) ((0 : Int32)) fun y_31 => some (y_31, v_rd_23, v_h_24, v_ta_25, w_ta_26)) else (xl (nI x1 + (1)) fun x1_30 => lx_X1_read_12 n ga m x1_30 v_rd_23 v_h_24 v_ta_25 w_ta_26))) else (xl (nI x1 + (1)) fun x1_32 => lx_X1_read_12 n ga m x1_32 v_rd_9 v_h_10 v_ta_11 w_ta_12))) := fun c hc hk har hh => by
        refine leaf_ROUT (n := n) (q := q) (q' := bk L (wd L q)) (m := m) (x1 := x1) (e := wd L q) (b := q) (h := h2) hn he s3 s4 s5 s6 s7 d3 h200 rfl (by omega) hc hk har hx1 (by omega) ?_
        rw [hh]
        obtain ⟨r, v', w', E, f1, f2, f3, f4, f5⟩ := leaf_ANS (n := n) (so := so) hn he.2.2.1 s4 (by omega) hc hk har
        obtain ⟨rd', g1, g2⟩ := fx_addValue_c (n := n) (RDS_ext (E := E) s3) (by omega) f4
        rw [f1, xb3_s, xb3_s, g1, xb1_s, xb1_s, xb5_s, if_neg (by decide), g2.2.1, s3.2.1, if_pos (Int32.le_refl _)]
        rfl
      cases q0 : nam nmL no nv wo 15 0 with
      | none =>
        have non := nam_none q0
        have ea : r1 = -1 := by
          rcases a2 with ⟨o, o1, o2, o3⟩ | ⟨o1, o2⟩
          · exact absurd o2 (non (10 + o) (Nat.zero_le _) (by omega) (nmv_op.mpr (Or.inr ⟨by omega, by omega⟩)))
          · exact o2
        have eb : r2 = -1 := by
          rcases b2 with ⟨o, o1, o2, o3⟩ | ⟨o1, o2⟩
          · exact absurd o2 (non o (Nat.zero_le _) (by omega) (nmv_op.mpr (Or.inl o1)))
          · exact o2
        rw [head0, ea, eb, if_neg (show ¬ (0 : Int32) ≤ -1 by decide), if_neg (show ¬ (0 : Int32) ≤ -1 by decide), xb5_s, if_pos rfl]
        exact bad _
      | some k =>
        obtain ⟨k1, k2, k3⟩ := nam_v q0
        show ROUT n ga L las so (if 10 ≤ k then (some [k - 10], wd L q, q)
          else if so k = 0 ∧ ma k = 0 then (some [cdo k 0], wd L q, q)
          else if isG L (wd L q) 40 then plp so un L (ptm so ma un nmL no nv L d) k (ma k) (if so k = 2 then 9 else ma k) 10 1 [] (bk L (wd L q) + 1)
          else (none, bk L (wd L q), bk L (wd L q))) F V N _
        by_cases v10 : 10 ≤ k
        · have kv : k - 10 < nv := by
            rcases nmv_op.mp k1 with g | g
            · omega
            · omega
          have ea : r1 = nI (k - 10) := by
            rcases a2 with ⟨o, o1, o2, o3⟩ | ⟨o1, o2⟩
            · have := huq (10 + o) k (nmv_op.mpr (Or.inr ⟨by omega, by omega⟩)) k1 (o2.trans k2.symm)
              rw [o3]
              exact congrArg nI (by omega)
            · have := o1 (k - 10) kv
              rw [show 10 + (k - 10) = k by omega] at this
              exact absurd k2 this
          rw [if_pos v10]
          refine leaf (k - 10) (Or.inl (by omega)) (Or.inl (by omega)) (by unfold ar; rw [if_pos (by omega)]) ?_
          rw [head0, ea, if_pos (show (0 : Int32) ≤ nI (k - 10) by rw [show (0 : Int32) = nI 0 from rfl, nI_le_iff (by decide) (by omega)]; omega)]
          unfold jx_X1_readHead_53
          rw [d1, xb1_s, if_neg (show ¬ nI (k - 10) < 0 by rw [show (0 : Int32) = nI 0 from rfl, nI_lt_iff (by omega) (by decide)]; omega), cc_v (show k - 10 < 512 by omega)]
        · have kn : k < no := by
            rcases nmv_op.mp k1 with g | g
            · exact g
            · omega
          have ea : r1 = -1 := by
            rcases a2 with ⟨o, o1, o2, o3⟩ | ⟨o1, o2⟩
            · have := huq (10 + o) k (nmv_op.mpr (Or.inr ⟨by omega, by omega⟩)) k1 (o2.trans k2.symm)
              omega
            · exact o2
          have eb : r2 = nI k := by
            rcases b2 with ⟨o, o1, o2, o3⟩ | ⟨o1, o2⟩
            · rw [o3, huq o k (nmv_op.mpr (Or.inl o1)) k1 (o2.trans k2.symm)]
            · exact absurd k2 (o1 k kn)
          have k3n : so k ≠ 3 := ENV_no he k kn
          have kl := he.2.2.2.1 k kn
          obtain ⟨sv1, sv2, sv3, sv4⟩ := he.2.1
          have cp := fx_partsOf_c (n := n) e1 kn
          have mal : ma k ≤ 3 := by
            by_cases y0 : so k = 0
            · exact sv3 k y0
            · by_cases y1 : so k = 1
              · have := sv2 k y1; omega
              · have := hma k (by omega); omega
          have head1 : fx_X1_readHead n rd h ga v w = jx_X1_readHead_53 n ga (-1) (nI k) rd h v w := by
            rw [head0, ea, eb, if_neg (show ¬ (0 : Int32) ≤ -1 by decide), if_pos (show (0 : Int32) ≤ nI k by rw [show (0 : Int32) = nI 0 from rfl, nI_le_iff (by decide) (by omega)]; omega)]
          rw [if_neg v10]
          by_cases m0 : ma k = 0
          · have s0 : so k = 0 := by
              by_cases y1 : so k = 1
              · have := sv2 k y1; omega
              · by_cases y2 : so k = 2
                · have := hma k y2; omega
                · omega
            rw [if_pos ⟨s0, m0⟩]
            refine leaf (cdo k 0) (cck_cdo (by omega) (by decide)) (cok_cdo (by omega) (by decide)) (ar_code (by decide)) ?_
            rw [head1]
            unfold jx_X1_readHead_53
            rw [d1, xb1_s, if_pos (by decide), cp, xb1_s, m0, if_pos (by decide), show (0 : Int32) = nI 0 from rfl, fx_codeFor_c (by omega) (by decide), xb1_s]
          · rw [if_neg (fun g => m0 g.2), head1]
            unfold jx_X1_readHead_53
            have c40 := fx_isSign_c (n := n) (c := 40) d3 (by omega)
            have e40n : nI 40 = (40 : Int32) := rfl
            rw [e40n] at c40
            have eg : isG L (wd L q) 40 = isb L (bk L (wd L q)) 40 40 := rfl
            rw [d1, xb1_s, if_pos (show (-1 : Int32) < 0 by decide), cp, xb1_s, if_neg (show ¬ nI (ma k) = 0 by rw [show (0 : Int32) = nI 0 from rfl, nI_inj (by omega) (by decide)]; exact m0), c40, xb1_s, eg]
            cases b40 : isb L (bk L (wd L q)) 40 40 with
            | false =>
              rw [if_pos (show (if false = true then (1 : Int32) else 0) = 0 by decide), xb5_s, if_pos (show (0 : Int32) = 0 from rfl), if_neg (show ¬ (false = true) by decide)]
              exact Or.inl ⟨rfl, rd, h2, v, w, N, rfl, d3, h200, s4⟩
            | true =>
              obtain ⟨x40a, x40b⟩ := isb_one.mp b40
              obtain ⟨t1, t2, t3⟩ := tks_sign (Or.inl rfl) x40a x40b
              obtain ⟨h3, i1, i2, i3⟩ := fx_advance_c (n := n) hn d3
              rw [t3] at i3
              obtain ⟨u1, u2, u3, u4⟩ := s3
              have lF : F.length < 400 := by omega
              have hq5 := bk_ge (L := L) (p := bk L (wd L q) + 1)
              rw [if_neg (show ¬ (if true = true then (1 : Int32) else 0) = 0 by decide), u2, if_neg (show ¬ nI F.length < 0 by rw [show (0 : Int32) = nI 0 from rfl, nI_lt_iff (by omega) (by decide)]; omega), if_pos (show nI F.length < 400 by rw [show (400 : Int32) = nI 400 from rfl, nI_lt_iff (by omega) (by decide)]; omega), xwp_n lF (by decide)]
              rw [show (mu rd 2 F.length (nI k)) 0 1 = nI F.length by rw [mu_ne (by decide)]; exact u2, show (mu rd 2 F.length (nI k)) 0 0 = nI V.length by rw [mu_ne (by decide)]; exact u1, xwp_n lF (by decide)]
              rw [show (mu (mu rd 2 F.length (nI k)) 3 F.length (nI V.length)) 0 1 = nI F.length by rw [mu_ne (by decide), mu_ne (by decide)]; exact u2, xl_eq, xl_eq, nI_1, i1, xb1_s, xb5_s, if_neg (show ¬ (1 : Int32) = 0 by decide), mu0_eq, if_neg (show ¬ nI (F.length + 1) ≤ nI F.length by rw [nI_le_iff (by omega) (by omega)]; omega), xl_eq, nI_1, if_pos rfl]
              have elF : (F ++ [(k, V.length)]).length = F.length + 1 := by simp
              refine rd_parts (n := n) (d := d) (least := ma k) hn he kn k3n (by
                by_cases y : so k = 2
                · rw [if_pos y]; omega
                · rw [if_neg y]; exact Nat.le_refl _) (by
                by_cases y : so k = 2
                · rw [if_pos y]; exact Nat.le_refl _
                · rw [if_neg y]; omega) (fun y => by rw [if_neg y]; omega) (by omega) rfl rfl (fun p' hp' hd' => hpt d p' hp' hd') ih 10 1 (bk L (wd L q) + 1) [] N _ h3 v w m (x1 + 1) rfl (by
                by_cases y : so k = 2
                · rw [if_pos y]; decide
                · rw [if_neg y]; omega) rfl (by omega) (by omega) okts_nil (Nat.zero_le _) ⟨i3, i2.2.1.trans h200, ⟨?_, ?_, fun i hi => ?_, fun i hi => ?_⟩, s4, s5, ?_, by omega⟩ (by omega) (by omega)
              · rw [List.append_nil, mu0_ne (by decide), mu_ne (by decide), mu_ne (by decide)]; exact u1
              · rw [mu0_eq, elF]
              · rw [elF] at hi
                rw [mu_ne (by decide), mu_ne (by decide), mu_eq, mu_ne (by decide), mu_eq, mu_ne (by decide)]
                by_cases e : i = F.length
                · subst e
                  rw [upd_eq, upd_eq, fgd_app2]
                  exact ⟨rfl, rfl⟩
                · rw [upd_ne e, upd_ne e, fgd_app1 (by omega)]
                  exact u3 i (by omega)
              · rw [List.append_nil] at hi
                rw [List.append_nil, mu_ne (by decide), mu_ne (by decide), mu_ne (by decide)]
                exact u4 i hi
              · rw [List.append_nil, elF]
                omega
/-- a text's term: read, or not -/
def RD1 (L : List Nat) (las : Nat → Bool) (so : Nat → Nat) (o : PR) (N : List (List Nat)) (res : RdR) : Prop :=
  (o.1 = none ∧ RBAD L las o.2.2 res) ∨ ∃ t : List Nat, o.1 = some t ∧ ∃ (r : Int32) (rd h v : Nat → Nat → Int32) (w : Nat → Nat → Int64) (N' : List (List Nat)), res = some (r, rd, h, v, w) ∧ VAL N' so r t ∧ SCN h L (bk L o.2.1) ∧ h 0 0 = nI 0 ∧ TB v w las N' ∧ v 0 1 = nI 0 ∧ N'.length ≤ bk L o.2.1 ∧ PRE N N'
theorem fx_read1_c {n no nv p : Nat} {ga rd h v : Nat → Nat → Int32} {w : Nat → Nat → Int64} {las : Nat → Bool} {so ma : Nat → Nat} {un : Nat → Option Nat} {nmL : Nat → List Nat} {L : List Nat} {N : List (List Nat)} (hn : 100000 ≤ n) (he : ENV ga las so ma un no nv nmL) (hma : ∀ q : Nat, so q = 2 → ma q = 2) (hm9 : NMD nmL no nv) (huq : ∀ i j : Nat, nmv no nv i = true → nmv no nv j = true → nmL i = nmL j → i = j) (hpt : PTK so ma un nv L (ptm so ma un nmL no nv L)) (hp : p ≤ L.length) (hs : SCN h L (bk L p)) (h0 : h 0 0 = nI 0) (hT : TB v w las N) (hv : v 0 1 = nI 0) (hN : N.length ≤ bk L p) :
    RD1 L las so (ptm so ma un nmL no nv L 401 p) N (fx_X1_read n rd h ga v w) := by
  have hL4 := hs.1.1
  unfold fx_X1_read
  rw [xl_eq, xl_eq]
  have r0 : RDS (mu (mu rd 0 0 0) 0 1 0) N so [] [] := ⟨by rw [mu0_ne (by decide), mu0_eq]; rfl, by rw [mu0_eq]; rfl, fun i hi => absurd hi (Nat.not_lt_zero _), fun i hi => absurd hi (Nat.not_lt_zero _)⟩
  rcases rd_term hn he hma hm9 huq hpt 401 p [] [] N (mu (mu rd 0 0 0) 0 1 0) h v w n 0 hp (by omega) ⟨hs, h0, r0, hT, hv, Nat.zero_le _, hN⟩ (Nat.zero_le _) (by omega) with ⟨a1, a2⟩ | ⟨t, a1, m, x1, mm, j, N', rd', h', v', w', a2, a3, a4, a5, a6, a7, a8⟩
  · exact Or.inl ⟨a1, a2⟩
  · obtain ⟨s1, s2, s3, s4, s5, s6, s7⟩ := a3
    obtain ⟨r1, r2, r3, r4⟩ := s3
    have hq2 := s1.2.1
    obtain ⟨mm, rfl⟩ : ∃ y, mm = y + 1 := ⟨mm - 1, by omega⟩
    have v0 := r4 0 (Nat.lt_succ_self 0)
    have e0 : nth ([] ++ [t]) 0 = t := rfl
    rw [e0] at v0
    refine Or.inr ⟨t, a1, rd' 1 0, rd', h', v', w', N', ?_, v0, s1, s2, s4, s5, s7, a8⟩
    have a2' : lx_X1_read_12 n ga n 0 (mu (mu rd 0 0 0) 0 1 0) h v w = _ := a2
    rw [a2']
    have r2' : rd' 0 1 = 0 := r2
    have cl : lx_X1_closeAll_2 n ga (mm + 1) (nI j) rd' h' v' w' = some (1, rd', h', v', w') := by
      show bx_X1_closeAll_2 n ga (lx_X1_closeAll_2 n ga mm) (nI j) rd' h' v' w' = _
      unfold bx_X1_closeAll_2
      rw [if_neg (show ¬ (400 : Int32) ≤ nI j by rw [show (400 : Int32) = nI 400 from rfl, nI_le_iff (by decide) (by omega)]; omega), r2', if_pos (by decide)]
    unfold KCO
    rw [cl, xb5_s, if_neg (by decide), r2', if_pos rfl, show (0 : Int32) = nI 0 from rfl, xr_n (by decide) (by decide)]
