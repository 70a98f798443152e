/-! ===== a part laid; the term closed: as it stands ===== -/
theorem lx_lay84_c {n op K : Nat} {w : Nat → Nat → Int64} {las : Nat → Bool} {N : List (List Nat)} {so : Nat → Nat} {un : Nat → Option Nat} {P0 x2 x3 : Int32} (hn : 100000 ≤ n) (hK : K ≤ 6) (hso : so op < 10) :
    ∀ (F : List (List Nat)) (i m : Nat) (ys : List (List Nat)) (v : Nat → Nat → Int32), i + F.length = K → F.length < m → TB v w las N → LNs v N so un op ys →
      (∀ j : Nat, j < F.length → ∃ p : Nat, p < N.length ∧ nth N p = nth F j ∧ ((x3 = 0 ∧ P0 = nI p) ∨ (x3 ≠ 0 ∧ ∃ pp : Nat, pp < 1024 ∧ P0 = nI pp ∧ v 4 (6 * pp + (i + j)) = nI p))) → (so op ≠ 0 → ys.Pairwise leL) →
      ∃ v' : Nat → Nat → Int32, lx_X8_lay_84 n P0 m x2 x3 (nI K) (nI i) v = some v' ∧ FRL v v' ∧
        ((ys.length + F.length ≤ 6 ∧ v' 0 6 = v 0 6 ∧ ∃ ys' : List (List Nat), LNs v' N so un op ys' ∧ ys'.Perm (ys ++ F) ∧ (so op = 0 → ys' = ys ++ F) ∧ (so op ≠ 0 → ys'.Pairwise leL)) ∨
         (6 < ys.length + F.length ∧ v' 0 6 = 1 ∧ ∃ ys' : List (List Nat), LNs v' N so un op ys' ∧ (so op ≠ 0 → ys'.Pairwise leL)))
  | [], i, m + 1, ys, v, hi, _, hT, hl, _, hs => by
    have e : i = K := by rw [← hi]; rfl
    subst e
    refine ⟨v, ?_, FRL.refl, Or.inl ⟨by have := hl.2.1; simpa using this, rfl, ys, hl, by rw [List.append_nil], fun _ => (List.append_nil ys).symm, hs⟩⟩
    show bx_X8_lay_84 n P0 (lx_X8_lay_84 n P0 m) x2 x3 (nI i) (nI i) v = _
    unfold bx_X8_lay_84
    rw [if_pos (Int32.le_refl _)]
  | f :: F, i, m + 1, ys, v, hi, hm, hT, hl, hF, hs => by
    simp only [List.length_cons] at hi hm
    obtain ⟨x, x1, x2', x3'⟩ := hF 0 (by simp)
    have x2'' : nth N x = f := x2'
    have hT1 := hT.1
    have l6 := hl.2.1
    have hfw : wf 1 f := by rw [← x2'']; exact (TB_get hT x1).1.1
    -- what the id is
    have st : lx_X8_lay_84 n P0 (m + 1) x2 x3 (nI K) (nI i) v = jx_X8_lay_118 n P0 (lx_X8_lay_84 n P0 m) x2 x3 (nI K) (nI i) (nI x) v := by
      show bx_X8_lay_84 n P0 (lx_X8_lay_84 n P0 m) x2 x3 (nI K) (nI i) v = _
      unfold bx_X8_lay_84
      rw [if_neg (by rw [nI_le_iff (by omega) (by omega)]; omega), if_neg (by rw [show (6 : Int32) = nI 6 from rfl, nI_le_iff (by decide) (by omega)]; omega)]
      rcases x3' with ⟨a, b⟩ | ⟨a, pp, b1, b2, b3⟩
      · rw [if_pos a, b]
      · rw [Nat.add_zero] at b3
        rw [if_neg a, b2, xl_eq, show (6 : Int32) = nI 6 from rfl, nI_mul (by omega) (by omega) (by decide), xl_eq, nI_add, xr_n (by omega) (by decide), show pp * 6 + i = 6 * pp + i by omega, b3]
    rw [st]
    unfold jx_X8_lay_118
    rw [hl.1, if_neg (by rw [show (0 : Int32) = nI 0 from rfl, nI_lt_iff (by omega) (by decide)]; omega)]
    by_cases q : ys.length < 6
    · rw [if_pos (by rw [show (6 : Int32) = nI 6 from rfl, nI_lt_iff (by omega) (by decide)]; exact q)]
      have hwys := LI_wfs hT hl.2.2.1
      obtain ⟨P', Q', v1, u1, u2, u3, u4, u5, u6, u7, u8⟩ := lx_lay148_c (n := n) (P0 := P0) (x2 := x2) (x3 := x3) (x4 := nI K) (x5 := nI i) (k84 := lx_X8_lay_84 n P0 m) hn x1 x2'' hfw hso ys.reverse [] n v (by rw [List.length_reverse]; omega) hT (by rw [List.length_reverse]; simp; omega) (by rw [List.length_reverse]; exact hl.1) hl.2.2.2.2.1 (fun j hj => by
        rw [List.length_reverse] at hj
        rw [List.reverse_reverse]
        exact hl.2.2.1 j hj) (fun j hj => absurd hj (Nat.not_lt_zero _)) (by rw [List.reverse_reverse, List.append_nil]; exact hwys) (fun z => ⟨by rw [List.reverse_reverse, List.append_nil]; exact hs z, fun q hq => absurd hq List.not_mem_nil⟩) (fun _ => rfl)
      rw [List.reverse_reverse, List.append_nil] at u1
      rw [List.length_reverse] at u2 u4
      rw [u2, nI_1]
      have eL : (P' ++ f :: Q').length = ys.length + 1 := by
        rw [List.length_append, List.length_cons, u1, List.length_append]; omega
      have hl1 : LNs v1 N so un op (P' ++ f :: Q') := ⟨by rw [u4, eL]; rfl, by omega, u6, by rw [u5 3 (by decide)]; exact hl.2.2.2.1, by rw [u5 4 (by decide)]; exact hl.2.2.2.2.1, by rw [u5 5 (by decide)]; exact hl.2.2.2.2.2⟩
      obtain ⟨v', y1, y2, y3⟩ := lx_lay84_c (n := n) (P0 := P0) (x2 := x2) (x3 := x3) hn hK hso F (i + 1) m (P' ++ f :: Q') v1 (by omega) (by omega) (TB_FRL hT u3) hl1 (fun j hj => by
        obtain ⟨p, p1, p2, p3⟩ := hF (j + 1) (by simpa using hj)
        refine ⟨p, p1, p2, p3.imp id (fun g => ?_)⟩
        obtain ⟨g0, pp, g1, g2, g3⟩ := g
        exact ⟨g0, pp, g1, g2, by rw [u3.1 4 (by decide) (by decide), show i + 1 + j = i + (j + 1) by omega]; exact g3⟩) u8
      have pm : (P' ++ f :: Q').Perm (ys ++ [f]) := by
        rw [u1]
        exact (List.perm_middle).trans ((List.perm_append_singleton f (P' ++ Q')).symm)
      refine ⟨v', y1, u3.trans y2, ?_⟩
      rw [eL] at y3
      rcases y3 with ⟨z1, z2, ys', z3, z4, z5, z6⟩ | ⟨z1, z2, z3⟩
      · refine Or.inl ⟨by simp only [List.length_cons]; omega, by rw [z2, u5 6 (by decide)], ys', z3, ?_, fun y => ?_, z6⟩
        · refine z4.trans ?_
          have e : ys ++ f :: F = ys ++ [f] ++ F := by simp
          rw [e]
          exact pm.append_right F
        · rw [z5 y, u7 y, u1, u7 y, List.append_nil, List.append_assoc]; rfl
      · exact Or.inr ⟨by simp only [List.length_cons]; omega, z2, z3⟩
    · rw [if_neg (by rw [show (6 : Int32) = nI 6 from rfl, nI_lt_iff (by omega) (by decide)]; exact q), xl_eq]
      refine ⟨mu v 0 6 1, rfl, ⟨fun a a0 _ => mu_ne a0, by rw [mu_eq, upd_ne (by decide)], by rw [mu_eq, upd_ne (by decide)]⟩, Or.inr ⟨by simp only [List.length_cons]; omega, by rw [mu_eq, upd_eq], ys, ⟨by rw [mu_eq, upd_ne (by decide)]; exact hl.1, l6, ?_, by rw [mu_eq, upd_ne (by decide)]; exact hl.2.2.2.1, by rw [mu_eq, upd_ne (by decide)]; exact hl.2.2.2.2.1, by rw [mu_eq, upd_ne (by decide)]; exact hl.2.2.2.2.2⟩, hs⟩⟩
      intro j hj
      rw [mu_ne (by decide)]
      exact hl.2.2.1 j hj
theorem cck_cdo {op k : Nat} (ho : op < 10) (hk : k < 8) : cck (cdo op k) := Or.inr (by unfold cdo; omega)
theorem cok_cdo {op k : Nat} (ho : op < 10) (hk : k < 8) : cok (cdo op k) := cok_code ho (by omega)
theorem and7 {c : Nat} (h : cck c) (h5 : ¬ c < 512) : nI (cc c) &&& 7 = nI (ar c) := by
  have hl := cc_lt h
  have k := (sr3 ⟨cc c, by omega⟩).2
  have k' : nI (cc c) &&& 7 = nI (cc c % 8) := k
  rw [k', (cc_op h (by omega)).2.1]
theorem shr3_op {c op : Nat} (h : cck c) (ho : op < 10) : (nI (cc c) >>> ((3 : Int32) &&& 31) = nI (op + 1)) ↔ (512 ≤ c ∧ c / 512 - 1 = op) := by
  have hl := cc_lt h
  have k := (sr3 ⟨cc c, by omega⟩).1
  have k' : nI (cc c) >>> ((3 : Int32) &&& 31) = nI (cc c / 8) := k
  rw [k', nI_inj (by omega) (by omega)]
  by_cases q : c < 512
  · have hv := (cc_var h).mpr q
    constructor
    · intro e; omega
    · intro e; omega
  · obtain ⟨e1, e2, e3⟩ := cc_op h (by omega)
    constructor
    · intro e; omega
    · intro e; omega
theorem fx_lay_c {n p op no nv : Nat} {v : Nat → Nat → Int32} {w : Nat → Nat → Int64} {las : Nat → Bool} {N : List (List Nat)} {so ma : Nat → Nat} {un : Nat → Option Nat} {ys : List (List Nat)} (hn : 100000 ≤ n) (hsv : SV so un ma nv) (h : TB v w las N) (hp : p < N.length) (ho : op < 10) (hso : so op < 10) (hl : LNs v N so un op ys) (hs : so op ≠ 0 → ys.Pairwise leL) :
    ∃ v' : Nat → Nat → Int32, fx_X8_lay n v (nI p) = some v' ∧ FRL v v' ∧
      ((ys.length + (flat1 so un op (nth N p)).length ≤ 6 ∧ v' 0 6 = v 0 6 ∧ ∃ ys' : List (List Nat), LNs v' N so un op ys' ∧ ys'.Perm (ys ++ flat1 so un op (nth N p)) ∧ (so op = 0 → ys' = ys ++ flat1 so un op (nth N p)) ∧ (so op ≠ 0 → ys'.Pairwise leL)) ∨
       (6 < ys.length + (flat1 so un op (nth N p)).length ∧ v' 0 6 = 1 ∧ ∃ ys' : List (List Nat), LNs v' N so un op ys' ∧ (so op ≠ 0 → ys'.Pairwise leL))) := by
  have h1 := h.1
  obtain ⟨⟨n1, n2, n3, n4, n5⟩, ⟨n6, _⟩, n7, _⟩ := TB_get h hp
  have hc := n2 _ (hd0_mem n1)
  have cl := cc_lt hc
  have one := lx_lay84_c (n := n) (P0 := nI p) (x2 := nI (cc (hd0 (nth N p)))) (x3 := 0) (K := 1) (un := un) hn (by decide) hso [nth N p] 0 n ys v rfl (by simp; omega) h hl (fun j hj => by
    have : j = 0 := by simpa using hj
    subst this
    exact ⟨p, hp, rfl, Or.inl ⟨rfl, rfl⟩⟩) hs
  have e1 : nI 1 = (1 : Int32) := rfl
  have e0 : nI 0 = (0 : Int32) := rfl
  rw [e1, e0] at one
  have row := row_pts n1
  have hun : ∀ u : Nat, un op = some u → so op = 2 ∧ u < 10 ∧ so u = 0 := fun u hu => ⟨(hsv.2.2.2 op u hu).1, (hsv.2.2.2 op u hu).2.1, (hsv.2.2.2 op u hu).2.2.1⟩
  unfold fx_X8_lay
  rw [if_neg (by rw [show (0 : Int32) = nI 0 from rfl, nI_lt_iff (by omega) (by decide)]; omega), h.2.1, if_neg (by rw [nI_le_iff (by omega) (by omega)]; omega), if_pos (by rw [show (1024 : Int32) = nI 1024 from rfl, nI_lt_iff (by omega) (by decide)]; omega), xr_n (by omega) (by decide), n6, hl.2.2.2.2.1]
  by_cases q2 : so op = 2
  · rw [if_pos (by rw [q2]; rfl), xl_eq, hl.2.2.2.1, xl_eq, nI_1]
    have h5 := hl.2.2.2.2.2
    rw [if_pos q2] at h5
    by_cases qo : 512 ≤ hd0 (nth N p) ∧ hd0 (nth N p) / 512 - 1 = op
    · rw [if_pos ((shr3_op hc ho).mpr qo)]
      have hio : isop op (nth N p) = true := by
        rw [row]
        show (decide (512 ≤ hd0 (nth N p)) && decide (hd0 (nth N p) / 512 - 1 = op)) = true
        rw [decide_eq_true qo.1, decide_eq_true qo.2]; rfl
      have ef : flat1 so un op (nth N p) = pts (nth N p) := by unfold flat1; rw [if_pos q2, if_pos hio]
      rw [ef]
      have nu : ¬ nI (cc (hd0 (nth N p))) = v 0 5 := by
        rw [h5]
        cases hu : un op with
        | none => exact nI_m1 (by omega)
        | some u =>
          obtain ⟨a, b, c⟩ := hun u hu
          have l2 := cc_lt (cck_cdo b (show 0 < 8 by decide))
          show ¬ nI (cc (hd0 (nth N p))) = nI (cc (cdo u 0))
          rw [nI_inj (by omega) (by omega), cc_inj hc (cck_cdo b (by decide))]
          intro e
          have : u = op := by rw [← qo.2, e]; unfold cdo; omega
          rw [this] at c; omega
      unfold jx_X8_lay_57
      rw [if_neg nu, if_neg (by decide), xl_eq, and7 hc (by omega)]
      have pl := pts_len n1
      have g := lx_lay84_c (n := n) (P0 := nI p) (x2 := nI (cc (hd0 (nth N p)))) (x3 := 1) (K := ar (hd0 (nth N p))) (un := un) hn n5 hso (pts (nth N p)) 0 n ys v (by rw [Nat.zero_add, pl]) (by omega) h hl (fun j hj => by
        obtain ⟨s, s1, s2, s3⟩ := n7 j (by omega)
        exact ⟨s, by omega, s2, Or.inr ⟨by decide, p, by omega, rfl, by rw [Nat.zero_add]; exact s3⟩⟩) hs
      rw [e0] at g
      exact g
    · rw [if_neg (fun z => qo ((shr3_op hc ho).mp z))]
      have hio : isop op (nth N p) = false := by
        rw [row]
        show (decide (512 ≤ hd0 (nth N p)) && decide (hd0 (nth N p) / 512 - 1 = op)) = false
        by_cases a : 512 ≤ hd0 (nth N p)
        · rw [decide_eq_true a, decide_eq_false (fun b => qo ⟨a, b⟩)]; rfl
        · rw [decide_eq_false a]; rfl
      unfold jx_X8_lay_57
      by_cases qu : isun un op (nth N p) = true
      · have ef : flat1 so un op (nth N p) = [] := by unfold flat1; rw [if_pos q2, hio, qu]; rfl
        obtain ⟨u, u1, u2⟩ := isun_row (so := so) n1 qu
        have hv : nI (cc (hd0 (nth N p))) = v 0 5 := by rw [h5, u1, u2]; rfl
        rw [if_pos hv, ef]
        refine ⟨v, rfl, FRL.refl, Or.inl ⟨by have := hl.2.1; simpa using this, rfl, ys, hl, by rw [List.append_nil], fun _ => (List.append_nil ys).symm, hs⟩⟩
      · have ef : flat1 so un op (nth N p) = [nth N p] := by
          have qu' : isun un op (nth N p) = false := by cases z : isun un op (nth N p) with
            | false => rfl
            | true => exact absurd z qu
          unfold flat1; rw [if_pos q2, hio, qu']; rfl
        have nu : ¬ nI (cc (hd0 (nth N p))) = v 0 5 := by
          rw [h5]
          cases hu : un op with
          | none => exact nI_m1 (by omega)
          | some u =>
            obtain ⟨a, b, c⟩ := hun u hu
            have l2 := cc_lt (cck_cdo b (show 0 < 8 by decide))
            show ¬ nI (cc (hd0 (nth N p))) = nI (cc (cdo u 0))
            rw [nI_inj (by omega) (by omega), cc_inj hc (cck_cdo b (by decide))]
            intro e
            apply qu
            rw [row]
            unfold isun
            rw [hu]
            exact decide_eq_true e
        rw [if_neg nu, if_pos rfl, ef]
        exact one
  · have ef : flat1 so un op (nth N p) = [nth N p] := by unfold flat1; rw [if_neg q2]
    have h5 := hl.2.2.2.2.2
    rw [if_neg q2] at h5
    rw [if_neg (by rw [show (2 : Int32) = nI 2 from rfl, nI_inj (by omega) (by decide)]; exact q2)]
    unfold jx_X8_lay_57
    rw [h5, if_neg (nI_m1 (by omega)), if_pos rfl, ef]
    exact one
