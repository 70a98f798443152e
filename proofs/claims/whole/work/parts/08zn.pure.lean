/-! ===== the matcher: a sum's goal ===== -/
theorem gsum_iff {so ma : Nat → Nat} {un : Nat → Option Nat} {nv L : Nat} {sg : Nat → List Nat} {p t : List Nat} (hsv : SV so un ma nv) (hp : tok so un ma nv p) (hk : kd so p = 2) (ho : opn p < 10 ∧ so (opn p) ≠ 3) (ht : tok so un ma nv t) (hne : sl L (pts p) ≠ []) : gsat so un sg (p, L, t) ↔ (∀ q ∈ sl L (pts p), von so un sg q) ∧ (flats so un (opn p) ((sl L (pts p)).map (fil so un sg))).Perm (flat1 so un (opn p) t) := by
  have hsu := SV_SU hsv
  obtain ⟨s1, s2, s3, s4⟩ := sum_ar hp hk
  have h20 := tok_len ht
  have hp20 := tok_len hp
  have rl := congrArg List.length (row_pts hp.1.1.1)
  rw [List.length_cons] at rl
  have hll : (sl L (pts p)).flatten.length ≤ (pts p).flatten.length := sel_len
  unfold gsat
  rw [if_pos hk]
  show (∀ q ∈ sl L (pts p), von so un sg q) ∧ stand so un (opn p) ((sl L (pts p)).map (fil so un sg)) = t ↔ _
  constructor
  · rintro ⟨a, b⟩
    obtain ⟨n1, n2⟩ := fils_ok (sg := sg) hsu (Q := sl L (pts p)) (fun q hq => ⟨tok_pts hp q (sel_mem hq), a q hq⟩) (Nat.le_trans hll (by omega))
    exact ⟨a, (stand_eq hsu ho s2 n1 (by rw [Ne, List.map_eq_nil_iff]; exact hne) n2 ht.1 (by omega)).mp b⟩
  · rintro ⟨a, b⟩
    obtain ⟨n1, n2⟩ := fils_ok (sg := sg) hsu (Q := sl L (pts p)) (fun q hq => ⟨tok_pts hp q (sel_mem hq), a q hq⟩) (Nat.le_trans hll (by omega))
    exact ⟨a, (stand_eq hsu ho s2 n1 (by rw [Ne, List.map_eq_nil_iff]; exact hne) n2 ht.1 (by omega)).mpr b⟩
/-- what stands after some parts were looked at -/
def MSI (so : Nat → Nat) (un : Nat → Option Nat) (be : Nat → Option (List Nat)) (p : List Nat) (L : Nat) (t : List Nat) (k lf rs : Nat) : Prop :=
  lf < 64 ∧ rs < 64 ∧ (∀ j : Nat, lf.testBit j = true → j < (pts p).length ∧ L.testBit j = true) ∧ (∀ j : Nat, (flat1 so un (opn p) t).length ≤ j → rs.testBit j = false) ∧
    (∃ Gd : List (List Nat), (sl L (pts p)).Perm (Gd ++ sl lf (pts p)) ∧ (∀ q ∈ Gd, q ∈ pts p ∧ ∀ c ∈ q, c < 512 → be c ≠ none) ∧ (flat1 so un (opn p) t).Perm (flats so un (opn p) (Gd.map (fil so un (sgB be))) ++ sl rs (flat1 so un (opn p) t))) ∧
    ∀ z : Nat, z < k → lf.testBit z = true → nong be (nth (pts p) z)
theorem map_fil_gd {so ma : Nat → Nat} {un : Nat → Option Nat} {nv : Nat} {sg : Nat → List Nat} {be : Nat → Option (List Nat)} {p : List Nat} {Gd : List (List Nat)} (hp : tok so un ma nv p) (hx : extS be sg) (hg : ∀ q ∈ Gd, q ∈ pts p ∧ ∀ c ∈ q, c < 512 → be c ≠ none) : Gd.map (fil so un sg) = Gd.map (fil so un (sgB be)) := List.map_congr_left (fun q hq => by
  obtain ⟨a, b⟩ := hg q hq
  have tq := tok_pts hp q a
  exact fil_congr tq.1.1.1 (tok_len tq) (extS_sgB hx tq.1.1.2.1 b))
/-- what is asked of the others -/
theorem MSI_sem {so ma : Nat → Nat} {un : Nat → Option Nat} {nv L k lf rs : Nat} {sg : Nat → List Nat} {be : Nat → Option (List Nat)} {p t : List Nat} (hsv : SV so un ma nv) (hp : tok so un ma nv p) (hk : kd so p = 2) (ho : opn p < 10 ∧ so (opn p) ≠ 3) (ht : tok so un ma nv t) (hne : sl L (pts p) ≠ []) (hx : extS be sg) (hvB : ∀ q ∈ pts p, (∀ c ∈ q, c < 512 → be c ≠ none) → von so un (sgB be) q) (hM : MSI so un be p L t k lf rs) :
    gsat so un sg (p, L, t) ↔ (∀ q ∈ sl lf (pts p), von so un sg q) ∧ (flats so un (opn p) ((sl lf (pts p)).map (fil so un sg))).Perm (sl rs (flat1 so un (opn p) t)) := by
  obtain ⟨m1, m2, m3, m4, ⟨Gd, g1, g2, g3⟩, m5⟩ := hM
  rw [gsum_iff hsv hp hk ho ht hne]
  have eg := map_fil_gd (sg := sg) (un := un) hp hx g2
  have pm : (flats so un (opn p) ((sl L (pts p)).map (fil so un sg))).Perm (flats so un (opn p) (Gd.map (fil so un (sgB be))) ++ flats so un (opn p) ((sl lf (pts p)).map (fil so un sg))) := by
    have := flats_perm (so := so) (un := un) (op := opn p) (g1.map (fil so un sg))
    rw [List.map_append, flats_app, eg] at this
    exact this
  constructor
  · rintro ⟨a, b⟩
    refine ⟨fun q hq => a q (g1.mem_iff.mpr (List.mem_append_right _ hq)), ?_⟩
    exact (List.perm_append_left_iff _).mp ((pm.symm.trans b).trans g3)
  · rintro ⟨a, b⟩
    refine ⟨fun q hq => ?_, (pm.trans (List.Perm.append_left _ b)).trans g3.symm⟩
    rcases List.mem_append.mp (g1.mem_iff.mp hq) with h | h
    · obtain ⟨y1, y2⟩ := g2 q h
      have tq := tok_pts hp q y1
      exact von_congr (fun c hc h5 => (extS_sgB hx tq.1.1.2.1 y2 c hc h5).symm) (hvB q y1 y2)
    · exact a q h
theorem lx_ms86_c {n i0 a b no nv hd L : Nat} {ga u : Nat → Nat → Int32} {las : Nat → Bool} {N : List (List Nat)} {so ma : Nat → Nat} {un : Nat → Option Nat} {nmL : Nat → List Nat} {be : Nat → Option (List Nat)} {p t : List Nat} {x4 : Int32} (hn : 100000 ≤ n) (he : ENV ga las so ma un no nv nmL) (hhd : hd ≤ 80) (hN : N.length + 30 ≤ 1024) (hB : BDG u N be) (ha : a < N.length) (ha2 : nth N a = p) (hb9 : b < N.length) (hb2 : nth N b = t) (hk : kd so p = 2) (hne : sl L (pts p) ≠ []) :
    ∀ (d k m lf rs : Nat) (vt : Nat → Nat → Int32) (w : Nat → Nat → Int64), k + d = (pts p).length → d + 1 < m → TBK vt w las so ma un nv N → vt 0 1 = nI hd → MSI so un be p L t k lf rs →
      (∃ (vt' : Nat → Nat → Int32) (w' : Nat → Nat → Int64), lx_X0_meetSum_86 n ga (nI i0) m (nI a) (nI b) x4 (nI (opn p)) (nI (pts p).length) (nI lf) (nI rs) (nI k) u vt w = some (-2, u, vt', w') ∧ TBK vt' w' las so ma un nv N ∧ vt' 0 1 = nI hd ∧ ∀ sg : Nat → List Nat, extS be sg → ¬ gsat so un sg (p, L, t)) ∨
      (∃ (lf' rs' : Nat) (vt' : Nat → Nat → Int32) (w' : Nat → Nat → Int64) (x9 : Int32), MSI so un be p L t (pts p).length lf' rs' ∧ TBK vt' w' las so ma un nv N ∧ vt' 0 1 = nI hd ∧ lx_X0_meetSum_86 n ga (nI i0) m (nI a) (nI b) x4 (nI (opn p)) (nI (pts p).length) (nI lf) (nI rs) (nI k) u vt w = jx_X0_meetSum_216 n ga (nI i0) (nI a) (nI b) x4 (nI (opn p)) (nI (pts p).length) (nI lf') (nI rs') x9 u vt' w')
  | 0, k, m + 1, lf, rs, vt, w, hkd, _, hT, hst, hM => by
    have ek : k = (pts p).length := by omega
    subst ek
    refine Or.inr ⟨lf, rs, vt, w, nI (pts p).length, hM, hT, hst, ?_⟩
    show bx_X0_meetSum_86 n ga (nI i0) (lx_X0_meetSum_86 n ga (nI i0) m) (nI a) (nI b) x4 (nI (opn p)) (nI (pts p).length) (nI lf) (nI rs) (nI (pts p).length) u vt w = _
    unfold bx_X0_meetSum_86
    rw [if_pos (Int32.le_refl _)]
  | d + 1, k, m + 1, lf, rs, vt, w, hkd, hm, hT, hst, hM => by
    have hsv := he.2.1
    have hsu := SV_SU hsv
    have hs2 := fun (o : Nat) (h : so o ≠ 3) => (ENV_op he h).2.2
    have tp := hT.2 _ (nth_mem ha)
    have tt := hT.2 _ (nth_mem hb9)
    rw [ha2] at tp
    rw [hb2] at tt
    obtain ⟨s1, s2, s3, s4⟩ := sum_ar tp hk
    obtain ⟨o1, o2, o3⟩ := ENV_op he (op := opn p) (by omega)
    have hoo : opn p < 10 ∧ so (opn p) ≠ 3 := ⟨o2, by omega⟩
    have h6 : (pts p).length ≤ 6 := by rw [pts_len tp.1.1.1]; exact (tok_ar hsv hs2 tp _ (hd0_mem tp.1.1.1)).1
    have kl : k < (pts p).length := by omega
    have hMs := hM
    obtain ⟨m1, m2, m3, m4, ⟨Gd, g1, g2, g3⟩, m5⟩ := hM
    have hvB : ∀ q ∈ pts p, (∀ c ∈ q, c < 512 → be c ≠ none) → von so un (sgB be) q := fun q hq hg => by
      have tq := tok_pts tp q hq
      exact (tok_von hsv.1 hT.2 tq.2.2 (BNC_of hB tq.1.1.2.1 hg)).1
    obtain ⟨q, q1, q2, q3⟩ := fx_partOf_c (n := n) hT.1 ha (j := k) (by rw [ha2, ← pts_len tp.1.1.1]; exact kl)
    rw [ha2] at q2
    have hqN : q < N.length := by omega
    have tq : tok so un ma nv (nth (pts p) k) := tok_pts tp _ (nth_mem kl)
    have mk := fx_maskOf_c (n := n) hT.1 hqN
    rw [q2] at mk
    have gc := ground_c (p := nth (pts p) k) hB tq.1.1.2.1
    have hsh : lx_X0_meetSum_86 n ga (nI i0) (m + 1) (nI a) (nI b) x4 (nI (opn p)) (nI (pts p).length) (nI lf) (nI rs) (nI k) u vt w = bx_X0_meetSum_86 n ga (nI i0) (lx_X0_meetSum_86 n ga (nI i0) m) (nI a) (nI b) x4 (nI (opn p)) (nI (pts p).length) (nI lf) (nI rs) (nI k) u vt w := rfl
    rw [hsh]
    unfold bx_X0_meetSum_86
    rw [if_neg (by rw [nI_le_iff (by omega) (by omega)]; omega), if_neg (by rw [show (0 : Int32) = nI 0 from rfl, nI_lt_iff (by omega) (by decide)]; omega), q3, xb1_s, xl_eq, xl_eq]
    cases hb : lf.testBit k with
    | false =>
      rw [if_pos ((bit0 m1 (by omega)).mpr hb), xl_eq, nI_1]
      exact lx_ms86_c hn he hhd hN hB ha ha2 hb9 hb2 hk hne d (k + 1) m lf rs vt w (by omega) (by omega) hT hst ⟨m1, m2, m3, m4, ⟨Gd, g1, g2, g3⟩, fun z hz hz2 => by
        by_cases e : z = k
        · rw [e, hb] at hz2; exact nomatch hz2
        · exact m5 z (by omega) hz2⟩
    | true =>
      rw [if_neg (fun z => by rw [(bit0 m1 (by omega)).mp z] at hb; exact nomatch hb), mk, xb1_s, xl_eq, xl_eq]
      by_cases gr : ∀ c ∈ nth (pts p) k, c < 512 → be c ≠ none
      · rw [if_pos (gc.mpr gr)]
        obtain ⟨r, v1, w1, E, y1, y2, y3, y4, y5, v2, z1, z2, z3⟩ := put_back (n := n) hn he hT hst hhd hN hB hqN (by rw [q2]; exact gr)
        rw [q2] at y3 y4
        rw [y1, xb3_s]
        obtain ⟨c1, c2, c3⟩ := clr_ok ⟨lf, m1⟩ ⟨k, by omega⟩
        have c2' : (nI lf &&& (((1 : Int32) <<< (nI k &&& 31)) ^^^ (-1))) = nI (clr lf k) := c2
        have cb : ∀ j : Nat, (clr lf k).testBit j = (lf.testBit j && decide (j ≠ k)) := fun j => by
          by_cases g : j < 6
          · exact c3 ⟨j, g⟩
          · rw [bit_hi c1 (by omega), bit_hi m1 (by omega)]; rfl
        have sc := sel_clr (s := lf) (s' := clr lf k) (i := k) (qs := pts p) (k := 0) (Nat.zero_le _) (by omega) hb (by rw [cb k]; simp) (fun j hj _ _ => by rw [cb j]; simp [hj])
        rw [Nat.sub_zero] at sc
        have fq : ∀ sg : Nat → List Nat, extS be sg → fil so un sg (nth (pts p) k) = fil so un (sgB be) (nth (pts p) k) := fun sg hx => fil_congr tq.1.1.1 (tok_len tq) (extS_sgB hx tq.1.1.2.1 gr)
        -- a part that cannot be there
        have dead : (∀ R : List (List Nat), ¬ (sl rs (flat1 so un (opn p) t)).Perm (flat1 so un (opn p) (fil so un (sgB be) (nth (pts p) k)) ++ R)) → ∀ sg : Nat → List Nat, extS be sg → ¬ gsat so un sg (p, L, t) := fun hno sg hx hs => by
          obtain ⟨a1, a2⟩ := (MSI_sem hsv tp hk hoo tt hne hx hvB hMs).mp hs
          have e1 := flats_perm (so := so) (un := un) (op := opn p) (sc.map (fil so un sg))
          rw [List.map_cons, fq sg hx] at e1
          exact hno _ (a2.symm.trans e1)
        have fail : ∀ (m : Nat) (r0 : Int32), 0 < m → (∀ R : List (List Nat), ¬ (sl rs (flat1 so un (opn p) t)).Perm (flat1 so un (opn p) (fil so un (sgB be) (nth (pts p) k)) ++ R)) →
            jx_X0_meetSum_188 n ga (nI i0) (lx_X0_meetSum_86 n ga (nI i0) m) (nI a) (nI b) x4 (nI (opn p)) (nI (pts p).length) (nI lf) (nI rs) (nI k) (nI q) (vt 0 0) r0 (-1) u v1 w1 = some (-2, u, v2, w1) := fun m r0 hm9 _ => by
          unfold jx_X0_meetSum_188
          rw [z1, xb1_s, xl_eq, xl_eq, xl_eq, c2', xl_eq, nI_1]
          have e216 : ∀ x9 : Int32, jx_X0_meetSum_216 n ga (nI i0) (nI a) (nI b) x4 (nI (opn p)) (nI (pts p).length) (nI (clr lf k)) (-1) x9 u v2 w1 = some (-2, u, v2, w1) := fun x9 => by
            unfold jx_X0_meetSum_216
            rw [if_neg (by decide)]
          obtain ⟨m', hm'⟩ : ∃ m' : Nat, m = m' + 1 := ⟨m - 1, by omega⟩
          rw [hm']
          show bx_X0_meetSum_86 n ga (nI i0) (lx_X0_meetSum_86 n ga (nI i0) m') (nI a) (nI b) x4 (nI (opn p)) (nI (pts p).length) (nI (clr lf k)) (-1) (nI (k + 1)) u v2 w1 = _
          unfold bx_X0_meetSum_86
          by_cases g : nI (pts p).length ≤ nI (k + 1)
          · rw [if_pos g, e216]
          · rw [if_neg g, if_pos (by decide), e216]
        rcases y3 with ⟨k1, k2⟩ | ⟨k1, y', k2, k3, k4⟩
        · rw [k2, if_neg (by decide)]
          have hdead : ∀ sg : Nat → List Nat, extS be sg → ¬ gsat so un sg (p, L, t) := fun sg hx hs => by
            have hs9 := hs
            unfold gsat at hs9
            rw [if_pos hk] at hs9
            have hs9' : (∀ q ∈ sl L (pts p), von so un sg q) ∧ stand so un (opn p) ((sl L (pts p)).map (fil so un sg)) = t := hs9
            have hll : (sl L (pts p)).flatten.length ≤ (pts p).flatten.length := sel_len
            have hp20 := tok_len tp
            have rl := congrArg List.length (row_pts tp.1.1.1)
            rw [List.length_cons] at rl
            obtain ⟨n1, n2⟩ := fils_ok (sg := sg) hsu (Q := sl L (pts p)) (fun q hq => ⟨tok_pts tp q (sel_mem hq), hs9'.1 q hq⟩) (Nat.le_trans hll (by omega))
            have hmem : nth (pts p) k ∈ sl L (pts p) := g1.mem_iff.mpr (List.mem_append_right _ (sc.mem_iff.mpr List.mem_cons_self))
            have gst := great_stand (t := fil so un sg (nth (pts p) k)) hsu hoo (noks_okts n1) (List.mem_map.mpr ⟨_, hmem, rfl⟩) n2 (by rw [fq sg hx]; exact k1)
            rw [hs9'.2, tt.2.1] at gst
            exact nomatch gst
          refine Or.inl ⟨v2, w1, ?_, z2, z3, hdead⟩
          unfold jx_X0_meetSum_188
          rw [z1, xb1_s, xl_eq, xl_eq, xl_eq, c2', xl_eq, nI_1]
          have e216 : ∀ x9 : Int32, jx_X0_meetSum_216 n ga (nI i0) (nI a) (nI b) x4 (nI (opn p)) (nI (pts p).length) (nI (clr lf k)) (-1) x9 u v2 w1 = some (-2, u, v2, w1) := fun x9 => by
            unfold jx_X0_meetSum_216
            rw [if_neg (by decide)]
          obtain ⟨m', hm'⟩ : ∃ m' : Nat, m = m' + 1 := ⟨m - 1, by omega⟩
          rw [hm']
          show bx_X0_meetSum_86 n ga (nI i0) (lx_X0_meetSum_86 n ga (nI i0) m') (nI a) (nI b) x4 (nI (opn p)) (nI (pts p).length) (nI (clr lf k)) (-1) (nI (k + 1)) u v2 w1 = _
          unfold bx_X0_meetSum_86
          by_cases g : nI (pts p).length ≤ nI (k + 1)
          · rw [if_pos g, e216]
          · rw [if_neg g, if_pos (by decide), e216]
        · have y2l := y2.1.1
          rw [k4, if_pos (by rw [show (0 : Int32) = nI 0 from rfl, nI_le_iff (by decide) (by omega)]; omega)]
          have wo := fx_without_c (n := n) (bits := rs) (op := opn p) hn he y2.1 (nth_pre (B := E) hb9).1 k2 s2 m2 (by rw [(nth_pre hb9).2, hb2]; exact m4)
          rw [(nth_pre hb9).2, hb2, k3] at wo
          rcases wo with ⟨rs', r1, r2, r3, r4⟩ | ⟨r1, r2⟩
          · rw [r3, xb1_s]
            unfold jx_X0_meetSum_188
            rw [z1, xb1_s, xl_eq, xl_eq, xl_eq, c2', xl_eq, nI_1]
            refine lx_ms86_c hn he hhd hN hB ha ha2 hb9 hb2 hk hne d (k + 1) m (clr lf k) rs' v2 w1 (by omega) (by omega) z2 z3 ⟨c1, r1, fun j hj => ?_, fun j hj => ?_, ⟨Gd ++ [nth (pts p) k], ?_, fun z hz => ?_, ?_⟩, fun z hz hz2 => ?_⟩
            · rw [cb j] at hj
              exact m3 j (by simp at hj; exact hj.1)
            · cases hq : rs'.testBit j with
              | false => rfl
              | true => have := r2 j hq; rw [m4 j hj] at this; exact nomatch this
            · rw [List.append_assoc]
              exact g1.trans (List.Perm.append_left _ sc)
            · rcases List.mem_append.mp hz with h | h
              · exact g2 z h
              · rw [List.mem_singleton.mp h]; exact ⟨nth_mem kl, gr⟩
            · rw [List.map_append, flats_app]
              show (flat1 so un (opn p) t).Perm (_ ++ (flat1 so un (opn p) (fil so un (sgB be) (nth (pts p) k)) ++ []) ++ _)
              rw [List.append_nil, List.append_assoc]
              exact g3.trans (List.Perm.append_left _ r4)
            · rw [cb z] at hz2
              have hz3 : lf.testBit z = true ∧ z ≠ k := by simpa using hz2
              exact m5 z (by omega) hz3.1
          · rw [r1, xb1_s]
            exact Or.inl ⟨v2, w1, fail m (nI y') (by omega) r2, z2, z3, dead r2⟩
      · rw [if_neg (fun z => gr (gc.mp z)), xl_eq, nI_1]
        exact lx_ms86_c hn he hhd hN hB ha ha2 hb9 hb2 hk hne d (k + 1) m lf rs vt w (by omega) (by omega) hT hst ⟨m1, m2, m3, m4, ⟨Gd, g1, g2, g3⟩, fun z hz hz2 => by
          by_cases e : z = k
          · rw [e]
            apply Classical.byContradiction
            intro h
            exact gr (fun c hc h5 hn9 => h ⟨c, hc, h5, hn9⟩)
          · exact m5 z (by omega) hz2⟩
