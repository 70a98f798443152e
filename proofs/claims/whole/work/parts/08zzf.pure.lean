/-! ===== the stepper: insert ===== -/
def stq (S : List StpE) (k : Nat) : StpE := S.getD k (0, 0, [])
theorem stq_app1 {A B : List StpE} {j : Nat} (h : j < A.length) : stq (A ++ B) j = stq A j := by
  unfold stq
  rw [List.getD_eq_getElem?_getD, List.getD_eq_getElem?_getD, List.getElem?_append_left h]
theorem stq_app2 {A B : List StpE} {j : Nat} : stq (A ++ B) (A.length + j) = stq B j := by
  unfold stq
  rw [List.getD_eq_getElem?_getD, List.getD_eq_getElem?_getD, List.getElem?_append_right (by omega), Nat.add_sub_cancel_left]
theorem stq_grp {pl ru : Nat} {D : List (List Nat)} {j : Nat} (h : j < D.length) : stq (grpS pl ru D) j = (pl, ru, nth D j) := by
  unfold stq grpS nth
  rw [List.getD_eq_getElem?_getD, List.getD_eq_getElem?_getD, List.getElem?_map, List.getElem?_eq_getElem h]; rfl
/-- steps as the stepper keeps them -/
def STT (u : Nat → Nat → Int32) (A : List (List Nat)) (S : List StpE) : Prop := S.length = A.length ∧ ∀ k : Nat, k < S.length → ∃ s : Nat, s < A.length ∧ u 1 k = nI s ∧ nth A s = (stq S k).2.2 ∧ u 2 s = nI (stq S k).1 ∧ u 3 s = nI (stq S k).2.1
theorem nth_lst {A : List (List Nat)} {q : List Nat} : nth (A ++ [q]) A.length = q := by
  unfold nth
  rw [List.getD_eq_getElem?_getD, List.getElem?_append_right (Nat.le_refl _), Nat.sub_self]; rfl
theorem STT_ins {u u' : Nat → Nat → Int32} {A : List (List Nat)} {SA SB : List StpE} {pl ru : Nat} {q : List Nat} (h : STT u A (SA ++ SB)) (h1 : ∀ k : Nat, k < SA.length → u' 1 k = u 1 k) (h2 : u' 1 SA.length = nI A.length) (h3 : ∀ k : Nat, SA.length < k → k ≤ A.length → u' 1 k = u 1 (k - 1)) (h4 : ∀ s : Nat, s < A.length → u' 2 s = u 2 s ∧ u' 3 s = u 3 s) (h5 : u' 2 A.length = nI pl) (h6 : u' 3 A.length = nI ru) : STT u' (A ++ [q]) (SA ++ (pl, ru, q) :: SB) := by
  obtain ⟨a1, a2⟩ := h
  rw [List.length_append] at a1 a2
  refine ⟨by rw [List.length_append, List.length_append, List.length_cons, List.length_singleton]; omega, fun k hk => ?_⟩
  rw [List.length_append, List.length_cons] at hk
  have old : ∀ i : Nat, i < SA.length + SB.length → ∃ s : Nat, s < (A ++ [q]).length ∧ u 1 i = nI s ∧ nth (A ++ [q]) s = (stq (SA ++ SB) i).2.2 ∧ u' 2 s = nI (stq (SA ++ SB) i).1 ∧ u' 3 s = nI (stq (SA ++ SB) i).2.1 := fun i hi => by
    obtain ⟨s, b1, b2, b3, b4, b5⟩ := a2 i hi
    exact ⟨s, (nth_pre b1).1, b2, by rw [(nth_pre b1).2]; exact b3, by rw [(h4 s b1).1]; exact b4, by rw [(h4 s b1).2]; exact b5⟩
  rcases Nat.lt_trichotomy k SA.length with z | z | z
  · obtain ⟨s, b1, b2, b3, b4, b5⟩ := old k (by omega)
    rw [stq_app1 z] at b3 b4 b5
    rw [stq_app1 z]
    exact ⟨s, b1, by rw [h1 k z]; exact b2, b3, b4, b5⟩
  · subst z
    have e := stq_app2 (A := SA) (B := (pl, ru, q) :: SB) (j := 0)
    rw [Nat.add_zero] at e
    rw [e]
    exact ⟨A.length, by rw [List.length_append, List.length_singleton]; omega, h2, nth_lst, h5, h6⟩
  · obtain ⟨y, rfl⟩ : ∃ y : Nat, k = SA.length + (y + 1) := ⟨k - SA.length - 1, by omega⟩
    obtain ⟨s, b1, b2, b3, b4, b5⟩ := old (SA.length + y) (by omega)
    rw [stq_app2] at b3 b4 b5
    rw [stq_app2]
    have e : stq ((pl, ru, q) :: SB) (y + 1) = stq SB y := rfl
    rw [e]
    exact ⟨s, b1, by rw [h3 _ z (by omega), show SA.length + (y + 1) - 1 = SA.length + y by omega]; exact b2, b3, b4, b5⟩
abbrev INR := Option (Int32 × (Nat → Nat → Int32) × (Nat → Nat → Int32) × (Nat → Nat → Int32))
theorem lx_ins31_c {n g : Nat} {sp rf ta : Nat → Nat → Int32} {A : List (List Nat)} {S : List StpE} {q : List Nat} {p0 p1 p2 : Int32} (hn : 100000 ≤ n) (hA : A.length ≤ 200) (hR : RWS 201 rf (A ++ [q])) (hS : STT sp A S) (hq : wf 1 q) (hw : ∀ k : Nat, g ≤ k → k < S.length → wf 1 (stq S k).2.2) (hmo : ∀ i j : Nat, g ≤ i → i < j → j < S.length → klt (stq S i).2.2 (stq S j).2.2) :
    ∀ (d low high m : Nat), high - low ≤ d → d < m → g ≤ low → low ≤ high → high ≤ S.length → (∀ k : Nat, g ≤ k → k < low → klt (stq S k).2.2 q) → (∀ k : Nat, high ≤ k → k < S.length → klt q (stq S k).2.2) →
      (∃ k : Nat, g ≤ k ∧ k < S.length ∧ (stq S k).2.2 = q ∧ lx_X7_insert_31 n p0 p1 p2 m (nI A.length) (nI low) (nI high) sp rf ta = (xb1 (fx_X2_dropLast n rf) fun rf' => some ((1 : Int32), sp, rf', ta))) ∨
      ∃ at_ : Nat, g ≤ at_ ∧ at_ ≤ S.length ∧ (∀ k : Nat, g ≤ k → k < at_ → klt (stq S k).2.2 q) ∧ (∀ k : Nat, at_ ≤ k → k < S.length → klt q (stq S k).2.2) ∧
        lx_X7_insert_31 n p0 p1 p2 m (nI A.length) (nI low) (nI high) sp rf ta = jx_X7_insert_117 n p0 p1 p2 (nI A.length) (nI at_) (nI at_) sp rf ta
  | 0, low, high, m + 1, hd, _, hgl, hlh, hh, hlo, hhi => by
    have e : high = low := by omega
    subst e
    refine Or.inr ⟨high, hgl, hh, hlo, hhi, ?_⟩
    show bx_X7_insert_31 n p0 p1 p2 (lx_X7_insert_31 n p0 p1 p2 m) (nI A.length) (nI high) (nI high) sp rf ta = _
    unfold bx_X7_insert_31
    rw [if_neg (by rw [show (0 : Int32) = nI 0 from rfl, nI_lt_iff (by have := hS.1; omega) (by decide)]; omega), if_pos (Int32.le_refl _)]
  | d + 1, low, high, m + 1, hd, hm, hgl, hlh, hh, hlo, hhi => by
    have sl := hS.1
    have hsh : lx_X7_insert_31 n p0 p1 p2 (m + 1) (nI A.length) (nI low) (nI high) sp rf ta = bx_X7_insert_31 n p0 p1 p2 (lx_X7_insert_31 n p0 p1 p2 m) (nI A.length) (nI low) (nI high) sp rf ta := rfl
    rw [hsh]
    unfold bx_X7_insert_31
    rw [if_neg (by rw [show (0 : Int32) = nI 0 from rfl, nI_lt_iff (by omega) (by decide)]; omega)]
    by_cases qe : high ≤ low
    · have e : high = low := by omega
      subst e
      exact Or.inr ⟨high, hgl, hh, hlo, hhi, by rw [if_pos (Int32.le_refl _)]⟩
    · have hmid : ((nI (low + high)).toUInt32 >>> (((1 : Int32)).toUInt32 &&& Int32.toUInt32 31)).toInt32 = nI ((low + high) / 2) := by
        have : ∀ x : Fin 1024, ((nI x.val).toUInt32 >>> (((1 : Int32)).toUInt32 &&& Int32.toUInt32 31)).toInt32 = nI (x.val / 2) := by decide +kernel
        exact this ⟨low + high, by omega⟩
      have hml : (low + high) / 2 < S.length := by omega
      obtain ⟨s, s1, s2, s3, _⟩ := hS.2 _ hml
      have wm := hw _ (by omega) hml
      have e1 := (nth_pre (B := [q]) s1)
      have cp := fx_compare_cs (n := n) hn (by decide) hR (i := A.length) (j := s) (by rw [List.length_append, List.length_singleton]; omega) e1.1 (by rw [nth_lst]; exact hq) (by rw [e1.2, s3]; exact wm)
      rw [nth_lst, e1.2, s3] at cp
      rw [if_neg (by rw [nI_le_iff (by omega) (by omega)]; exact qe), if_neg (by rw [show (200 : Int32) = nI 200 from rfl, nI_lt_iff (by decide) (by omega)]; omega), xl_eq, nI_add, xl_eq, hmid, xr_n (by omega) (by decide), s2, cp, xb1_s]
      rcases cmpL_vals q (stq S ((low + high) / 2)).2.2 with z | z | z
      · rw [z, if_neg (by decide), if_neg (by decide)]
        refine lx_ins31_c hn hA hR hS hq hw hmo d low ((low + high) / 2) m (by omega) (by omega) hgl (by omega) (by omega) hlo (fun k h1 h2 => ?_)
        by_cases e : k = (low + high) / 2
        · rw [e]; exact z
        · exact klt_tr hq wm (hw _ (by omega) h2) z (hmo _ _ (by omega) (by omega) h2)
      · exact Or.inl ⟨(low + high) / 2, by omega, hml, ((cmpL_eq hq wm).mp z).symm, by rw [z, if_pos rfl]⟩
      · rw [z, if_neg (by decide), if_pos (by decide), xl_eq, nI_1]
        have z' := klt_of1 z
        refine lx_ins31_c hn hA hR hS hq hw hmo d ((low + high) / 2 + 1) high m (by omega) (by omega) (by omega) (by omega) hh (fun k h0 h1 => ?_) hhi
        by_cases e : k = (low + high) / 2
        · rw [e]; exact z'
        · exact klt_tr (hw _ h0 (by omega)) wm hq (hmo _ _ h0 (by omega) hml) z'
/-- insert: there already, put in its place, or one too many -/
theorem fx_insert_c {n y pl ru held : Nat} {sp rf v : Nat → Nat → Int32} {w8 : Nat → Nat → Int64} {las : Nat → Bool} {N A : List (List Nat)} {S0 : List StpE} {D : List (List Nat)} (hn : 100000 ≤ n) (hh : held ≤ 90) (hT : TB v w8 las N) (hs : v 0 1 = nI held) (hy : y < N.length) (hR : RWS 201 rf A) (hA : A.length ≤ 200) (hS : STT sp A (S0 ++ grpS pl ru D)) (hg : sp 0 3 = nI S0.length) (hw : ∀ r ∈ D, wf 1 r) (hD : D.Pairwise klt) :
    ∃ (r : Int32) (sp' rf' v' : Nat → Nat → Int32), fx_X7_insert n sp rf v (nI y) (nI pl) (nI ru) = some (r, sp', rf', v') ∧ FRS v v' held ∧ v' 0 1 = nI held ∧ (∀ a : Nat, a ≠ 1 → a ≠ 2 → a ≠ 3 → sp' a = sp a) ∧
      ((r = 1 ∧ nth N y ∈ D ∧ RWS 201 rf' A ∧ STT sp' A (S0 ++ grpS pl ru D)) ∨
       (r = 1 ∧ ∃ D1 D2 : List (List Nat), D = D1 ++ D2 ∧ (D1 ++ nth N y :: D2).Pairwise klt ∧ A.length < 200 ∧ RWS 201 rf' (A ++ [nth N y]) ∧ STT sp' (A ++ [nth N y]) (S0 ++ grpS pl ru (D1 ++ nth N y :: D2))) ∨
       (r = 0 ∧ nth N y ∉ D ∧ A.length = 200 ∧ RWS 201 rf' (A ++ [nth N y]))) := by
  obtain ⟨v', rf1, w1, w2, w3, w4⟩ := fx_write_c (n := n) hn (by decide) hh hR (by omega) hT hy hs
  have hq := (TB_get hT hy).1.1
  generalize nth N y = q at *
  have sl := hS.1
  have gl : (S0 ++ grpS pl ru D).length = S0.length + D.length := by rw [List.length_append]; unfold grpS; rw [List.length_map]
  have rowk : ∀ k : Nat, S0.length ≤ k → k < (S0 ++ grpS pl ru D).length → (stq (S0 ++ grpS pl ru D) k).2.2 = nth D (k - S0.length) ∧ k - S0.length < D.length := fun k h1 h2 => by
    obtain ⟨z, rfl⟩ : ∃ z : Nat, k = S0.length + z := ⟨k - S0.length, by omega⟩
    rw [stq_app2, stq_grp (by omega), Nat.add_sub_cancel_left]
    exact ⟨rfl, by omega⟩
  have hww : ∀ k : Nat, S0.length ≤ k → k < (S0 ++ grpS pl ru D).length → wf 1 (stq (S0 ++ grpS pl ru D) k).2.2 := fun k h1 h2 => by
    obtain ⟨e, l⟩ := rowk k h1 h2
    rw [e]; exact hw _ (nth_mem l)
  have hmo : ∀ i j : Nat, S0.length ≤ i → i < j → j < (S0 ++ grpS pl ru D).length → klt (stq (S0 ++ grpS pl ru D) i).2.2 (stq (S0 ++ grpS pl ru D) j).2.2 := fun i j h1 h2 h3 => by
    obtain ⟨e1, l1⟩ := rowk i h1 (by omega)
    obtain ⟨e2, l2⟩ := rowk j (by omega) h3
    have hp := List.pairwise_iff_getElem.mp hD (i - S0.length) (j - S0.length) l1 l2 (by omega)
    rw [e1, e2]
    unfold nth
    rw [List.getD_eq_getElem?_getD, List.getD_eq_getElem?_getD, List.getElem?_eq_getElem l1, List.getElem?_eq_getElem l2]
    exact hp
  have e0 : fx_X7_insert n sp rf v (nI y) (nI pl) (nI ru) = lx_X7_insert_31 n (nI y) (nI pl) (nI ru) n (nI A.length) (nI S0.length) (nI A.length) sp rf1 v' := by
    unfold fx_X7_insert
    rw [w1, xb2_s, hR.2.1, hg]
  rw [e0]
  have lp := lx_ins31_c (n := n) (g := S0.length) (ta := v') (p0 := nI y) (p1 := nI pl) (p2 := nI ru) hn hA w2 hS hq hww hmo (A.length) S0.length A.length n (by omega) (by omega) (Nat.le_refl _) (by omega) (by omega) (fun k h1 h2 => by omega) (fun k h1 h2 => by omega)
  rcases lp with ⟨k, k1, k2, k3, k4⟩ | ⟨at_, a1, a2, a3, a4, a5⟩
  · obtain ⟨e, l⟩ := rowk k k1 k2
    obtain ⟨rf2, d1, d2⟩ := fx_dropLast_c (n := n) (by decide) w2
    rw [k4, d1, xb1_s]
    exact ⟨1, sp, rf2, v', rfl, w3, w4, fun _ _ _ _ => rfl, Or.inl ⟨rfl, by rw [← k3, e]; exact nth_mem l, d2, hS⟩⟩
  · rw [a5]
    unfold jx_X7_insert_117
    have hneg : ∀ x : Nat, x < 2147483648 → ¬ nI x < (0 : Int32) := fun x hx => by rw [show (0 : Int32) = nI 0 from rfl, nI_lt_iff hx (by decide)]; omega
    rw [if_neg (hneg _ (by omega))]
    have hnotD : q ∉ D := fun hm => by
      obtain ⟨z, z1, z2⟩ := mem_nth hm
      have e1 := rowk (S0.length + z) (by omega) (by omega)
      rw [Nat.add_sub_cancel_left, z2] at e1
      rcases Nat.lt_or_ge (S0.length + z) at_ with g | g
      · have := a3 _ (by omega) g
        rw [e1.1] at this; exact klt_irrefl this
      · have := a4 _ g (by omega)
        rw [e1.1] at this; exact klt_irrefl this
    by_cases full : A.length = 200
    · rw [if_pos (by rw [full]; decide)]
      exact ⟨0, sp, rf1, v', rfl, w3, w4, fun _ _ _ _ => rfl, Or.inr (Or.inr ⟨rfl, hnotD, full, w2⟩)⟩
    · have hcl : ∀ x : Nat, x < 2147483648 → (nI x).toNatClampNeg = x := fun x hx => nI_clamp hx
      have e1 : (1 : Int32) = nI 1 := rfl
      rw [if_neg (by rw [show (200 : Int32) = nI 200 from rfl, nI_le_iff (by decide) (by omega)]; omega), if_neg (hneg _ (by omega)), if_pos (by rw [nI_le_iff (by omega) (by omega)]; omega), xl_eq, e1, nI_add, xl_eq, nI_sub (by omega)]
      unfold xcp
      rw [if_pos ⟨hneg _ (by omega), hneg _ (by omega), hneg _ (by omega), by rw [hcl _ (by omega), hcl _ (by omega)]; omega, by rw [hcl _ (by omega), hcl _ (by omega)]; omega⟩, hcl _ (by omega), hcl _ (by omega), hcl _ (by omega)]
      show ∃ (r : Int32) (sp' rf' v'' : Nat → Nat → Int32), xwp 201 (mcp sp 1 (sp 1) at_ (at_ + 1) (A.length - at_)) 1 (nI at_) (nI A.length) _ = some (r, sp', rf', v'') ∧ _
      rw [xwp_n (by omega) (by decide), xwp_n (by omega) (by decide), xwp_n (by omega) (by decide)]
      refine ⟨nI 1, _, rf1, v', rfl, w3, w4, fun a h1 h2 h3 => by rw [mu_ne h3, mu_ne h2, mu_ne h1, mcp_ne h1], Or.inr (Or.inl ⟨rfl, D.take (at_ - S0.length), D.drop (at_ - S0.length), (List.take_append_drop _ D).symm, ?_, by omega, w2, ?_⟩)⟩
      · have hp := hD
        rw [← List.take_append_drop (at_ - S0.length) D] at hp
        have hp := List.pairwise_append.mp hp
        have tl : (D.take (at_ - S0.length)).length = at_ - S0.length := by rw [List.length_take]; omega
        refine List.pairwise_append.mpr ⟨hp.1, List.pairwise_cons.mpr ⟨fun z hz => ?_, hp.2.1⟩, fun x hx z hz => ?_⟩
        · obtain ⟨i, i1, i2⟩ := List.mem_iff_getElem.mp hz
          rw [List.length_drop] at i1
          have := a4 (at_ + i) (by omega) (by omega)
          have er := rowk (at_ + i) (by omega) (by omega)
          rw [er.1] at this
          rw [List.getElem_drop] at i2
          have en : nth D (at_ + i - S0.length) = z := by
            unfold nth
            rw [List.getD_eq_getElem?_getD, List.getElem?_eq_getElem er.2, ← i2]
            simp only [show at_ + i - S0.length = at_ - S0.length + i by omega]; rfl
          rw [en] at this; exact this
        · rcases List.mem_cons.mp hz with g | g
          · obtain ⟨i, i1, i2⟩ := List.mem_iff_getElem.mp hx
            rw [tl] at i1
            have := a3 (S0.length + i) (by omega) (by omega)
            have er := rowk (S0.length + i) (by omega) (by omega)
            rw [er.1, Nat.add_sub_cancel_left] at this
            rw [List.getElem_take] at i2
            have en : nth D i = x := by
              unfold nth
              rw [List.getD_eq_getElem?_getD, List.getElem?_eq_getElem (by omega), ← i2]; rfl
            rw [en] at this
            rw [g]; exact this
          · exact hp.2.2 x hx z g
      · have esp : S0 ++ grpS pl ru D = (S0 ++ grpS pl ru (D.take (at_ - S0.length))) ++ grpS pl ru (D.drop (at_ - S0.length)) := by
          unfold grpS
          rw [List.append_assoc, ← List.map_append, List.take_append_drop]
        have enw : S0 ++ grpS pl ru (D.take (at_ - S0.length) ++ q :: D.drop (at_ - S0.length)) = (S0 ++ grpS pl ru (D.take (at_ - S0.length))) ++ (pl, ru, q) :: grpS pl ru (D.drop (at_ - S0.length)) := by
          unfold grpS
          rw [List.map_append, List.map_cons, List.append_assoc]
        have sal : (S0 ++ grpS pl ru (D.take (at_ - S0.length))).length = at_ := by
          unfold grpS
          rw [List.length_append, List.length_map, List.length_take]; omega
        rw [enw]
        rw [esp] at hS
        refine STT_ins hS (fun k hk => ?_) ?_ (fun k h1 h2 => ?_) (fun s hs9 => ⟨?_, ?_⟩) ?_ ?_
        · rw [sal] at hk
          rw [mu_ne (by decide), mu_ne (by decide), mu_eq, upd_ne (by omega), mcp_eq]
          unfold va_cpy
          rw [if_neg (by omega)]
        · rw [sal, mu_ne (by decide), mu_ne (by decide), mu_eq, upd_eq]
        · rw [sal] at h1
          rw [mu_ne (by decide), mu_ne (by decide), mu_eq, upd_ne (by omega), mcp_eq]
          unfold va_cpy
          rw [if_pos (by omega), show at_ + (k - (at_ + 1)) = k - 1 by omega]
        · rw [mu_ne (by decide), mu_eq, upd_ne (by omega), mu_ne (by decide), mcp_ne (by decide)]
        · rw [mu_eq, upd_ne (by omega), mu_ne (by decide), mu_ne (by decide), mcp_ne (by decide)]
        · rw [mu_ne (by decide), mu_eq, upd_eq]
        · rw [mu_eq, upd_eq]
