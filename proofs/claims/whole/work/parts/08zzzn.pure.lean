/-! ===== matches, bound: the class ===== -/
theorem kok_key {pv : Int32} {sg : Nat → List Nat} (h : ∀ v : Nat, v < 5 → hb pv v = true → (sg v).length ≤ 20 ∧ col (sg v)) : kok (key pv sg) := ⟨keyF_len (fun v hv q => (h v hv q).1) 5 0 (by omega), keyF_ok (fun v hv q => (h v hv q).2) 5 0 (by omega)⟩
/-- two told terms matched: what the class has then -/
def MTO (las : Nat → Bool) (so ma : Nat → Nat) (un : Nat → Option Nat) (nv : Nat) (P T : List Nat) (o : Option (Int32 × (Nat → Nat → Int32) × (Nat → Nat → Int64) × (Nat → Nat → Int32))) : Prop :=
  ∃ (x9 : Int32) (v' : Nat → Nat → Int32) (w' : Nat → Nat → Int64) (u' : Nat → Nat → Int32) (N : List (List Nat)), o = some (x9, v', w', u') ∧ TBK v' w' las so ma un nv N ∧ v' 0 1 = nI 0 ∧
    ((x9 = 0 ∧ ∃ (pv : Int32) (Fs : List Sbs), FND u' N pv Fs ∧ MatL so un P T pv (Fs.map (key pv)) ∧ ∀ f ∈ Fs, MTG so un P T f) ∨ (x9 = 2 ∧ TMm so un P T))
theorem MatL_of {so ma : Nat → Nat} {un : Nat → Option Nat} {nv : Nat} {N : List (List Nat)} {u : Nat → Nat → Int32} {pv : Int32} {P T : List Nat} {Fs : List Sbs} (hN : ∀ t ∈ N, tok so un ma nv t) (hp : pvs pv P) (hF : FND u N pv Fs) (h1 : ∀ f ∈ Fs, MTG so un P T f) (h2 : ∀ sg : Sbs, MTG so un P T sg → ∃ f ∈ Fs, key pv f = key pv sg) : MatL so un P T pv (Fs.map (key pv)) := by
  obtain ⟨f1, f2, f3, f4⟩ := hF
  refine ⟨hp, ⟨fun k hk => ?_, f3⟩, by rw [List.length_map]; exact f2, fun k => ?_⟩
  · obtain ⟨f, g1, g2⟩ := List.mem_map.mp hk
    obtain ⟨j, j1, j2⟩ := List.getElem_of_mem g1
    have e : fnt Fs j = f := by
      unfold fnt
      rw [List.getD_eq_getElem?_getD, List.getElem?_eq_getElem j1]; exact j2
    obtain ⟨s, s1, s2, s3⟩ := f4 j j1
    rw [e] at s3
    rw [← g2]
    refine kok_key (fun v hv hb9 => ?_)
    rcases s3 v hv with ⟨a, y, y1, y2, y3⟩ | ⟨a, _⟩
    · have t := hN _ (nth_mem y1)
      rw [y2] at t
      exact ⟨tok_len t, t.1.1.2.1⟩
    · rw [a] at hb9; exact nomatch hb9
  · rw [List.mem_map]
    constructor
    · rintro ⟨f, g1, g2⟩
      obtain ⟨m1, m2⟩ := h1 f g1
      exact ⟨f, m1, m2, g2.symm⟩
    · rintro ⟨sg, m1, m2, m3⟩
      obtain ⟨f, g1, g2⟩ := h2 sg ⟨m1, m2⟩
      exact ⟨f, g1, g2.trans m3.symm⟩
theorem fx_matchTold_c {n no nv i j : Nat} {ga rt v u : Nat → Nat → Int32} {w : Nat → Nat → Int64} {las las0 : Nat → Bool} {so ma : Nat → Nat} {un : Nat → Option Nat} {nmL : Nat → List Nat} {A N0 : List (List Nat)} (hn : 100000000 ≤ n) (he : ENV ga las so ma un no nv nmL) (hmv : MVA so ma un las nv) (hA : RWS 30 rt A) (ht : ∀ t ∈ A, tok so un ma nv t) (hT : TB v w las0 N0) (hi : i < A.length) (hj : j < A.length) :
    MTO las so ma un nv (nth A i) (nth A j) (fx_X9_matchTold n rt v w ga u (nI i) (nI j)) := by
  have hn5 : 100000 ≤ n := by omega
  have ti := ht _ (nth_mem hi)
  have tj := ht _ (nth_mem hj)
  have hs2 := fun (o : Nat) (h : so o ≠ 3) => (ENV_op he h).2.2
  obtain ⟨v1, a1, a2, a3⟩ := fx_clear8_c (n := n) hn5 hT
  obtain ⟨x1, v2, w2, E2, b1, b2, b3, b4, b5, b6, b7⟩ := fx_fromRow_k (n := n) (held := 0) (N := []) hn5 he (by decide) hA hi ti (by decide) (TBK_nil (las' := las) a2) (by decide) a3
  obtain ⟨x2, v3, w3, E3, c1, c2, c3, c4, c5, c6, c7⟩ := fx_fromRow_k (n := n) (held := 0) hn5 he (by decide) hA hj tj (by decide) b2 (by rw [List.length_append]; simp only [List.length_nil]; omega) b6
  have lN : ([] ++ E2 ++ E3).length ≤ 40 := by simp only [List.length_append, List.length_nil]; omega
  obtain ⟨pv, hp⟩ := pvs_ex (nth A i)
  obtain ⟨d, MM, m1, m2⟩ := hmv _ _ ti tj
  have p1 := nth_pre (B := E3) b3
  have rcx : RCX n ga las so ma un no nv nmL (fun z => z ∈ ALL so un (nth A j)) 0 ([] ++ E2 ++ E3) x1 x2 (nth A i) (nth A j) pv := ⟨hn5, he, fun t hm q hq => ALL_pts he.2.1 tj hm q hq, fun t op b _ hm _ h2 hu => ALL_SS he.2.1 tj hm h2 hu, by decide, fun F f1 f2 => by have := ALL_room he.2.1 hs2 tj f1 f2; omega, ⟨p1.1, by rw [p1.2]; exact b4⟩, ⟨c3, c4⟩, hp⟩
  obtain ⟨r, u2, v4, w4, E4, d1, d2, d3, d4, d5⟩ := fx_run_c (u := u) rcx c2 c6 (ALL_self (so := so) (ma := ma) (un := un) (nv := nv)) m1 (by omega) m2
  unfold fx_X9_matchTold
  rw [a1, xb1_s, b1, xb3_s, c1, xb3_s, d1, xb4_s]
  rcases d5 with ⟨e1, Fs, e2, e3, e4⟩ | ⟨e1, e2⟩
  · rw [e1, if_neg (by decide)]
    exact ⟨_, _, _, _, _, rfl, d2, d3, Or.inl ⟨rfl, pv, Fs, e2, MatL_of d2.2 hp e2 e3 e4, e3⟩⟩
  · rw [e1, if_pos rfl]
    exact ⟨_, _, _, _, _, rfl, d2, d3, Or.inr ⟨rfl, TMm_of hp e2⟩⟩
theorem fx_matches_c {n no nv : Nat} {ga rt v u : Nat → Nat → Int32} {w : Nat → Nat → Int64} {las las0 : Nat → Bool} {so ma : Nat → Nat} {un : Nat → Option Nat} {nmL : Nat → List Nat} {A N0 : List (List Nat)} {x y : Int32} (hn : 100000000 ≤ n) (he : ENV ga las so ma un no nv nmL) (hmv : MVA so ma un las nv) (hA : RWS 30 rt A) (ht : ∀ t ∈ A, tok so un ma nv t) (hT : TB v w las0 N0) :
    ∃ (x9 r : Int32) (v' : Nat → Nat → Int32) (w' : Nat → Nat → Int64) (u' : Nat → Nat → Int32), fx_X9_matches n rt v w ga u x y = some (x9, r, v', w', u') ∧ (∃ (las : Nat → Bool) (N : List (List Nat)), TB v' w' las N) ∧
      ((∃ (i j : Nat) (pv1 : Int32) (F : List (List Nat)), (i < A.length ∧ x = nI i) ∧ (j < A.length ∧ y = nI j) ∧ MatL so un (nth A i) (nth A j) pv1 F ∧ r = nI F.length ∧ x9 = 0) ∨
       (∃ (i j : Nat), (i < A.length ∧ x = nI i) ∧ (j < A.length ∧ y = nI j) ∧ TMm so un (nth A i) (nth A j) ∧ r = 0 ∧ x9 = 2) ∨
       (¬ (isn x A.length ∧ isn y A.length) ∧ r = 0 ∧ x9 = 3)) := by
  have hAl := hA.1
  unfold fx_X9_matches
  rw [fx_checkTerm_c hA, xb1_s]
  by_cases h0 : isn x A.length
  · rw [if_pos h0, if_pos rfl, fx_checkTerm_c hA, xb1_s]
    by_cases h1 : isn y A.length
    · obtain ⟨i, i1, i2⟩ := isn_of (by omega) h0
      obtain ⟨j, j1, j2⟩ := isn_of (by omega) h1
      obtain ⟨x9, v', w', u', N, a1, a2, a3, a4⟩ := fx_matchTold_c (n := n) (u := u) hn he hmv hA ht hT i1 j1
      rw [if_pos h1, if_pos rfl, i2, j2, a1, xb4_s]
      rcases a4 with ⟨b1, pv, Fs, b2, b3, b4⟩ | ⟨b1, b2⟩
      · rw [b1, if_pos rfl]
        exact ⟨_, _, _, _, _, rfl, ⟨_, _, a2.1⟩, Or.inl ⟨i, j, pv, _, ⟨i1, rfl⟩, ⟨j1, rfl⟩, b3, by rw [b2.1, List.length_map], rfl⟩⟩
      · rw [b1, if_neg (by decide)]
        exact ⟨_, _, _, _, _, rfl, ⟨_, _, a2.1⟩, Or.inr (Or.inl ⟨i, j, ⟨i1, rfl⟩, ⟨j1, rfl⟩, b2, rfl, rfl⟩)⟩
    · rw [if_neg h1, if_neg (by decide)]
      exact ⟨_, _, _, _, _, rfl, ⟨_, _, hT⟩, Or.inr (Or.inr ⟨fun g => h1 g.2, rfl, rfl⟩)⟩
  · rw [if_neg h0, if_neg (by decide)]
    exact ⟨_, _, _, _, _, rfl, ⟨_, _, hT⟩, Or.inr (Or.inr ⟨fun g => h0 g.1, rfl, rfl⟩)⟩
theorem fx_bound_c {n no nv : Nat} {ga rt v u rc sw rw0 : Nat → Nat → Int32} {w : Nat → Nat → Int64} {las las0 : Nat → Bool} {so ma : Nat → Nat} {un : Nat → Option Nat} {nmL : Nat → List Nat} {A N0 : List (List Nat)} {x y k z : Int32} (hn : 100000000 ≤ n) (he : ENV ga las so ma un no nv nmL) (hnl : NML so nv nmL) (hmv : MVA so ma un las nv) (hA : RWS 30 rt A) (ht : ∀ t ∈ A, tok so un ma nv t) (hT : TB v w las0 N0) :
    ∃ (x9 r : Int32) (v' : Nat → Nat → Int32) (w' : Nat → Nat → Int64) (u' rc' sw' rw' : Nat → Nat → Int32), fx_X9_bound n rt v w ga u rc sw rw0 x y k z = some (x9, r, v', w', u', rc', sw', rw') ∧ (∃ (las : Nat → Bool) (N : List (List Nat)), TB v' w' las N) ∧
      ((∃ (i j vv : Nat), (i < A.length ∧ x = nI i) ∧ (j < A.length ∧ y = nI j) ∧ (vv < nv ∧ z = nI vv) ∧
          ((∃ (pv1 : Int32) (F : List (List Nat)), MatL so un (nth A i) (nth A j) pv1 F ∧
              ((∃ (q : Nat) (sg : Nat → List Nat), q < F.length ∧ k = nI q ∧ vv ∈ nth A i ∧ von so un sg (nth A i) ∧ fil so un sg (nth A i) = nth A j ∧ nth F q = key pv1 sg ∧ x9 = 0 ∧ r = nI (txt nmL (sg vv)).length ∧ SHC sw' rw' so ma un nv nmL (some (sg vv))) ∨
               (¬ (isn k F.length ∧ vv ∈ nth A i) ∧ x9 = 4 ∧ r = 0 ∧ sw' = sw ∧ rw' = rw0))) ∨
           (TMm so un (nth A i) (nth A j) ∧ x9 = 2 ∧ r = 0 ∧ sw' = sw ∧ rw' = rw0))) ∨
       (¬ (isn x A.length ∧ isn y A.length ∧ isn z nv) ∧ x9 = 3 ∧ r = 0 ∧ sw' = sw ∧ rw' = rw0)) := by
  have hn5 : 100000 ≤ n := by omega
  have hAl := hA.1
  have h5 := he.1.2.1
  unfold fx_X9_bound
  rw [fx_checkTerm_c hA, xb1_s]
  by_cases h0 : isn x A.length
  · rw [if_pos h0, if_pos rfl, fx_checkTerm_c hA, xb1_s]
    by_cases h1 : isn y A.length
    · rw [if_pos h1, if_pos rfl, fx_checkVariable_c he.1, xb1_s]
      by_cases h2 : isn z nv
      · obtain ⟨i, i1, i2⟩ := isn_of (by omega) h0
        obtain ⟨j, j1, j2⟩ := isn_of (by omega) h1
        obtain ⟨vv, q1, q2⟩ := isn_of (by omega) h2
        have ti := ht _ (nth_mem i1)
        obtain ⟨x9, v', w', u', N, a1, a2, a3, a4⟩ := fx_matchTold_c (n := n) (u := u) hn he hmv hA ht hT i1 j1
        rw [if_pos h2, if_pos rfl, i2, j2, q2, a1, xb4_s]
        rcases a4 with ⟨b1, pv, Fs, b2, b3, b4⟩ | ⟨b1, b2⟩
        · have lF : (Fs.map (key pv)).length = Fs.length := List.length_map _
          have f2 := b2.2.1
          have bad : ¬ (isn k (Fs.map (key pv)).length ∧ vv ∈ nth A i) → ∃ (x9 r : Int32) (v'' : Nat → Nat → Int32) (w'' : Nat → Nat → Int64) (u'' rc' sw' rw' : Nat → Nat → Int32), (some ((4 : Int32), (0 : Int32), v', w', u', rc, sw, rw0) : Option (Int32 × Int32 × (Nat → Nat → Int32) × (Nat → Nat → Int64) × (Nat → Nat → Int32) × (Nat → Nat → Int32) × (Nat → Nat → Int32) × (Nat → Nat → Int32))) = some (x9, r, v'', w'', u'', rc', sw', rw') ∧ (∃ (las : Nat → Bool) (N : List (List Nat)), TB v'' w'' las N) ∧
            ((∃ (i' j' vv' : Nat), (i' < A.length ∧ nI i = nI i') ∧ (j' < A.length ∧ nI j = nI j') ∧ (vv' < nv ∧ nI vv = nI vv') ∧
                ((∃ (pv1 : Int32) (F : List (List Nat)), MatL so un (nth A i') (nth A j') pv1 F ∧
                    ((∃ (q : Nat) (sg : Nat → List Nat), q < F.length ∧ k = nI q ∧ vv' ∈ nth A i' ∧ von so un sg (nth A i') ∧ fil so un sg (nth A i') = nth A j' ∧ nth F q = key pv1 sg ∧ x9 = 0 ∧ r = nI (txt nmL (sg vv')).length ∧ SHC sw' rw' so ma un nv nmL (some (sg vv'))) ∨
                     (¬ (isn k F.length ∧ vv' ∈ nth A i') ∧ x9 = 4 ∧ r = 0 ∧ sw' = sw ∧ rw' = rw0))) ∨
                 (TMm so un (nth A i') (nth A j') ∧ x9 = 2 ∧ r = 0 ∧ sw' = sw ∧ rw' = rw0))) ∨
             (¬ (isn (nI i) A.length ∧ isn (nI j) A.length ∧ isn (nI vv) nv) ∧ x9 = 3 ∧ r = 0 ∧ sw' = sw ∧ rw' = rw0)) := fun hbad =>
            ⟨_, _, _, _, _, _, _, _, rfl, ⟨_, _, a2.1⟩, Or.inl ⟨i, j, vv, ⟨i1, rfl⟩, ⟨j1, rfl⟩, ⟨q1, rfl⟩, Or.inl ⟨pv, _, b3, Or.inr ⟨hbad, rfl, rfl, rfl, rfl⟩⟩⟩⟩
          rw [b1, if_pos rfl, b2.1]
          have ck := chk_is (k := Fs.length) (x := k) (e := 4) (by omega)
          by_cases hk : isn k Fs.length
          · obtain ⟨q, k1, k2⟩ := isn_of (by omega) hk
            have vbit : ((vrF (nth A i) 0 >>> (nI vv &&& 31)) &&& 1) = if hb (vrF (nth A i) 0) vv = true then 1 else 0 := hb_sh (by omega)
            have vmem := vrF_bit (a := 0) (v := vv) ti.1.1.2.1 (by omega)
            have z0 : hb 0 vv = false := hb_zero ⟨vv, by omega⟩
            rw [k2, if_neg (by rw [show (0 : Int32) = nI 0 from rfl, nI_lt_iff (by omega) (by decide)]; omega), if_neg (by rw [nI_le_iff (by omega) (by omega)]; omega), fx_variablesIn_c hn5 (by decide) hA i1, xb1_s, xl_eq, xl_eq, vbit, ← k2]
            by_cases hv : vv ∈ nth A i
            · have hb1 : hb (vrF (nth A i) 0) vv = true := vmem.mpr (Or.inr ⟨hv, by omega⟩)
              obtain ⟨s, s1, s2, s3⟩ := b2.2.2.2 q k1
              have fm : fnt Fs q ∈ Fs := by
                unfold fnt
                rw [List.getD_eq_getElem?_getD, List.getElem?_eq_getElem k1]
                exact List.getElem_mem k1
              have pvv : hb pv vv = true := (b3.1 vv (by omega)).mpr hv
              rcases s3 vv (by omega) with ⟨c1, yy, c2, c3, c4⟩ | ⟨c1, _⟩
              · obtain ⟨m1, m2⟩ := b4 _ fm
                have bt : fx_X0_boundTo n u' k (nI vv) = some (nI yy) := by
                  unfold fx_X0_boundTo
                  rw [k2, fx_baseOf_c b2 k1 s1 s2, xb1_s, xl_eq, nI_add, if_neg (by rw [show (0 : Int32) = nI 0 from rfl, nI_lt_iff (by omega) (by decide)]; omega), if_neg (by rw [show (1505 : Int32) = nI 1505 from rfl, nI_le_iff (by decide) (by omega)]; omega), xr_n (by omega) (by decide), c4]
                obtain ⟨rc', v'', sw', rw', d1, d2, d3⟩ := fx_showNode_c (n := n) (rc := rc) (sw := sw) (rw0 := rw0) hn5 he hnl a2.1 c2 (a2.2 _ (nth_mem c2)) a3
                rw [c3] at d1 d3
                rw [hb1, if_pos rfl, if_neg (by decide), bt, xb1_s, d1, xb5_s]
                refine ⟨_, _, _, _, _, _, _, _, rfl, ⟨_, _, d2⟩, Or.inl ⟨i, j, vv, ⟨i1, rfl⟩, ⟨j1, rfl⟩, ⟨q1, rfl⟩, Or.inl ⟨pv, _, b3, Or.inl ⟨q, fnt Fs q, by rw [lF]; exact k1, k2, hv, m1, m2, ?_, rfl, rfl, d3⟩⟩⟩⟩
                unfold nth fnt
                rw [List.getD_eq_getElem?_getD, List.getD_eq_getElem?_getD, List.getElem?_map, List.getElem?_eq_getElem k1]
                rfl
              · rw [c1] at pvv; exact nomatch pvv
            · have hb0 : hb (vrF (nth A i) 0) vv = false := by
                cases q' : hb (vrF (nth A i) 0) vv with
                | false => rfl
                | true =>
                  rcases vmem.mp q' with g | g
                  · rw [z0] at g; exact nomatch g
                  · exact absurd g.1 hv
              rw [hb0, if_neg (show ¬ (false = true) by decide), if_pos rfl]
              exact bad (fun g => hv g.2)
          · rw [if_neg hk] at ck
            have hbad : ¬ (isn k (Fs.map (key pv)).length ∧ vv ∈ nth A i) := fun g => hk (by rw [← lF]; exact g.1)
            by_cases z1 : k < 0
            · rw [if_pos z1]
              exact bad hbad
            · rw [if_neg z1] at ck ⊢
              by_cases z2 : k < nI Fs.length
              · rw [if_pos z2] at ck
                exact absurd (Option.some.inj ck) (by decide)
              · rw [if_pos (Int32.not_lt.mp z2)]
                exact bad hbad
        · rw [b1, if_neg (by decide)]
          exact ⟨_, _, _, _, _, _, _, _, rfl, ⟨_, _, a2.1⟩, Or.inl ⟨i, j, vv, ⟨i1, rfl⟩, ⟨j1, rfl⟩, ⟨q1, rfl⟩, Or.inr ⟨b2, rfl, rfl, rfl, rfl⟩⟩⟩
      · rw [if_neg h2, if_neg (by decide)]
        exact ⟨_, _, _, _, _, _, _, _, rfl, ⟨_, _, hT⟩, Or.inr ⟨fun g => h2 g.2.2, rfl, rfl, rfl, rfl⟩⟩
    · rw [if_neg h1, if_neg (by decide)]
      exact ⟨_, _, _, _, _, _, _, _, rfl, ⟨_, _, hT⟩, Or.inr ⟨fun g => h1 g.2.1, rfl, rfl, rfl, rfl⟩⟩
  · rw [if_neg h0, if_neg (by decide)]
    exact ⟨_, _, _, _, _, _, _, _, rfl, ⟨_, _, hT⟩, Or.inr ⟨fun g => h0 g.1, rfl, rfl, rfl, rfl⟩⟩
