/-! ===== steps, step, stepAt, atTop, walk: the class ===== -/
/-- the steps of a row, listed -/
def LSN (las : Nat → Bool) (so ma : Nat → Nat) (un : Nat → Option Nat) (nv : Nat) (R : RulL) (bits K : Nat) (w : List Nat) (o : Option (Int32 × (Nat → Nat → Int32) × (Nat → Nat → Int32) × (Nat → Nat → Int32) × (Nat → Nat → Int32) × (Nat → Nat → Int64))) : Prop :=
  ∃ (x9 : Int32) (sp' rf' u' v' : Nat → Nat → Int32) (w' : Nat → Nat → Int64), o = some (x9, sp', rf', u', v', w') ∧ (∃ N' : List (List Nat), TB v' w' las N') ∧ ((x9 = 0 ∧ LSX sp' v' w' las so ma un nv R bits ∧ ∃ S : List StpE, STF so un R bits K w sp' rf' S) ∨ (x9 = 2 ∧ TMs so un R (nI bits) K w))
theorem listSteps_20 {n no nv i bits : Nat} {ga rt sp rf u v : Nat → Nat → Int32} {w : Nat → Nat → Int64} {las : Nat → Bool} {so ma : Nat → Nat} {un : Nat → Option Nat} {nmL : Nat → List Nat} {A : List (List Nat)} {R : RulL} (hn : 100000000 ≤ n) (he : ENV ga las so ma un no nv nmL) (hmv : MVA so ma un las nv) (hU : RUP so ma un nv R) (hb9 : bits < 2 ^ R.length) (hL : LSX sp v w las so ma un nv R bits) (hA : RWS 30 rt A) (hi : i < A.length) (hw : tok so un ma nv (nth A i)) :
    LSN las so ma un nv R bits (nth A i).length (nth A i) (fx_X9_listSteps n rt sp rf u v w ga (nI i) 20) := by
  obtain ⟨r, sp', rf', u', v', w', a1, a2, a3⟩ := list_20 (rf := rf) (u := u) hn he hmv (by decide) hU hb9 hL hA hi hw
  unfold fx_X9_listSteps
  rw [a1, xb6_s]
  rcases a3 with ⟨b1, b2, b3⟩ | ⟨b1, b2⟩
  · rw [b1, if_neg (by decide)]
    exact ⟨_, _, _, _, _, _, rfl, a2, Or.inl ⟨rfl, b2, b3⟩⟩
  · rw [b1, if_pos rfl]
    exact ⟨_, _, _, _, _, _, rfl, a2, Or.inr ⟨rfl, b2⟩⟩
theorem listSteps_1 {n no nv i bits : Nat} {ga rt sp rf u v : Nat → Nat → Int32} {w : Nat → Nat → Int64} {las : Nat → Bool} {so ma : Nat → Nat} {un : Nat → Option Nat} {nmL : Nat → List Nat} {A : List (List Nat)} {R : RulL} (hn : 100000000 ≤ n) (he : ENV ga las so ma un no nv nmL) (hmv : MVA so ma un las nv) (hU : RUP so ma un nv R) (hb9 : bits < 2 ^ R.length) (hL : LSX sp v w las so ma un nv R bits) (hA : RWS 30 rt A) (hi : i < A.length) (hw : tok so un ma nv (nth A i)) :
    LSN las so ma un nv R bits 1 (nth A i) (fx_X9_listSteps n rt sp rf u v w ga (nI i) 1) := by
  obtain ⟨r, sp', rf', u', v', w', K, a1, k1, k2, k3, a2, a3⟩ := list_S (rf := rf) (u := u) (most := 1) hn he hmv (by decide) hU hb9 hL hA hi hw (by decide) (by decide)
  have l0 := wf_pos hw.1.1.1
  have eK : K = 1 := by omega
  rw [eK] at a3
  have a1' : fx_X7_list n sp rf u v w ga 30 rt (nI i) 1 = _ := a1
  unfold fx_X9_listSteps
  rw [a1', xb6_s]
  rcases a3 with ⟨b1, b2, b3⟩ | ⟨b1, b2⟩
  · rw [b1, if_neg (by decide)]
    exact ⟨_, _, _, _, _, _, rfl, a2, Or.inl ⟨rfl, b2, b3⟩⟩
  · rw [b1, if_pos rfl]
    exact ⟨_, _, _, _, _, _, rfl, a2, Or.inr ⟨rfl, b2⟩⟩
theorem listSteps_w {n no nv bits : Nat} {ga rc sp rf u v : Nat → Nat → Int32} {w : Nat → Nat → Int64} {las : Nat → Bool} {so ma : Nat → Nat} {un : Nat → Option Nat} {nmL : Nat → List Nat} {t : List Nat} {R : RulL} (hn : 100000000 ≤ n) (he : ENV ga las so ma un no nv nmL) (hmv : MVA so ma un las nv) (hU : RUP so ma un nv R) (hb9 : bits < 2 ^ R.length) (hL : LSX sp v w las so ma un nv R bits) (hA : RWS 1 rc [t]) (hw : tok so un ma nv t) :
    LSN las so ma un nv R bits t.length t (fx_X9_listSteps_c n rc sp rf u v w ga 0 20) := by
  obtain ⟨r, sp', rf', u', v', w', a1, a2, a3⟩ := list_20 (rf := rf) (u := u) (i := 0) hn he hmv (by decide) hU hb9 hL hA (Nat.lt_succ_self 0) hw
  have a1' : fx_X7_list n sp rf u v w ga 1 rc 0 20 = _ := a1
  unfold fx_X9_listSteps_c
  rw [a1', xb6_s]
  rcases a3 with ⟨b1, b2, b3⟩ | ⟨b1, b2⟩
  · rw [b1, if_neg (by decide)]
    exact ⟨_, _, _, _, _, _, rfl, a2, Or.inl ⟨rfl, b2, b3⟩⟩
  · rw [b1, if_pos rfl]
    exact ⟨_, _, _, _, _, _, rfl, a2, Or.inr ⟨rfl, b2⟩⟩
theorem fx_checkStep_c {n : Nat} {sp rf : Nat → Nat → Int32} {A : List (List Nat)} {S : List StpE} {k : Int32} (hR : RWS 201 rf A) (hA : A.length ≤ 200) (hS : STT sp A S) : fx_X9_checkStep n rf k = some (if isn k S.length then 0 else 4) := by
  have e := chk_is (k := S.length) (x := k) (e := 4) (by have := hS.1; omega)
  rw [← e]
  unfold fx_X9_checkStep
  rw [fx_used7_c hR hS, xb1_s]
theorem fx_steps_c {n no nv : Nat} {xx ga rt rs sp rf u v : Nat → Nat → Int32} {w : Nat → Nat → Int64} {las las0 : Nat → Bool} {so ma : Nat → Nat} {un : Nat → Option Nat} {nmL : Nat → List Nat} {A N0 : List (List Nat)} {R : RulL} {on x : Int32} (hn : 100000000 ≤ n) (he : ENV ga las so ma un no nv nmL) (hmv : MVA so ma un las nv) (hA : RWS 30 rt A) (ht : ∀ t ∈ A, tok so un ma nv t) (hB : RWS 16 rs (sdl R)) (hU : RUP so ma un nv R) (hx : xx 0 0 = ron on R.length) (hT : TB v w las0 N0) :
    ∃ (x9 r : Int32) (sp' rf' u' v' : Nat → Nat → Int32) (w' : Nat → Nat → Int64), fx_X9_steps n xx rt rs sp rf u v w ga x = some (x9, r, sp', rf', u', v', w') ∧ (∃ (las : Nat → Bool) (N : List (List Nat)), TB v' w' las N) ∧
      ((∃ (i : Nat) (S : List StpE), (i < A.length ∧ x = nI i) ∧ StL so un R (ron on R.length) (nth A i).length (nth A i) S ∧ r = nI S.length ∧ x9 = 0) ∨
       (∃ (i : Nat), (i < A.length ∧ x = nI i) ∧ TMs so un R (ron on R.length) (nth A i).length (nth A i) ∧ r = 0 ∧ x9 = 2) ∨ (¬ isn x A.length ∧ r = 0 ∧ x9 = 3)) := by
  have hAl := hA.1
  obtain ⟨bits, b1, b2⟩ := ron_bits (on := on) hU.1
  unfold fx_X9_steps
  rw [fx_checkTerm_c hA, xb1_s]
  by_cases h0 : isn x A.length
  · obtain ⟨i, i1, i2⟩ := isn_of (by omega) h0
    obtain ⟨sp1, v1, w1, c1, c2⟩ := prepare_S (n := n) (sp := sp) (by omega) he hU hB b1 hT
    obtain ⟨x9, sp2, rf2, u2, v2, w2, d1, ⟨N2, d2⟩, d3⟩ := listSteps_20 (rf := rf) (u := u) hn he hmv hU b1 c2 hA i1 (ht _ (nth_mem i1))
    rw [if_pos h0, if_pos rfl, hx, b2, i2, c1, xb3_s, d1, xb6_s]
    rcases d3 with ⟨e1, e2, S, T, f1, f2, f3, f4⟩ | ⟨e1, e2⟩
    · rw [e1, if_pos rfl, fx_used7_c f1 f3, xb1_s]
      exact ⟨_, _, _, _, _, _, _, rfl, ⟨_, _, d2⟩, Or.inl ⟨i, S, ⟨i1, rfl⟩, f4, rfl, rfl⟩⟩
    · rw [e1, if_neg (by decide)]
      exact ⟨_, _, _, _, _, _, _, rfl, ⟨_, _, d2⟩, Or.inr (Or.inl ⟨i, ⟨i1, rfl⟩, e2, rfl, rfl⟩)⟩
  · rw [if_neg h0, if_neg (by decide)]
    exact ⟨_, _, _, _, _, _, _, rfl, ⟨_, _, hT⟩, Or.inr (Or.inr ⟨h0, rfl, rfl⟩)⟩
theorem fx_step_c {n no nv : Nat} {xx ga rt rs sw rw0 sp rf u v : Nat → Nat → Int32} {w : Nat → Nat → Int64} {las las0 : Nat → Bool} {so ma : Nat → Nat} {un : Nat → Option Nat} {nmL : Nat → List Nat} {A N0 : List (List Nat)} {R : RulL} {on x k : Int32} (hn : 100000000 ≤ n) (he : ENV ga las so ma un no nv nmL) (hnl : NML so nv nmL) (hmv : MVA so ma un las nv) (hA : RWS 30 rt A) (ht : ∀ t ∈ A, tok so un ma nv t) (hB : RWS 16 rs (sdl R)) (hU : RUP so ma un nv R) (hx : xx 0 0 = ron on R.length) (hT : TB v w las0 N0) :
    ∃ (x9 r : Int32) (sw' rw' sp' rf' u' v' : Nat → Nat → Int32) (w' : Nat → Nat → Int64), fx_X9_step n xx rt rs sw rw0 sp rf u v w ga x k = some (x9, r, sw', rw', sp', rf', u', v', w') ∧ (∃ (las : Nat → Bool) (N : List (List Nat)), TB v' w' las N) ∧
      ((∃ (i : Nat) (S : List StpE), (i < A.length ∧ x = nI i) ∧ StL so un R (ron on R.length) (nth A i).length (nth A i) S ∧
          ((∃ q : Nat, q < S.length ∧ k = nI q ∧ x9 = 0 ∧ r = nI (txt nmL (nthS S q).2.2).length ∧ SHC sw' rw' so ma un nv nmL (some (nthS S q).2.2)) ∨
           (¬ isn k S.length ∧ x9 = 4 ∧ r = 0 ∧ sw' = sw ∧ rw' = rw0))) ∨
       (∃ (i : Nat), (i < A.length ∧ x = nI i) ∧ TMs so un R (ron on R.length) (nth A i).length (nth A i) ∧ x9 = 2 ∧ r = 0 ∧ sw' = sw ∧ rw' = rw0) ∨
       (¬ isn x A.length ∧ x9 = 3 ∧ r = 0 ∧ sw' = sw ∧ rw' = rw0)) := by
  have hAl := hA.1
  obtain ⟨bits, b1, b2⟩ := ron_bits (on := on) hU.1
  unfold fx_X9_step
  rw [fx_checkTerm_c hA, xb1_s]
  by_cases h0 : isn x A.length
  · obtain ⟨i, i1, i2⟩ := isn_of (by omega) h0
    have ti := ht _ (nth_mem i1)
    obtain ⟨sp1, v1, w1, c1, c2⟩ := prepare_S (n := n) (sp := sp) (by omega) he hU hB b1 hT
    obtain ⟨x9, sp2, rf2, u2, v2, w2, d1, ⟨N2, d2⟩, d3⟩ := listSteps_20 (rf := rf) (u := u) hn he hmv hU b1 c2 hA i1 ti
    rw [if_pos h0, if_pos rfl, hx, b2, i2, c1, xb3_s, d1, xb6_s]
    rcases d3 with ⟨e1, e2, S, T, f1, f2, f3, f4⟩ | ⟨e1, e2⟩
    · have lS := f3.1
      rw [e1, if_pos rfl, fx_checkStep_c f1 f2 f3, xb1_s]
      by_cases hk : isn k S.length
      · obtain ⟨q, q1, q2⟩ := isn_of (by omega) hk
        obtain ⟨s, s1, s2, s3, s4, s5⟩ := fx_slotOf_c (n := n) f1 f2 f3 q1
        have tq := (StL_tokU he.2.1 hU ti (Nat.le_refl _) f4 _ (stq_mem q1)).1
        obtain ⟨sw', rw', g1, g2⟩ := fx_take_c (n := n) (sw := sw) (rw := rw0) (by omega) he.1 he.2.2.2.2.1 hnl he.1.2.1 (by decide) f1 s1 (by rw [s3]; exact tq)
        rw [s3] at g1 g2
        rw [if_pos hk, if_pos rfl, q2, s2, xb1_s, g1, xb3_s]
        exact ⟨_, _, _, _, _, _, _, _, _, rfl, ⟨_, _, d2⟩, Or.inl ⟨i, S, ⟨i1, rfl⟩, f4, Or.inl ⟨q, q1, rfl, rfl, rfl, g2⟩⟩⟩
      · rw [if_neg hk, if_neg (by decide)]
        exact ⟨_, _, _, _, _, _, _, _, _, rfl, ⟨_, _, d2⟩, Or.inl ⟨i, S, ⟨i1, rfl⟩, f4, Or.inr ⟨hk, rfl, rfl, rfl, rfl⟩⟩⟩
    · rw [e1, if_neg (by decide)]
      exact ⟨_, _, _, _, _, _, _, _, _, rfl, ⟨_, _, d2⟩, Or.inr (Or.inl ⟨i, ⟨i1, rfl⟩, e2, rfl, rfl, rfl, rfl⟩)⟩
  · rw [if_neg h0, if_neg (by decide)]
    exact ⟨_, _, _, _, _, _, _, _, _, rfl, ⟨_, _, hT⟩, Or.inr (Or.inr ⟨h0, rfl, rfl, rfl, rfl⟩)⟩
theorem fx_stepAt_c {n no nv : Nat} {xx ga rt rs sp rf u v : Nat → Nat → Int32} {w : Nat → Nat → Int64} {las las0 : Nat → Bool} {so ma : Nat → Nat} {un : Nat → Option Nat} {nmL : Nat → List Nat} {A N0 : List (List Nat)} {R : RulL} {on x k y : Int32} (hn : 100000000 ≤ n) (he : ENV ga las so ma un no nv nmL) (hmv : MVA so ma un las nv) (hA : RWS 30 rt A) (ht : ∀ t ∈ A, tok so un ma nv t) (hB : RWS 16 rs (sdl R)) (hU : RUP so ma un nv R) (hx : xx 0 0 = ron on R.length) (hT : TB v w las0 N0) :
    ∃ (x9 r : Int32) (sp' rf' u' v' : Nat → Nat → Int32) (w' : Nat → Nat → Int64), fx_X9_stepAt n xx rt rs sp rf u v w ga x k y = some (x9, r, sp', rf', u', v', w') ∧ (∃ (las : Nat → Bool) (N : List (List Nat)), TB v' w' las N) ∧
      ((∃ (i : Nat) (S : List StpE), (i < A.length ∧ x = nI i) ∧ StL so un R (ron on R.length) (nth A i).length (nth A i) S ∧
          ((∃ q : Nat, q < S.length ∧ k = nI q ∧ isn y 2 ∧ x9 = 0 ∧ r = if y = 0 then nI (nthS S q).1 else nI (nthS S q).2.1) ∨ (¬ (isn k S.length ∧ isn y 2) ∧ x9 = 4 ∧ r = 0))) ∨
       (∃ (i : Nat), (i < A.length ∧ x = nI i) ∧ TMs so un R (ron on R.length) (nth A i).length (nth A i) ∧ x9 = 2 ∧ r = 0) ∨ (¬ isn x A.length ∧ x9 = 3 ∧ r = 0)) := by
  have hAl := hA.1
  obtain ⟨bits, b1, b2⟩ := ron_bits (on := on) hU.1
  unfold fx_X9_stepAt
  rw [fx_checkTerm_c hA, xb1_s]
  by_cases h0 : isn x A.length
  · obtain ⟨i, i1, i2⟩ := isn_of (by omega) h0
    have ti := ht _ (nth_mem i1)
    obtain ⟨sp1, v1, w1, c1, c2⟩ := prepare_S (n := n) (sp := sp) (by omega) he hU hB b1 hT
    obtain ⟨x9, sp2, rf2, u2, v2, w2, d1, ⟨N2, d2⟩, d3⟩ := listSteps_20 (rf := rf) (u := u) hn he hmv hU b1 c2 hA i1 ti
    rw [if_pos h0, if_pos rfl, hx, b2, i2, c1, xb3_s, d1, xb6_s]
    rcases d3 with ⟨e1, e2, S, T, f1, f2, f3, f4⟩ | ⟨e1, e2⟩
    · have lS := f3.1
      rw [e1, if_pos rfl, fx_checkStep_c f1 f2 f3, xb1_s]
      by_cases hk : isn k S.length
      · obtain ⟨q, q1, q2⟩ := isn_of (by omega) hk
        rw [if_pos hk, if_pos rfl, q2]
        by_cases y0 : y = 0
        · rw [if_pos y0, if_pos y0, fx_placeOf_c f1 f2 f3 q1, xb1_s]
          refine ⟨_, _, _, _, _, _, _, rfl, ⟨_, _, d2⟩, Or.inl ⟨i, S, ⟨i1, rfl⟩, f4, Or.inl ⟨q, q1, rfl, by rw [y0]; exact ⟨by decide, by decide⟩, rfl, ?_⟩⟩⟩
          rw [if_pos y0]; rfl
        · rw [if_neg y0]
          by_cases y1 : y = 1
          · rw [if_pos y1, if_neg y0, fx_ruleOf_c f1 f2 f3 q1, xb1_s]
            refine ⟨_, _, _, _, _, _, _, rfl, ⟨_, _, d2⟩, Or.inl ⟨i, S, ⟨i1, rfl⟩, f4, Or.inl ⟨q, q1, rfl, by rw [y1]; exact ⟨by decide, by decide⟩, rfl, ?_⟩⟩⟩
            rw [if_neg y0]; rfl
          · rw [if_neg y1]
            refine ⟨_, _, _, _, _, _, _, rfl, ⟨_, _, d2⟩, Or.inl ⟨i, S, ⟨i1, rfl⟩, f4, Or.inr ⟨fun g => ?_, rfl, rfl⟩⟩⟩
            obtain ⟨z, z1, z2⟩ := isn_of (by decide) g.2
            have : z = 0 ∨ z = 1 := by omega
            rcases this with rfl | rfl
            · exact y0 z2
            · exact y1 z2
      · rw [if_neg hk, if_neg (by decide)]
        exact ⟨_, _, _, _, _, _, _, rfl, ⟨_, _, d2⟩, Or.inl ⟨i, S, ⟨i1, rfl⟩, f4, Or.inr ⟨fun g => hk g.1, rfl, rfl⟩⟩⟩
    · rw [e1, if_neg (by decide)]
      exact ⟨_, _, _, _, _, _, _, rfl, ⟨_, _, d2⟩, Or.inr (Or.inl ⟨i, ⟨i1, rfl⟩, e2, rfl, rfl⟩)⟩
  · rw [if_neg h0, if_neg (by decide)]
    exact ⟨_, _, _, _, _, _, _, rfl, ⟨_, _, hT⟩, Or.inr (Or.inr ⟨h0, rfl, rfl⟩)⟩
theorem one_bit : ∀ r : Fin 8, ((1 : Int32) <<< (nI r.val &&& 31)) = nI (2 ^ r.val) := by decide +kernel
theorem fx_atTop_c {n no nv : Nat} {ga rt rs sp rf u v : Nat → Nat → Int32} {w : Nat → Nat → Int64} {las las0 : Nat → Bool} {so ma : Nat → Nat} {un : Nat → Option Nat} {nmL : Nat → List Nat} {A N0 : List (List Nat)} {R : RulL} {x y : Int32} (hn : 100000000 ≤ n) (he : ENV ga las so ma un no nv nmL) (hmv : MVA so ma un las nv) (hA : RWS 30 rt A) (ht : ∀ t ∈ A, tok so un ma nv t) (hB : RWS 16 rs (sdl R)) (hU : RUP so ma un nv R) (hT : TB v w las0 N0) :
    ∃ (x9 r : Int32) (sp' rf' u' v' : Nat → Nat → Int32) (w' : Nat → Nat → Int64), fx_X9_atTop n rt rs sp rf u v w ga x y = some (x9, r, sp', rf', u', v', w') ∧ (∃ (las : Nat → Bool) (N : List (List Nat)), TB v' w' las N) ∧
      ((∃ (i : Nat) (S : List StpE), (i < A.length ∧ x = nI i) ∧ isn y R.length ∧ StL so un R ((1 : Int32) <<< (y &&& 31)) 1 (nth A i) S ∧ r = nI S.length ∧ x9 = 0) ∨
       (∃ (i : Nat), (i < A.length ∧ x = nI i) ∧ isn y R.length ∧ TMs so un R ((1 : Int32) <<< (y &&& 31)) 1 (nth A i) ∧ r = 0 ∧ x9 = 2) ∨ (¬ (isn x A.length ∧ isn y R.length) ∧ r = 0 ∧ x9 = 3)) := by
  have hAl := hA.1
  have hR8 := hU.1
  unfold fx_X9_atTop
  rw [fx_checkTerm_c hA, xb1_s]
  by_cases h0 : isn x A.length
  · rw [if_pos h0, if_pos rfl, fx_checkRule_c hB sdl_len, xb1_s]
    by_cases h1 : isn y R.length
    · obtain ⟨i, i1, i2⟩ := isn_of (by omega) h0
      obtain ⟨q, q1, q2⟩ := isn_of (by omega) h1
      have eb : ((1 : Int32) <<< (nI q &&& 31)) = nI (2 ^ q) := one_bit ⟨q, by omega⟩
      have b1 : 2 ^ q < 2 ^ R.length := Nat.pow_lt_pow_right (by decide) q1
      obtain ⟨sp1, v1, w1, c1, c2⟩ := prepare_S (n := n) (sp := sp) (by omega) he hU hB b1 hT
      obtain ⟨x9, sp2, rf2, u2, v2, w2, d1, ⟨N2, d2⟩, d3⟩ := listSteps_1 (rf := rf) (u := u) hn he hmv hU b1 c2 hA i1 (ht _ (nth_mem i1))
      rw [if_pos h1, if_pos rfl, xl_eq, q2, eb, i2, c1, xb3_s, d1, xb6_s]
      rcases d3 with ⟨e1, e2, S, T, f1, f2, f3, f4⟩ | ⟨e1, e2⟩
      · rw [e1, if_pos rfl, fx_used7_c f1 f3, xb1_s]
        exact ⟨_, _, _, _, _, _, _, rfl, ⟨_, _, d2⟩, Or.inl ⟨i, S, ⟨i1, rfl⟩, by rw [← q2]; exact h1, f4, rfl, rfl⟩⟩
      · rw [e1, if_neg (by decide)]
        exact ⟨_, _, _, _, _, _, _, rfl, ⟨_, _, d2⟩, Or.inr (Or.inl ⟨i, ⟨i1, rfl⟩, by rw [← q2]; exact h1, e2, rfl, rfl⟩)⟩
    · rw [if_neg h1, if_neg (by decide)]
      exact ⟨_, _, _, _, _, _, _, rfl, ⟨_, _, hT⟩, Or.inr (Or.inr ⟨fun g => h1 g.2, rfl, rfl⟩)⟩
  · rw [if_neg h0, if_neg (by decide)]
    exact ⟨_, _, _, _, _, _, _, rfl, ⟨_, _, hT⟩, Or.inr (Or.inr ⟨fun g => h0 g.1, rfl, rfl⟩)⟩
theorem lx_walk_c {n no nv bits : Nat} {xx ga rt rs sw rw0 : Nat → Nat → Int32} {las : Nat → Bool} {so ma : Nat → Nat} {un : Nat → Option Nat} {nmL : Nat → List Nat} {R : RulL} {x : Int32} (hn : 100000000 ≤ n) (he : ENV ga las so ma un no nv nmL) (hnl : NML so nv nmL) (hmv : MVA so ma un las nv) (hU : RUP so ma un nv R) (hb9 : bits < 2 ^ R.length) :
    ∀ (d k m : Nat) (t : List Nat) (rc sp rf u v : Nat → Nat → Int32) (w : Nat → Nat → Int64), k + d = 40 → d < m → RWS 1 rc [t] → tok so un ma nv t → LSX sp v w las so ma un nv R bits →
      ∃ (x9 r : Int32) (rc' sw' rw' sp' rf' u' v' : Nat → Nat → Int32) (w' : Nat → Nat → Int64), lx_X9_walk_41 n xx rt rs ga x m (nI k) rc sw rw0 sp rf u v w = some (x9, r, rc', sw', rw', sp', rf', u', v', w') ∧ (∃ (las : Nat → Bool) (N : List (List Nat)), TB v' w' las N) ∧
        ∃ res : Option (Nat × List Nat), WLK so un R (nI bits) d t res ∧ ((res = none ∧ x9 = 2 ∧ r = 0 ∧ sw' = sw ∧ rw' = rw0) ∨ (∃ (q : Nat) (y : List Nat), res = some (q, y) ∧ x9 = 0 ∧ r = nI (k + q) ∧ SHC sw' rw' so ma un nv nmL (some y)))
  | d, k, 0, t, rc, sp, rf, u, v, w, _, hm, _, _, _ => by omega
  | 0, k, m + 1, t, rc, sp, rf, u, v, w, hk, _, hr, ht, hL => by
    have tbL : ∃ (las : Nat → Bool) (N : List (List Nat)), TB v w las N := by
      obtain ⟨Nb, F, _, l2, _⟩ := hL
      exact ⟨_, _, l2⟩
    obtain ⟨sw', rw', g1, g2⟩ := fx_take_c (n := n) (sw := sw) (rw := rw0) (i := 0) (by omega) he.1 he.2.2.2.2.1 hnl he.1.2.1 (by decide) hr (Nat.lt_succ_self 0) ht
    have g1' : fx_X4_take n sw ga rw0 1 rc 0 = some (nI (txt nmL t).length, sw', rw') := g1
    have st : lx_X9_walk_41 n xx rt rs ga x (m + 1) (nI k) rc sw rw0 sp rf u v w = bx_X9_walk_41 n xx rt rs ga x (lx_X9_walk_41 n xx rt rs ga x m) (nI k) rc sw rw0 sp rf u v w := rfl
    rw [st]
    unfold bx_X9_walk_41
    rw [if_pos (by rw [show (40 : Int32) = nI 40 from rfl, nI_le_iff (by decide) (by omega)]; omega), g1', xb3_s]
    exact ⟨_, _, _, _, _, _, _, _, _, _, rfl, tbL, some (0, t), rfl, Or.inr ⟨0, t, rfl, rfl, rfl, g2⟩⟩
  | d + 1, k, m + 1, t, rc, sp, rf, u, v, w, hk, hm, hr, ht, hL => by
    have st : lx_X9_walk_41 n xx rt rs ga x (m + 1) (nI k) rc sw rw0 sp rf u v w = bx_X9_walk_41 n xx rt rs ga x (lx_X9_walk_41 n xx rt rs ga x m) (nI k) rc sw rw0 sp rf u v w := rfl
    obtain ⟨x9, sp2, rf2, u2, v2, w2, d1, ⟨N2, d2⟩, d3⟩ := listSteps_w (rf := rf) (u := u) hn he hmv hU hb9 hL hr ht
    rw [st]
    unfold bx_X9_walk_41
    rw [if_neg (by rw [show (40 : Int32) = nI 40 from rfl, nI_le_iff (by decide) (by omega)]; omega), d1, xb6_s]
    rcases d3 with ⟨e1, e2, S, T, f1, f2, f3, f4⟩ | ⟨e1, e2⟩
    · have lS := f3.1
      rw [e1, if_pos rfl, fx_used7_c f1 f3, xb1_s]
      cases hS : S with
      | nil =>
        obtain ⟨sw', rw', g1, g2⟩ := fx_take_c (n := n) (sw := sw) (rw := rw0) (i := 0) (by omega) he.1 he.2.2.2.2.1 hnl he.1.2.1 (by decide) hr (Nat.lt_succ_self 0) ht
        have g1' : fx_X4_take n sw ga rw0 1 rc 0 = some (nI (txt nmL t).length, sw', rw') := g1
        rw [if_pos (by rfl), g1', xb3_s]
        exact ⟨_, _, _, _, _, _, _, _, _, _, rfl, ⟨_, _, d2⟩, some (0, t), Or.inr ⟨S, f4, Or.inl ⟨hS, rfl⟩⟩, Or.inr ⟨0, t, rfl, rfl, rfl, g2⟩⟩
      | cons s S' =>
        have l0 : 0 < S.length := by rw [hS]; exact Nat.succ_pos _
        obtain ⟨s0, s1, s2, s3, s4, s5⟩ := fx_slotOf_c (n := n) f1 f2 f3 l0
        have tq := (StL_tokU he.2.1 hU ht (Nat.le_refl _) f4 _ (stq_mem l0)).1
        have es : stq S 0 = s := by rw [hS]; rfl
        rw [es] at s3 tq
        obtain ⟨rc1, g1, g2⟩ := fx_clear_c (n := n) (rn := 1) (v := rc)
        obtain ⟨rc2, h1, h2⟩ := fx_copy_c (n := n) (bn := 201) (vb := rf2) (B := T) (i := s0) (by omega) (by decide) (by decide) g2 (by decide) f1 s1
        rw [s3] at h2
        have s2' : fx_X7_slotOf n sp2 rf2 0 = some (nI s0) := s2
        rw [← hS, if_neg (show ¬ nI S.length = 0 by rw [show (0 : Int32) = nI 0 from rfl, nI_inj (by omega) (by decide)]; omega), g1, xb1_s, s2', xb1_s, h1, xb1_s, xl_eq, nI_1]
        obtain ⟨x9', r', rc', sw', rw', sp', rf', u', v', w', y1, y2, res, y3, y4⟩ := lx_walk_c (xx := xx) (rt := rt) (rs := rs) (sw := sw) (rw0 := rw0) (x := x) hn he hnl hmv hU hb9 d (k + 1) m s.2.2 rc2 sp2 rf2 u2 v2 w2 (by omega) (by omega) h2 tq e2
        refine ⟨_, _, _, _, _, _, _, _, _, _, y1, y2, res.map (fun q => (q.1 + 1, q.2)), Or.inr ⟨S, f4, Or.inr ⟨s, S', res, hS, y3, rfl⟩⟩, ?_⟩
        rcases y4 with ⟨z1, z2, z3, z4, z5⟩ | ⟨q, y, z1, z2, z3, z4⟩
        · exact Or.inl ⟨by rw [z1]; rfl, z2, z3, z4, z5⟩
        · exact Or.inr ⟨q + 1, y, by rw [z1]; rfl, z2, by rw [z3]; exact congrArg nI (by omega), z4⟩
    · rw [e1, if_neg (by decide)]
      exact ⟨_, _, _, _, _, _, _, _, _, _, rfl, ⟨_, _, d2⟩, none, Or.inl ⟨e2, rfl⟩, Or.inl ⟨rfl, rfl, rfl, rfl, rfl⟩⟩
theorem fx_walk_c {n no nv : Nat} {xx ga rt rs rc sw rw0 sp rf u v : Nat → Nat → Int32} {w : Nat → Nat → Int64} {las las0 : Nat → Bool} {so ma : Nat → Nat} {un : Nat → Option Nat} {nmL : Nat → List Nat} {A N0 : List (List Nat)} {R : RulL} {on x : Int32} (hn : 100000000 ≤ n) (he : ENV ga las so ma un no nv nmL) (hnl : NML so nv nmL) (hmv : MVA so ma un las nv) (hA : RWS 30 rt A) (ht : ∀ t ∈ A, tok so un ma nv t) (hB : RWS 16 rs (sdl R)) (hU : RUP so ma un nv R) (hx : xx 0 0 = ron on R.length) (hT : TB v w las0 N0) :
    ∃ (x9 r : Int32) (rc' sw' rw' sp' rf' u' v' : Nat → Nat → Int32) (w' : Nat → Nat → Int64), fx_X9_walk n xx rt rs rc sw rw0 sp rf u v w ga x = some (x9, r, rc', sw', rw', sp', rf', u', v', w') ∧ (∃ (las : Nat → Bool) (N : List (List Nat)), TB v' w' las N) ∧
      ((∃ (i : Nat) (res : Option (Nat × List Nat)), (i < A.length ∧ x = nI i) ∧ WLK so un R (ron on R.length) 40 (nth A i) res ∧
          ((res = none ∧ r = 0 ∧ x9 = 2 ∧ sw' = sw ∧ rw' = rw0) ∨ (∃ (q : Nat) (y : List Nat), res = some (q, y) ∧ r = nI q ∧ x9 = 0 ∧ SHC sw' rw' so ma un nv nmL (some y)))) ∨
       (¬ isn x A.length ∧ x9 = 3 ∧ r = 0 ∧ sw' = sw ∧ rw' = rw0)) := by
  have hAl := hA.1
  obtain ⟨bits, b1, b2⟩ := ron_bits (on := on) hU.1
  unfold fx_X9_walk
  rw [fx_checkTerm_c hA, xb1_s]
  by_cases h0 : isn x A.length
  · obtain ⟨i, i1, i2⟩ := isn_of (by omega) h0
    have ti := ht _ (nth_mem i1)
    obtain ⟨sp1, v1, w1, c1, c2⟩ := prepare_S (n := n) (sp := sp) (by omega) he hU hB b1 hT
    obtain ⟨rc1, g1, g2⟩ := fx_clear_c (n := n) (rn := 1) (v := rc)
    obtain ⟨rc2, h1, h2⟩ := fx_copy_c (n := n) (bn := 30) (vb := rt) (B := A) (i := i) (by omega) (by decide) (by decide) g2 (by decide) hA i1
    rw [if_pos h0, if_pos rfl, hx, b2, i2, c1, xb3_s, g1, xb1_s, h1, xb1_s]
    obtain ⟨x9', r', rc', sw', rw', sp', rf', u', v', w', y1, y2, res, y3, y4⟩ := lx_walk_c (xx := xx) (rt := rt) (rs := rs) (sw := sw) (rw0 := rw0) (x := nI i) hn he hnl hmv hU b1 40 0 41 (nth A i) rc2 sp1 rf u v1 w1 rfl (by decide) h2 ti c2
    refine ⟨_, _, _, _, _, _, _, _, _, _, y1, y2, Or.inl ⟨i, res, ⟨i1, rfl⟩, y3, ?_⟩⟩
    rcases y4 with ⟨z1, z2, z3, z4, z5⟩ | ⟨q, y, z1, z2, z3, z4⟩
    · exact Or.inl ⟨z1, z3, z2, z4, z5⟩
    · exact Or.inr ⟨q, y, z1, by rw [z3, Nat.zero_add], z2, z4⟩
  · rw [if_neg h0, if_neg (by decide)]
    exact ⟨_, _, _, _, _, _, _, _, _, _, rfl, ⟨_, _, hT⟩, Or.inr ⟨h0, rfl, rfl, rfl, rfl⟩⟩
