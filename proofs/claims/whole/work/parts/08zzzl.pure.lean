/-! ===== show, place, side, keep, octet, join, fill: the class ===== -/
theorem fx_checkOperator_c {n no nv : Nat} {v : Nat → Nat → Int32} {so ma : Nat → Nat} {un : Nat → Option Nat} {nmL : Nat → List Nat} {x : Int32} (h : SGC v so ma un no nv nmL) : fx_X9_checkOperator n v x = some (if isn x no then 0 else 3) := by
  have h10 := h.1
  unfold fx_X9_checkOperator
  rw [h.2.2.1]
  exact chk_is (by omega)
theorem fx_checkVariable_c {n no nv : Nat} {v : Nat → Nat → Int32} {so ma : Nat → Nat} {un : Nat → Option Nat} {nmL : Nat → List Nat} {x : Int32} (h : SGC v so ma un no nv nmL) : fx_X9_checkVariable n v x = some (if isn x nv then 0 else 3) := by
  have h10 := h.2.1
  unfold fx_X9_checkVariable
  rw [h.2.2.2.1]
  exact chk_is (by omega)
theorem fx_show_c {n no nv : Nat} {ga rt sw rw0 : Nat → Nat → Int32} {las : Nat → Bool} {so ma : Nat → Nat} {un : Nat → Option Nat} {nmL : Nat → List Nat} {A : List (List Nat)} {x : Int32} (hn : 100000 ≤ n) (he : ENV ga las so ma un no nv nmL) (hnl : NML so nv nmL) (hA : RWS 30 rt A) (ht : ∀ t ∈ A, tok so un ma nv t) :
    (∃ i : Nat, (i < A.length ∧ x = nI i) ∧ ∃ sw' rw' : Nat → Nat → Int32, fx_X9_show n rt sw ga rw0 x = some (0, nI (txt nmL (nth A i)).length, sw', rw') ∧ SHC sw' rw' so ma un nv nmL (some (nth A i))) ∨ (¬ isn x A.length ∧ fx_X9_show n rt sw ga rw0 x = some (3, 0, sw, rw0)) := by
  have hAl := hA.1
  unfold fx_X9_show
  rw [fx_checkTerm_c hA, xb1_s]
  by_cases h : isn x A.length
  · obtain ⟨i, i1, i2⟩ := isn_of (by omega) h
    obtain ⟨sw', rw', a1, a2⟩ := fx_take_c (n := n) (sw := sw) (rw := rw0) hn he.1 he.2.2.2.2.1 hnl he.1.2.1 (by decide) hA i1 (ht _ (nth_mem i1))
    rw [if_pos h, if_pos rfl, i2, a1, xb3_s]
    exact Or.inl ⟨i, ⟨i1, rfl⟩, sw', rw', rfl, a2⟩
  · rw [if_neg h, if_neg (by decide)]
    exact Or.inr ⟨h, rfl⟩
theorem fx_place_c {n no nv : Nat} {ga rt rc sw rw0 : Nat → Nat → Int32} {las : Nat → Bool} {so ma : Nat → Nat} {un : Nat → Option Nat} {nmL : Nat → List Nat} {A : List (List Nat)} {x y : Int32} (hn : 100000 ≤ n) (he : ENV ga las so ma un no nv nmL) (hnl : NML so nv nmL) (hA : RWS 30 rt A) (ht : ∀ t ∈ A, tok so un ma nv t) :
    ∃ (x9 r : Int32) (rc' sw' rw' : Nat → Nat → Int32), fx_X9_place n rt rc sw ga rw0 x y = some (x9, r, rc', sw', rw') ∧
      ((∃ (i j : Nat), i < A.length ∧ x = nI i ∧ j < (nth A i).length ∧ y = nI j ∧ x9 = 0 ∧ r = nI (txt nmL (sbt (nth A i) j)).length ∧ SHC sw' rw' so ma un nv nmL (some (sbt (nth A i) j))) ∨
       (∃ (i : Nat), i < A.length ∧ x = nI i ∧ ¬ isn y (nth A i).length ∧ x9 = 4 ∧ r = 0 ∧ sw' = sw ∧ rw' = rw0) ∨
       (¬ isn x A.length ∧ x9 = 3 ∧ r = 0 ∧ sw' = sw ∧ rw' = rw0)) := by
  have hAl := hA.1
  unfold fx_X9_place
  rw [fx_checkTerm_c hA, xb1_s]
  by_cases h : isn x A.length
  · obtain ⟨i, i1, i2⟩ := isn_of (by omega) h
    have tk9 := ht _ (nth_mem i1)
    have l20 := tok_len tk9
    rw [if_pos h, if_pos rfl, i2, fx_lengthOf_c (by decide) hA i1, xb1_s]
    by_cases hy : isn y (nth A i).length
    · obtain ⟨j, j1, j2⟩ := isn_of (by omega) hy
      obtain ⟨s1, s2⟩ := sbt_tokl tk9 j1
      have hd : (nth A i).drop j = sbt (nth A i) j ++ ((nth A i).drop j).drop (sbt (nth A i) j).length := by
        obtain ⟨P, s, B, e1, e2, e3⟩ := sub_nok tk9.1 j1
        have es : sbt (nth A i) j = s := by rw [e1, ← e2]; exact sbt_app e3.1.1
        rw [es, e1, ← e2, List.drop_left, List.drop_left]
      obtain ⟨rc1, a1, a2⟩ := fx_clear_c (n := n) (rn := 1) (v := rc)
      have sp := fx_spanAt_c (n := n) hn (by decide) hA i1 hd s1.1.1.1 (by omega)
      obtain ⟨rc2, b1, b2⟩ := fx_copyCells_c (n := n) (a := j) (q := (sbt (nth A i) j).length) hn (by decide) (by decide) a2 (by decide) hA i1 s2
      have et : ((nth A i).drop j).take (sbt (nth A i) j).length = sbt (nth A i) j := by
        conv => lhs; rw [hd]
        exact List.take_left
      rw [et] at b2
      obtain ⟨sw', rw', c1, c2⟩ := fx_take_c (n := n) (sw := sw) (rw := rw0) (i := 0) hn he.1 he.2.2.2.2.1 hnl he.1.2.1 (by decide) b2 (Nat.lt_succ_self 0) s1
      have e0 : nth ([] ++ [sbt (nth A i) j]) 0 = sbt (nth A i) j := rfl
      rw [e0, show nI 0 = (0 : Int32) from rfl] at c1
      rw [j2, if_neg (by rw [show (0 : Int32) = nI 0 from rfl, nI_lt_iff (by omega) (by decide)]; omega), if_pos (by rw [nI_lt_iff (by omega) (by omega)]; exact j1), a1, xb1_s, sp, xb1_s, b1, xb1_s, c1, xb3_s]
      exact ⟨_, _, _, _, _, rfl, Or.inl ⟨i, j, i1, rfl, j1, rfl, rfl, rfl, c2⟩⟩
    · have bad : ∀ o, o = (some ((4 : Int32), (0 : Int32), rc, sw, rw0) : Option (Int32 × Int32 × (Nat → Nat → Int32) × (Nat → Nat → Int32) × (Nat → Nat → Int32))) → ∃ (x9 r : Int32) (rc' sw' rw' : Nat → Nat → Int32), o = some (x9, r, rc', sw', rw') ∧
        ((∃ (i' j : Nat), i' < A.length ∧ nI i = nI i' ∧ j < (nth A i').length ∧ y = nI j ∧ x9 = 0 ∧ r = nI (txt nmL (sbt (nth A i') j)).length ∧ SHC sw' rw' so ma un nv nmL (some (sbt (nth A i') j))) ∨
         (∃ (i' : Nat), i' < A.length ∧ nI i = nI i' ∧ ¬ isn y (nth A i').length ∧ x9 = 4 ∧ r = 0 ∧ sw' = sw ∧ rw' = rw0) ∨
         (¬ isn (nI i) A.length ∧ x9 = 3 ∧ r = 0 ∧ sw' = sw ∧ rw' = rw0)) := fun o e => ⟨_, _, _, _, _, e, Or.inr (Or.inl ⟨i, i1, rfl, hy, rfl, rfl, rfl, rfl⟩)⟩
      have ck := chk_is (k := (nth A i).length) (x := y) (e := 4) (by omega)
      rw [if_neg hy] at ck
      by_cases z : y < 0
      · rw [if_pos z]
        exact bad _ rfl
      · rw [if_neg z] at ck ⊢
        by_cases z2 : y < nI (nth A i).length
        · rw [if_pos z2] at ck
          exact absurd (Option.some.inj ck) (by decide)
        · rw [if_neg z2]
          exact bad _ rfl
  · rw [if_neg h, if_neg (by decide)]
    exact ⟨_, _, _, _, _, rfl, Or.inr (Or.inr ⟨h, rfl, rfl, rfl, rfl⟩)⟩
theorem rul_mem2 {R : RulL} {i : Nat} (h : i < R.length) : rul R i ∈ R := by
  unfold rul
  rw [List.getD_eq_getElem?_getD, List.getElem?_eq_getElem h]
  exact List.getElem_mem h
theorem fx_side_c {n no nv : Nat} {ga rs sw rw0 : Nat → Nat → Int32} {las : Nat → Bool} {so ma : Nat → Nat} {un : Nat → Option Nat} {nmL : Nat → List Nat} {R : RulL} {x : Int32} {right : Bool} (hn : 100000 ≤ n) (he : ENV ga las so ma un no nv nmL) (hnl : NML so nv nmL) (hB : RWS 16 rs (sdl R)) (hU : RUP so ma un nv R) :
    (∃ i : Nat, (i < R.length ∧ x = nI i) ∧ ∃ sw' rw' : Nat → Nat → Int32, fx_X9_side n rs sw ga rw0 x (ob right) = some (0, nI (txt nmL (sid R i right)).length, sw', rw') ∧ SHC sw' rw' so ma un nv nmL (some (sid R i right))) ∨ (¬ isn x R.length ∧ fx_X9_side n rs sw ga rw0 x (ob right) = some (3, 0, sw, rw0)) := by
  have hR8 := hU.1
  unfold fx_X9_side
  rw [fx_checkRule_c hB sdl_len, xb1_s]
  by_cases h : isn x R.length
  · obtain ⟨i, i1, i2⟩ := isn_of (by omega) h
    obtain ⟨_, t1, t2⟩ := hU.2 _ (rul_mem2 i1)
    obtain ⟨e1, e2⟩ := sdl_get R i
    have e1' : nth (sdl R) (2 * i) = (rul R i).1 := e1
    have e2' : nth (sdl R) (2 * i + 1) = (rul R i).2 := e2
    refine Or.inl ⟨i, ⟨i1, i2⟩, ?_⟩
    rw [if_pos h, if_pos rfl, i2]
    cases right with
    | false =>
      obtain ⟨sw', rw', a1, a2⟩ := fx_take_c (n := n) (sw := sw) (rw := rw0) (i := 2 * i) hn he.1 he.2.2.2.2.1 hnl he.1.2.1 (by decide) hB (by rw [sdl_len]; omega) (by rw [e1']; exact t1)
      rw [e1'] at a1 a2
      rw [show ob false = (0 : Int32) from rfl, if_pos rfl, xl_eq, show (2 : Int32) = nI 2 from rfl, nI_mul (by omega) (by decide) (by omega), a1, xb3_s]
      exact ⟨sw', rw', rfl, a2⟩
    | true =>
      obtain ⟨sw', rw', a1, a2⟩ := fx_take_c (n := n) (sw := sw) (rw := rw0) (i := 2 * i + 1) hn he.1 he.2.2.2.2.1 hnl he.1.2.1 (by decide) hB (by rw [sdl_len]; omega) (by rw [e2']; exact t2)
      rw [e2'] at a1 a2
      rw [show ob true = (1 : Int32) from rfl, if_neg (by decide), xl_eq, xl_eq, show (2 : Int32) = nI 2 from rfl, nI_mul (by omega) (by decide) (by omega), nI_1, a1, xb3_s]
      exact ⟨sw', rw', rfl, a2⟩
  · rw [if_neg h, if_neg (by decide)]
    exact Or.inr ⟨h, rfl⟩
theorem fx_keep_c {n nv : Nat} {rt sw rw0 : Nat → Nat → Int32} {so ma : Nat → Nat} {un : Nat → Option Nat} {nmL : Nat → List Nat} {A : List (List Nat)} {sh : Option (List Nat)} (hn : 100000 ≤ n) (hA : RWS 30 rt A) (ht : ∀ t ∈ A, tok so un ma nv t) (hs : SHC sw rw0 so ma un nv nmL sh) :
    ∃ (x9 r : Int32) (rt' : Nat → Nat → Int32), fx_X9_keep n rt rw0 = some (x9, r, rt') ∧
      ((sh = none ∧ r = 0 ∧ x9 = 2 ∧ rt' = rt) ∨
       (∃ x : List Nat, sh = some x ∧ ((∃ j : Nat, j < A.length ∧ nth A j = x ∧ r = nI j ∧ x9 = 0 ∧ rt' = rt) ∨ (x ∉ A ∧ A.length = 30 ∧ r = 0 ∧ x9 = 2 ∧ rt' = rt) ∨ (x ∉ A ∧ A.length < 30 ∧ r = nI A.length ∧ x9 = 0 ∧ RWS 30 rt' (A ++ [x]))))) := by
  unfold fx_X9_keep
  cases sh with
  | none =>
    have h0 : rw0 0 0 = nI 0 := hs.1.2.1
    rw [h0, if_pos (by decide)]
    exact ⟨_, _, _, rfl, Or.inl ⟨rfl, rfl, rfl, rfl⟩⟩
  | some x =>
    obtain ⟨s1, s2, _⟩ := hs
    have h0 : rw0 0 0 = nI 1 := s2.2.1
    have e : fx_X9_tell_w n rt rw0 = fx_X9_tell n rt rw0 := rfl
    rw [h0, if_neg (by decide), e]
    rcases fx_tell_c (n := n) hn hA s2 (fun t hm => (ht t hm).1.1.1) s1.1.1.1 with ⟨j, j1, j2, j3⟩ | ⟨j1, j2, j3⟩ | ⟨j1, j2, rt', j3, j4⟩
    · rw [j3, xb3_s, if_pos rfl]
      exact ⟨_, _, _, rfl, Or.inr ⟨x, rfl, Or.inl ⟨j, j1, j2, rfl, rfl, rfl⟩⟩⟩
    · rw [j3, xb3_s, if_neg (by decide)]
      exact ⟨_, _, _, rfl, Or.inr ⟨x, rfl, Or.inr (Or.inl ⟨j1, j2, rfl, rfl, rfl⟩)⟩⟩
    · rw [j3, xb3_s, if_pos rfl]
      exact ⟨_, _, _, rfl, Or.inr ⟨x, rfl, Or.inr (Or.inr ⟨j1, j2, rfl, rfl, j4⟩)⟩⟩
theorem fx_octet_c {n nv : Nat} {k : Int32} {sw rw0 : Nat → Nat → Int32} {so ma : Nat → Nat} {un : Nat → Option Nat} {nmL : Nat → List Nat} {sh : Option (List Nat)} (hs : SHC sw rw0 so ma un nv nmL sh) : fx_X9_octet n sw k = some (octS nmL sh k) := by
  unfold fx_X9_octet
  rcases fx_byteAt_c (n := n) (k := k) hs with ⟨i, i1, i2, i3⟩ | ⟨i1, i2⟩
  · rw [i3, xb1_s]
    cases sh with
    | none => exact absurd i1 (Nat.not_lt_zero _)
    | some x =>
      have l : (txt nmL x).length ≤ 160 := hs.2.2.2
      have i1' : i < (txt nmL x).length := i1
      have tI := nI_toInt (n := i) (by omega)
      have q : isn k (txt nmL x).length := by
        rw [i2]
        unfold isn
        rw [tI]
        omega
      show _ = some (if isn k (txt nmL x).length then nI ((txt nmL x).getD k.toInt.toNat 0) else -1)
      rw [if_pos q, i2, tI]
      rfl
  · rw [i2, xb1_s]
    cases sh with
    | none => rfl
    | some x =>
      show _ = some (if isn k (txt nmL x).length then nI ((txt nmL x).getD k.toInt.toNat 0) else -1)
      rw [if_neg (show ¬ isn k (txt nmL x).length from i1)]
theorem fx_showNode_c {n no nv i : Nat} {ga rc v sw rw0 : Nat → Nat → Int32} {w : Nat → Nat → Int64} {las : Nat → Bool} {so ma : Nat → Nat} {un : Nat → Option Nat} {nmL : Nat → List Nat} {N : List (List Nat)} (hn : 100000 ≤ n) (he : ENV ga las so ma un no nv nmL) (hnl : NML so nv nmL) (hT : TB v w las N) (hi : i < N.length) (ht : tok so un ma nv (nth N i)) (hv : v 0 1 = nI 0) :
    ∃ rc' v' sw' rw' : Nat → Nat → Int32, fx_X9_showNode n rc v ga sw rw0 (nI i) = some (nI (txt nmL (nth N i)).length, rc', v', sw', rw') ∧ TB v' w las N ∧ SHC sw' rw' so ma un nv nmL (some (nth N i)) := by
  obtain ⟨rc1, a1, a2⟩ := fx_clear_c (n := n) (rn := 1) (v := rc)
  obtain ⟨v1, rc2, b1, b2, b3, b4⟩ := fx_write_c (n := n) (held := 0) hn (by decide) (by decide) a2 (by decide) hT hi hv
  have e0 : nth ([] ++ [nth N i]) 0 = nth N i := rfl
  obtain ⟨sw', rw', c1, c2⟩ := fx_take_c (n := n) (sw := sw) (rw := rw0) (i := 0) hn he.1 he.2.2.2.2.1 hnl he.1.2.1 (by decide) b2 (Nat.lt_succ_self 0) ht
  rw [e0, show nI 0 = (0 : Int32) from rfl] at c1
  unfold fx_X9_showNode
  rw [a1, xb1_s, b1, xb2_s, c1, xb3_s]
  exact ⟨_, _, _, _, rfl, TB_FRS hT b3, c2⟩
/-- what is built: shown, or too great -/
def BLT (v : Nat → Nat → Int32) (w : Nat → Nat → Int64) (las : Nat → Bool) (N : List (List Nat)) (so ma : Nat → Nat) (un : Nat → Option Nat) (nv : Nat) (nmL : Nat → List Nat) (sw rw0 : Nat → Nat → Int32) (t : List Nat) (o : Option (Int32 × Int32 × (Nat → Nat → Int32) × (Nat → Nat → Int32) × (Nat → Nat → Int32) × (Nat → Nat → Int32))) : Prop :=
  ∃ (x9 r : Int32) (rc' v' sw' rw' : Nat → Nat → Int32), o = some (x9, r, rc', v', sw', rw') ∧ TB v' w las N ∧ ((great so t = false ∧ x9 = 0 ∧ r = nI (txt nmL t).length ∧ SHC sw' rw' so ma un nv nmL (some t)) ∨ (great so t = true ∧ x9 = 2 ∧ r = 0 ∧ sw' = sw ∧ rw' = rw0))
theorem fx_showBuilt_c {n no nv : Nat} {ga rc v sw rw0 : Nat → Nat → Int32} {w : Nat → Nat → Int64} {las : Nat → Bool} {so ma : Nat → Nat} {un : Nat → Option Nat} {nmL : Nat → List Nat} {N : List (List Nat)} {r : Int32} {t : List Nat} (hn : 100000 ≤ n) (he : ENV ga las so ma un no nv nmL) (hnl : NML so nv nmL) (hT : TB v w las N) (hr : VAL N so r t) (ht : great so t = false → tok so un ma nv t) (hv : v 0 1 = nI 0) :
    BLT v w las N so ma un nv nmL sw rw0 t (fx_X9_showBuilt n rc v ga sw rw0 r) := by
  have hN := hT.1
  unfold fx_X9_showBuilt
  rcases hr with ⟨g1, g2⟩ | ⟨g1, i, i1, i2, i3⟩
  · rw [g2, if_neg (by decide)]
    exact ⟨_, _, _, _, _, _, rfl, hT, Or.inr ⟨g1, rfl, rfl, rfl, rfl⟩⟩
  · obtain ⟨rc', v', sw', rw', a1, a2, a3⟩ := fx_showNode_c (n := n) (rc := rc) (sw := sw) (rw0 := rw0) hn he hnl hT i1 (by rw [i2]; exact ht g1) hv
    rw [i2] at a1 a3
    rw [i3, if_pos (by rw [show (0 : Int32) = nI 0 from rfl, nI_le_iff (by decide) (by omega)]; omega), a1, xb5_s]
    exact ⟨_, _, _, _, _, _, rfl, a2, Or.inl ⟨g1, rfl, rfl, a3⟩⟩
theorem TBK_nil {v : Nat → Nat → Int32} {w : Nat → Nat → Int64} {las las' : Nat → Bool} {so ma : Nat → Nat} {un : Nat → Option Nat} {nv : Nat} (h : TB v w las []) : TBK v w las' so ma un nv [] := ⟨TB_las h, fun t ht => absurd ht List.not_mem_nil⟩
theorem VAL_tok {N : List (List Nat)} {so ma : Nat → Nat} {un : Nat → Option Nat} {nv x : Nat} {t : List Nat} (hx : x < N.length) (e : nth N x = t) (ht : tok so un ma nv t) : VAL N so (nI x) t := Or.inr ⟨ht.2.1, x, hx, e, rfl⟩
theorem fx_join_c {n no nv : Nat} {ga rt v rc sw rw0 : Nat → Nat → Int32} {w : Nat → Nat → Int64} {las las0 : Nat → Bool} {so ma : Nat → Nat} {un : Nat → Option Nat} {nmL : Nat → List Nat} {A N0 : List (List Nat)} {o x y : Int32} (hn : 100000 ≤ n) (he : ENV ga las so ma un no nv nmL) (hnl : NML so nv nmL) (hA : RWS 30 rt A) (ht : ∀ t ∈ A, tok so un ma nv t) (hT : TB v w las0 N0) :
    ∃ (x9 r : Int32) (v' : Nat → Nat → Int32) (w' : Nat → Nat → Int64) (rc' sw' rw' : Nat → Nat → Int32), fx_X9_join n rt v w ga rc sw rw0 o x y = some (x9, r, v', w', rc', sw', rw') ∧ (∃ (las : Nat → Bool) (N : List (List Nat)), TB v' w' las N) ∧
      ((∃ (q i j : Nat), (q < no ∧ o = nI q) ∧ (i < A.length ∧ x = nI i) ∧ (j < A.length ∧ y = nI j) ∧ so q = 2 ∧
          ((great so (stand so un q [nth A i, nth A j]) = false ∧ x9 = 0 ∧ r = nI (txt nmL (stand so un q [nth A i, nth A j])).length ∧ SHC sw' rw' so ma un nv nmL (some (stand so un q [nth A i, nth A j]))) ∨
           (great so (stand so un q [nth A i, nth A j]) = true ∧ x9 = 2 ∧ r = 0 ∧ sw' = sw ∧ rw' = rw0))) ∨
       (∃ (q : Nat), (q < no ∧ o = nI q) ∧ isn x A.length ∧ isn y A.length ∧ so q ≠ 2 ∧ x9 = 1 ∧ r = 0 ∧ sw' = sw ∧ rw' = rw0) ∨
       (¬ (isn o no ∧ isn x A.length ∧ isn y A.length) ∧ x9 = 3 ∧ r = 0 ∧ sw' = sw ∧ rw' = rw0)) := by
  have hAl := hA.1
  have no10 := he.1.1
  have hsv := he.2.1
  unfold fx_X9_join
  rw [fx_checkOperator_c he.1, xb1_s]
  by_cases h0 : isn o no
  · rw [if_pos h0, if_pos rfl, fx_checkTerm_c hA, xb1_s]
    by_cases h1 : isn x A.length
    · rw [if_pos h1, if_pos rfl, fx_checkTerm_c hA, xb1_s]
      by_cases h2 : isn y A.length
      · obtain ⟨q, q1, q2⟩ := isn_of (by omega) h0
        obtain ⟨i, i1, i2⟩ := isn_of (by omega) h1
        obtain ⟨j, j1, j2⟩ := isn_of (by omega) h2
        have k3 : so q ≠ 3 := ENV_no he q q1
        have kl := he.2.2.2.1 q q1
        rw [if_pos h2, if_pos rfl, q2, fx_kindOf_c he.1 q1, xb1_s]
        by_cases z : so q = 2
        · rw [if_pos (by rw [z]; rfl)]
          have ti := ht _ (nth_mem i1)
          have tj := ht _ (nth_mem j1)
          obtain ⟨v1, a1, a2, a3⟩ := fx_clear8_c (n := n) hn hT
          obtain ⟨x1, v2, w2, E2, b1, b2, b3, b4, b5, b6, b7⟩ := fx_fromRow_k (n := n) (held := 0) (N := []) hn he (by decide) hA i1 ti (by decide) (TBK_nil (las' := las) a2) (by decide) a3
          obtain ⟨x2, v3, w3, E3, c1, c2, c3, c4, c5, c6, c7⟩ := fx_fromRow_k (n := n) (held := 0) hn he (by decide) hA j1 tj (by decide) b2 (by rw [List.length_append]; simp only [List.length_nil]; omega) b6
          have val1 : VAL ([] ++ E2 ++ E3) so (nI x1) (nth A i) := VAL_ext (VAL_tok b3 b4 ti)
          have val2 : VAL ([] ++ E2 ++ E3) so (nI x2) (nth A j) := VAL_tok c3 c4 tj
          obtain ⟨v4, d1, d2, d3⟩ := begin_LST (n := n) (v := v3) (N := [] ++ E2 ++ E3) he.1 hsv (ENV_no he) (show so q ≤ 3 by omega) q1
          obtain ⟨v5, e1, e2, e3⟩ := lay_LST (n := n) hn hsv (TB_FRL c2.1 d2) (show q < 10 by omega) (by omega) d3 val1
          obtain ⟨v6, f1, f2, f3⟩ := lay_LST (n := n) hn hsv (TB_FRL (TB_FRL c2.1 d2) e2) (show q < 10 by omega) (by omega) e3 val2
          have hns : noks so un [nth A i, nth A j] := fun t hm => by
            rcases List.mem_cons.mp hm with g | g
            · rw [g]; exact ti.1
            · rw [List.mem_singleton.mp g]; exact tj.1
          have l1 := tok_len ti
          have l2 := tok_len tj
          have hfl2 : [nth A i, nth A j].flatten.length = (nth A i).length + (nth A j).length := by simp
          obtain ⟨s1, s2⟩ := stand_nok (op := q) (SV_SU hsv) ⟨by omega, k3⟩ hns (fun e => by simp at e) (by omega)
          have hS : sS so ma nv (stand so un q [nth A i, nth A j]) := stand_S hsv ⟨by omega, k3⟩ (okts_wfs (noks_okts hns)) (fun t hm => by
            rcases List.mem_cons.mp hm with g | g
            · rw [g]; exact ti.2.2
            · rw [List.mem_singleton.mp g]; exact tj.2.2) (fun e => absurd z e) (by omega)
          obtain ⟨r, v7, w7, E7, g1, g2, g3, g4, g5⟩ := close_ANS (n := n) (ts := [] ++ [nth A i] ++ [nth A j]) hn he.2.2.1 he.1 hsv (TB_FRL (TB_FRL (TB_FRL c2.1 d2) e2) f2) (by simp only [List.length_append, List.length_nil]; omega) ⟨by omega, k3⟩ (by omega) f3 (noks_okts hns) (fun _ e => by simp at e) (fun e => absurd z e) (by show [nth A i, nth A j].flatten.length < 512; omega)
          have st0 : v7 0 1 = nI 0 := by rw [g5.2.2 1 (by decide), f2.2.2, e2.2.2, d2.2.2]; exact c6
          obtain ⟨x9, r', rc', v8, sw', rw', m1, m2, m3⟩ := fx_showBuilt_c (n := n) (rc := rc) (sw := sw) (rw0 := rw0) (t := stand so un q [nth A i, nth A j]) hn he hnl g2 g4 (fun gf => ⟨s1, gf, hS⟩) st0
          rw [i2, j2, a1, xb1_s, b1, xb3_s, c1, xb3_s, d1, xb1_s, e1, xb1_s, f1, xb1_s, g1, xb3_s, m1, xb6_s]
          rcases m3 with ⟨p1, p2, p3, p4⟩ | ⟨p1, p2, p3, p4, p5⟩
          · rw [p2, if_pos rfl]
            exact ⟨_, _, _, _, _, _, _, rfl, ⟨_, _, m2⟩, Or.inl ⟨q, i, j, ⟨q1, rfl⟩, ⟨i1, rfl⟩, ⟨j1, rfl⟩, z, Or.inl ⟨p1, rfl, p3, p4⟩⟩⟩
          · rw [p2, if_neg (by decide)]
            exact ⟨_, _, _, _, _, _, _, rfl, ⟨_, _, m2⟩, Or.inl ⟨q, i, j, ⟨q1, rfl⟩, ⟨i1, rfl⟩, ⟨j1, rfl⟩, z, Or.inr ⟨p1, rfl, rfl, p4, p5⟩⟩⟩
        · rw [if_neg (by rw [show (2 : Int32) = nI 2 from rfl, nI_inj (by omega) (by decide)]; exact z)]
          exact ⟨_, _, _, _, _, _, _, rfl, ⟨_, _, hT⟩, Or.inr (Or.inl ⟨q, ⟨q1, rfl⟩, h1, h2, z, rfl, rfl, rfl, rfl⟩)⟩
      · rw [if_neg h2, if_neg (by decide)]
        exact ⟨_, _, _, _, _, _, _, rfl, ⟨_, _, hT⟩, Or.inr (Or.inr ⟨fun g => h2 g.2.2, rfl, rfl, rfl, rfl⟩)⟩
    · rw [if_neg h1, if_neg (by decide)]
      exact ⟨_, _, _, _, _, _, _, rfl, ⟨_, _, hT⟩, Or.inr (Or.inr ⟨fun g => h1 g.2.1, rfl, rfl, rfl, rfl⟩)⟩
  · rw [if_neg h0, if_neg (by decide)]
    exact ⟨_, _, _, _, _, _, _, rfl, ⟨_, _, hT⟩, Or.inr (Or.inr ⟨fun g => h0 g.1, rfl, rfl, rfl, rfl⟩)⟩
