/-! ===== the stepper: what a rule may take at a place ===== -/
def SHD (so : Nat → Nat) (l s : List Nat) : Prop := kd so l = 2 ∧ isop (opn l) s = true
/-- what left has to match -/
def TGR (so : Nat → Nat) (un : Nat → Option Nat) (l s : List Nat) (bits : Nat) (x : List Nat) : Prop :=
  (isop (opn l) s = false ∧ kd so l = 2 ∧ un (opn l) ≠ none ∧ x = s) ∨ (isop (opn l) s = true ∧ kd so l ≠ 2 ∧ x = s) ∨
  (isop (opn l) s = true ∧ kd so l = 2 ∧ (un (opn l) = none → ar (hd0 l) ≤ pcF bits 6 0) ∧ FST bits (flat1 so un (opn l) s) ∧ x = SS so un (opn l) s bits)
theorem opI_same {s l : List Nat} (hs : hd0 s < 5632) (hl : hd0 l < 5632) (h5 : 512 ≤ hd0 l) (hw : wf 1 s) : opI (hd0 s) = opI (hd0 l) ↔ isop (opn l) s = true := by
  have e : s = hd0 s :: (pts s).flatten := row_pts hw
  have key : isop (opn l) s = true ↔ 512 ≤ hd0 s ∧ hd0 s / 512 - 1 = hd0 l / 512 - 1 := by
    rw [e]
    show (decide (512 ≤ hd0 s) && decide (hd0 s / 512 - 1 = opn l)) = true ↔ _
    rw [Bool.and_eq_true, decide_eq_true_eq, decide_eq_true_eq]; rfl
  rw [key]
  unfold opI
  constructor
  · intro h
    have h' : nI (hd0 s / 512) = nI (hd0 l / 512) := by
      have := congrArg (fun x => x + 1) h
      simpa [Int32.sub_add_cancel] using this
    have := (nI_inj (by omega) (by omega)).mp h'
    omega
  · rintro ⟨h1, h2⟩
    have : hd0 s / 512 = hd0 l / 512 := by omega
    rw [this]
theorem fx_wholeOf_c {n i r a c bits no nv : Nat} {ga sp v : Nat → Nat → Int32} {w8 : Nat → Nat → Int64} {las : Nat → Bool} {N : List (List Nat)} {so ma : Nat → Nat} {un : Nat → Option Nat} {nmL : Nat → List Nat} (he : ENV ga las so ma un no nv nmL) (hT : TBK v w8 las so ma un nv N) (hi : i < 20) (hr : r < 8) (hb9 : bits < 256) (h0 : sp 0 0 = nI bits) (ha : a < N.length) (h6 : sp 6 i = nI a) (hc : bits.testBit r = true → c < N.length ∧ sp 4 r = nI c ∧ 512 ≤ hd0 (nth N c)) :
    (bits.testBit r = false ∧ fx_X7_wholeOf n sp v ga (nI i) (nI r) = some (-1)) ∨
    (bits.testBit r = true ∧ SHD so (nth N c) (nth N a) ∧ fx_X7_wholeOf n sp v ga (nI i) (nI r) = some (nI (2 ^ (pts (nth N a)).length - 1))) ∨
    (bits.testBit r = true ∧ ¬ SHD so (nth N c) (nth N a) ∧ fx_X7_wholeOf n sp v ga (nI i) (nI r) = some (nI 0)) := by
  have e0 : (0 : Int32) = nI 0 := rfl
  have hbit := bit8 ⟨bits, hb9⟩ ⟨r, hr⟩
  have pre : ∀ X : Option Int32, (if nI i < (0 : Int32) then (some ((-1 : Int32))) else (if (20 : Int32) ≤ nI i then (some ((-1 : Int32))) else (if nI r < (0 : Int32) then (some ((-1 : Int32))) else (if (8 : Int32) ≤ nI r then (some ((-1 : Int32))) else X)))) = X := fun X => by
    rw [if_neg (by rw [e0, nI_lt_iff (by omega) (by decide)]; omega), if_neg (by rw [show (20 : Int32) = nI 20 from rfl, nI_le_iff (by decide) (by omega)]; omega), if_neg (by rw [e0, nI_lt_iff (by omega) (by decide)]; omega), if_neg (by rw [show (8 : Int32) = nI 8 from rfl, nI_le_iff (by decide) (by omega)]; omega)]
  unfold fx_X7_wholeOf
  rw [pre, xl_eq, xl_eq, h0]
  by_cases q : bits.testBit r = false
  · exact Or.inl ⟨q, by rw [if_pos (hbit.mpr q)]⟩
  · have qt : bits.testBit r = true := by
      cases y : bits.testBit r with
      | true => rfl
      | false => exact absurd y q
    obtain ⟨c1, c2, c3⟩ := hc qt
    right
    have nda := (TB_get hT.1 ha).1
    have ndc := (TB_get hT.1 c1).1
    have cka := nda.2.1 _ (hd0_mem nda.1)
    have ckc := ndc.2.1 _ (hd0_mem ndc.1)
    have kk := fx_kindAt_c (n := n) he hT c1
    have tk := hT.2 _ (nth_mem c1)
    have hkle : kd so (nth N c) ≤ 2 := by
      unfold kd
      split
      · omega
      · exact (ENV_op he (tk.1.1.2.2 _ (hd0_mem tk.1.1.1) (by omega)).1).2.2
    have op9 := opI_same (s := nth N a) (l := nth N c) (by rcases nda.2.2.1 _ (hd0_mem nda.1) with z | z <;> omega) (by rcases ndc.2.2.1 _ (hd0_mem ndc.1) with z | z <;> omega) c3 nda.1
    rw [if_neg (fun y => q (hbit.mp y)), xr_n hi (by decide), h6, fx_codeOf_c hT.1 ha, xb1_s, xr_n hr (by decide), c2, kk, xb1_s]
    unfold jx_X7_wholeOf_91
    by_cases k2 : kd so (nth N c) = 2
    · rw [if_pos (by rw [k2]; rfl), fx_operatorIn_c cka, xb1_s, xr_n hr (by decide), c2, fx_codeOf_c hT.1 c1, xb1_s, fx_operatorIn_c ckc, xb1_s]
      by_cases io : isop (opn (nth N c)) (nth N a) = true
      · left
        refine ⟨qt, ⟨k2, io⟩, ?_⟩
        have pl := pts_len nda.1
        have h66 := nda.2.2.2.2
        have pwm : (1 : Int32) <<< (nI (ar (hd0 (nth N a))) &&& 31) = nI (2 ^ ar (hd0 (nth N a))) := pw32 ⟨ar (hd0 (nth N a)), by omega⟩
        rw [if_pos (op9.mpr io), fx_partsIn_c cka, xb1_s, xl_eq, pwm, xl_eq, i1, nI_sub (Nat.pow_pos (by decide)), pl]
      · right
        exact ⟨qt, fun h => io h.2, by rw [if_neg (fun h => io (op9.mp h))]; rfl⟩
    · right
      exact ⟨qt, fun h => k2 h.1, by rw [if_neg (by rw [show (2 : Int32) = nI 2 from rfl, nI_inj (by omega) (by decide)]; exact k2)]; rfl⟩
/-- what targetOf gives -/
def TGO (las : Nat → Bool) (so ma : Nat → Nat) (un : Nat → Option Nat) (nv : Nat) (N : List (List Nat)) (v : Nat → Nat → Int32) (l s : List Nat) (bits : Nat) (o : Option (Int32 × (Nat → Nat → Int32) × (Nat → Nat → Int64))) : Prop :=
  ∃ (r' : Int32) (v' : Nat → Nat → Int32) (w' : Nat → Nat → Int64) (E : List (List Nat)), o = some (r', v', w') ∧ TBK v' w' las so ma un nv (N ++ E) ∧ E.length ≤ 1 ∧ v' 0 1 = v 0 1 ∧
    ((r' = -1 ∧ ∀ x : List Nat, ¬ TGR so un l s bits x) ∨ ∃ y : Nat, y < (N ++ E).length ∧ r' = nI y ∧ TGR so un l s bits (nth (N ++ E) y))
theorem fx_targetOf_c {n i r a c bits no nv : Nat} {ga sp v : Nat → Nat → Int32} {w8 : Nat → Nat → Int64} {las : Nat → Bool} {N : List (List Nat)} {so ma : Nat → Nat} {un : Nat → Option Nat} {nmL : Nat → List Nat} (hn : 100000 ≤ n) (he : ENV ga las so ma un no nv nmL) (hT : TBK v w8 las so ma un nv N) (hN : N.length < 1024) (hi : i < 20) (hr : r < 8) (ha : a < N.length) (h6 : sp 6 i = nI a) (c1 : c < N.length) (c2 : sp 4 r = nI c) (c3 : 512 ≤ hd0 (nth N c)) (hbs : SHD so (nth N c) (nth N a) → bits < 2 ^ (pts (nth N a)).length) :
    TGO las so ma un nv N v (nth N c) (nth N a) bits (fx_X7_targetOf n sp v w8 ga (nI i) (nI r) (nI bits)) := by
  have e0 : (0 : Int32) = nI 0 := rfl
  have nda := (TB_get hT.1 ha).1
  have ndc := (TB_get hT.1 c1).1
  have cka := nda.2.1 _ (hd0_mem nda.1)
  have ckc := ndc.2.1 _ (hd0_mem ndc.1)
  have kk := fx_kindAt_c (n := n) he hT c1
  have tk := hT.2 _ (nth_mem c1)
  have tka := hT.2 _ (nth_mem ha)
  have hso := (tk.1.1.2.2 _ (hd0_mem tk.1.1.1) c3).1
  obtain ⟨o1, o2, o3⟩ := ENV_op he (op := opn (nth N c)) hso
  have hkle : kd so (nth N c) ≤ 2 := by
    unfold kd
    rw [if_neg (by omega)]; exact o3
  have op9 := opI_same (s := nth N a) (l := nth N c) (by rcases nda.2.2.1 _ (hd0_mem nda.1) with z | z <;> omega) (by rcases ndc.2.2.1 _ (hd0_mem ndc.1) with z | z <;> omega) c3 nda.1
  have opn9 : opI (hd0 (nth N c)) = nI (opn (nth N c)) := opI_op c3
  have co := fx_codeOf_c (n := n) hT.1 ha
  have stay : ∀ x : Int32, ((x = -1 ∧ ∀ z : List Nat, ¬ TGR so un (nth N c) (nth N a) bits z) ∨ (x = nI a ∧ TGR so un (nth N c) (nth N a) bits (nth N a))) → TGO las so ma un nv N v (nth N c) (nth N a) bits (some (x, v, w8)) := fun x h => by
    refine ⟨x, v, w8, [], rfl, by rw [List.append_nil]; exact hT, Nat.zero_le _, rfl, ?_⟩
    rcases h with h | ⟨h1, h2⟩
    · exact Or.inl h
    · exact Or.inr ⟨a, by rw [List.append_nil]; exact ha, h1, by rw [List.append_nil]; exact h2⟩
  unfold fx_X7_targetOf
  rw [if_neg (by rw [e0, nI_lt_iff (by omega) (by decide)]; omega), if_neg (by rw [show (20 : Int32) = nI 20 from rfl, nI_le_iff (by decide) (by omega)]; omega), if_neg (by rw [e0, nI_lt_iff (by omega) (by decide)]; omega), if_pos (by rw [show (8 : Int32) = nI 8 from rfl, nI_lt_iff (by omega) (by decide)]; omega), xr_n hi (by decide), xr_n hr (by decide), c2, h6, fx_codeOf_c hT.1 c1, xb1_s, fx_operatorIn_c ckc, xb1_s, xr_n hr (by decide), c2, kk, xb1_s]
  unfold jx_X7_targetOf_98
  rw [co, xb1_s, fx_operatorIn_c cka, xb1_s]
  by_cases k2 : kd so (nth N c) = 2
  · obtain ⟨s1, s2, s3, s4⟩ := sum_ar tk k2
    rw [if_pos (by rw [k2]; rfl), opn9, fx_hasUnit_c he.1 he.2.1 o1, xb1_s, ← opn9]
    by_cases io : isop (opn (nth N c)) (nth N a) = true
    · have hb9 := hbs ⟨k2, io⟩
      have hf : flat1 so un (opn (nth N c)) (nth N a) = pts (nth N a) := by unfold flat1; rw [if_pos s2, if_pos io]
      have pl := pts_len nda.1
      have h66 := nda.2.2.2.2
      have pow6 := pow64 (show (pts (nth N a)).length ≤ 6 by omega)
      have b64 : bits < 64 := by omega
      have hbl : ∀ k : Nat, (flat1 so un (opn (nth N c)) (nth N a)).length ≤ k → bits.testBit k = false := fun k hk => by
        rw [hf] at hk
        exact Nat.testBit_lt_two_pow (Nat.lt_of_lt_of_le hb9 (Nat.pow_le_pow_right (by decide) hk))
      have lpc := sl_pc (qs := flat1 so un (opn (nth N c)) (nth N a)) (by rw [hf]; omega) hbl
      have tgr : ∀ z : List Nat, TGR so un (nth N c) (nth N a) bits z → (un (opn (nth N c)) = none → ar (hd0 (nth N c)) ≤ pcF bits 6 0) ∧ FST bits (flat1 so un (opn (nth N c)) (nth N a)) := fun z hz => by
        rcases hz with ⟨z1, _⟩ | ⟨_, z1, _⟩ | ⟨_, _, z1, z2, _⟩
        · rw [io] at z1; exact nomatch z1
        · exact absurd k2 z1
        · exact ⟨z1, z2⟩
      have last : (un (opn (nth N c)) = none → ar (hd0 (nth N c)) ≤ pcF bits 6 0) → ∀ z0 : Int32, TGO las so ma un nv N v (nth N c) (nth N a) bits (jx_X7_targetOf_154 n sp ga (nI i) (nI r) (nI bits) (nI a) (nI (cc (hd0 (nth N c)))) (opI (hd0 (nth N c))) 1 z0 v w8) := fun hpc z0 => by
        unfold jx_X7_targetOf_154
        rw [opn9]
        rcases fx_isFirst_c (n := n) (bits := bits) hn he hT.1 ha s2 b64 hbl with ⟨f1, f2⟩ | ⟨f1, f2⟩
        · rw [f2, xb1_s, if_neg (by decide)]
          obtain ⟨y, v1, w1, E, y1, y2, y3, y4, y5, y6, y7⟩ := fx_subSum_c (n := n) (op := opn (nth N c)) (bits := bits) hn he hT ha s2 hN b64 hbl (fun e hu => by
            have := hpc hu
            rw [e] at lpc
            simp only [List.length_nil] at lpc
            omega)
          rw [y1, xb3_s]
          refine ⟨nI y, v1, w1, E, rfl, y2, ?_, y7 1 (by decide), Or.inr ⟨y, y4, rfl, Or.inr (Or.inr ⟨io, k2, hpc, f1, y5⟩)⟩⟩
          rcases y3 with e | e
          · rw [e]; exact Nat.zero_le _
          · rw [e]; exact Nat.le_refl _
        · rw [f2, xb1_s, if_pos rfl]
          exact stay (-1) (Or.inl ⟨rfl, fun z hz => f1 (tgr z hz).2⟩)
      by_cases hu : un (opn (nth N c)) = none
      · rw [if_pos hu, if_pos rfl, if_pos (op9.mpr io), if_neg (by decide), if_pos rfl, fx_bitCount_c b64, xb1_s, fx_partsIn_c ckc, xb1_s]
        have har := ndc.2.2.2.2
        have hpb : pcF bits 6 0 ≤ 6 := by rw [← lpc]; have := sel_le (s := bits) (qs := flat1 so un (opn (nth N c)) (nth N a)) (k := 0); rw [hf] at this ⊢; exact Nat.le_trans this (by omega)
        by_cases hlt : pcF bits 6 0 < ar (hd0 (nth N c))
        · rw [if_pos (by rw [nI_lt_iff (by omega) (by omega)]; exact hlt)]
          exact stay (-1) (Or.inl ⟨rfl, fun z hz => by have := (tgr z hz).1 hu; omega⟩)
        · rw [if_neg (by rw [nI_lt_iff (by omega) (by omega)]; exact hlt)]
          exact last (fun _ => by omega) 0
      · rw [if_neg hu, if_neg (by decide), xb1_s, fx_operatorIn_c cka, xb1_s, if_pos (op9.mpr io), if_neg (by decide), if_neg (by decide)]
        exact last (fun h => absurd h hu) 1
    · have iof : isop (opn (nth N c)) (nth N a) = false := by simpa using io
      by_cases hu : un (opn (nth N c)) = none
      · rw [if_pos hu, if_pos rfl, if_neg (fun h => io (op9.mp h)), if_pos rfl]
        refine stay (-1) (Or.inl ⟨rfl, fun z hz => ?_⟩)
        rcases hz with ⟨_, _, z1, _⟩ | ⟨z1, _⟩ | ⟨z1, _⟩
        · exact z1 hu
        · exact io z1
        · exact io z1
      · rw [if_neg hu, if_neg (by decide), xb1_s, fx_operatorIn_c cka, xb1_s, if_neg (fun h => io (op9.mp h)), if_neg (by decide)]
        exact stay (nI a) (Or.inr ⟨rfl, Or.inl ⟨iof, k2, hu, rfl⟩⟩)
  · rw [if_neg (by rw [show (2 : Int32) = nI 2 from rfl, nI_inj (by omega) (by decide)]; exact k2)]
    by_cases io : isop (opn (nth N c)) (nth N a) = true
    · rw [xb1_s, fx_operatorIn_c cka, xb1_s, if_pos (op9.mpr io), if_pos rfl]
      exact stay (nI a) (Or.inr ⟨rfl, Or.inr (Or.inl ⟨io, k2, rfl⟩)⟩)
    · rw [xb1_s, fx_operatorIn_c cka, xb1_s, if_neg (fun h => io (op9.mp h)), if_pos rfl]
      refine stay (-1) (Or.inl ⟨rfl, fun z hz => ?_⟩)
      rcases hz with ⟨_, z1, _⟩ | ⟨z1, _⟩ | ⟨z1, _⟩
      · exact k2 z1
      · exact io z1
      · exact io z1
