/-! ===== the matcher: goals, chains, small ones ===== -/
abbrev GoalC := List Nat × Nat × List Nat
def gsat (so : Nat → Nat) (un : Nat → Option Nat) (sg : Nat → List Nat) (g : GoalC) : Prop :=
  if kd so g.1 = 2 then (∀ q ∈ sl g.2.1 (pts g.1), von so un sg q) ∧ stand so un (opn g.1) ((sl g.2.1 (pts g.1)).map (fil so un sg)) = g.2.2 else von so un sg g.1 ∧ fil so un sg g.1 = g.2.2
def extS (be : Nat → Option (List Nat)) (sg : Nat → List Nat) : Prop := ∀ v : Nat, v < 5 → ∀ r : List Nat, be v = some r → sg v = r
def SolG (so : Nat → Nat) (un : Nat → Option Nat) (C : List GoalC) (be : Nat → Option (List Nat)) (sg : Nat → List Nat) : Prop := extS be sg ∧ ∀ g ∈ C, gsat so un sg g
/-- a chain of goals, as the class keeps it -/
def CHN (u : Nat → Nat → Int32) (N : List (List Nat)) : List GoalC → Nat → Int32 → Prop
  | [], _, x => x = -1
  | g :: C, G, x => ∃ i : Nat, i < G ∧ x = nI i ∧ (∃ a : Nat, a < N.length ∧ nth N a = g.1 ∧ u 1 i = nI a) ∧ (u 2 i = nI g.2.1 ∧ g.2.1 < 64) ∧ (∃ b : Nat, b < N.length ∧ nth N b = g.2.2 ∧ u 3 i = nI b) ∧ CHN u N C i (u 4 i)
theorem CHN_top {u : Nat → Nat → Int32} {N : List (List Nat)} {C : List GoalC} {G G' : Nat} {x : Int32} (h : CHN u N C G x) (hG : G ≤ G') : CHN u N C G' x := by
  cases C with
  | nil => exact h
  | cons g C =>
    obtain ⟨i, i1, i2⟩ := h
    exact ⟨i, by omega, i2⟩
theorem CHN_frame {u u' : Nat → Nat → Int32} {N : List (List Nat)} : ∀ {C : List GoalC} {G : Nat} {x : Int32}, (∀ a : Nat, 1 ≤ a → a ≤ 4 → ∀ i : Nat, i < G → u' a i = u a i) → CHN u N C G x → CHN u' N C G x
  | [], _, _, _, h => h
  | g :: C, G, x, hf, h => by
    obtain ⟨i, i1, i2, i3, i4, i5, i6⟩ := h
    have f := fun a (h1 : 1 ≤ a) (h4 : a ≤ 4) => hf a h1 h4 i i1
    refine ⟨i, i1, i2, ?_, ?_, ?_, ?_⟩
    · rw [f 1 (by decide) (by decide)]; exact i3
    · rw [f 2 (by decide) (by decide)]; exact i4
    · rw [f 3 (by decide) (by decide)]; exact i5
    · rw [f 4 (by decide) (by decide)]
      exact CHN_frame (fun a h1 h4 z hz => hf a h1 h4 z (by omega)) i6
theorem CHN_ext {u : Nat → Nat → Int32} {N E : List (List Nat)} : ∀ {C : List GoalC} {G : Nat} {x : Int32}, CHN u N C G x → CHN u (N ++ E) C G x
  | [], _, _, h => h
  | g :: C, G, x, h => by
    obtain ⟨i, i1, i2, ⟨a, a1, a2, a3⟩, i4, ⟨b, b1, b2, b3⟩, i6⟩ := h
    exact ⟨i, i1, i2, ⟨a, (nth_pre a1).1, by rw [(nth_pre a1).2]; exact a2, a3⟩, i4, ⟨b, (nth_pre b1).1, by rw [(nth_pre b1).2]; exact b2, b3⟩, CHN_ext i6⟩
theorem CHN_x {u : Nat → Nat → Int32} {N : List (List Nat)} {C : List GoalC} {G : Nat} {x : Int32} (h : CHN u N C G x) (hG : G ≤ 256) : x = -1 ∧ C = [] ∨ ∃ i : Nat, i < G ∧ x = nI i ∧ C ≠ [] := by
  cases C with
  | nil => exact Or.inl ⟨h, rfl⟩
  | cons g C =>
    obtain ⟨i, i1, i2, _⟩ := h
    exact Or.inr ⟨i, i1, i2, by simp⟩
theorem BDG_ext {u : Nat → Nat → Int32} {N E : List (List Nat)} {be : Nat → Option (List Nat)} (h : BDG u N be) : BDG u (N ++ E) be := fun v hv => by
  rcases h v hv with g | ⟨r, y, a, b, c, d, e⟩
  · exact Or.inl g
  · exact Or.inr ⟨r, y, a, b, (nth_pre c).1, by rw [(nth_pre c).2]; exact d, e⟩
theorem BDG_frame {u u' : Nat → Nat → Int32} {N : List (List Nat)} {be : Nat → Option (List Nat)} (h : BDG u N be) (h4 : u' 0 4 = u 0 4) (h5 : u' 5 = u 5) : BDG u' N be := fun v hv => by
  rw [h4, h5]; exact h v hv
/-- what a new goal leaves as it was -/
def FGo (u u' : Nat → Nat → Int32) (G : Nat) : Prop := (∀ a : Nat, 1 ≤ a → a ≤ 4 → ∀ i : Nat, i < G → u' a i = u a i) ∧ (∀ a : Nat, 5 ≤ a → u' a = u a) ∧ ∀ j : Nat, j ≠ 2 → u' 0 j = u 0 j
theorem FGo.refl {u : Nat → Nat → Int32} {G : Nat} : FGo u u G := ⟨fun _ _ _ _ _ => rfl, fun _ _ => rfl, fun _ _ => rfl⟩
theorem FGo.trans {u u' u'' : Nat → Nat → Int32} {G G' : Nat} (h : FGo u u' G) (h' : FGo u' u'' G') (hG : G ≤ G') : FGo u u'' G := ⟨fun a h1 h4 i hi => (h'.1 a h1 h4 i (by omega)).trans (h.1 a h1 h4 i hi), fun a ha => (h'.2.1 a ha).trans (h.2.1 a ha), fun j hj => (h'.2.2 j hj).trans (h.2.2 j hj)⟩
theorem fx_addGoal_c {n G L a b : Nat} {u : Nat → Nat → Int32} {N : List (List Nat)} {C : List GoalC} {x : Int32} {p t : List Nat} (hG : u 0 2 = nI G) (hG2 : G < 256) (hN : N.length ≤ 1024) (ha : a < N.length) (ha2 : nth N a = p) (hb9 : b < N.length) (hb2 : nth N b = t) (hL : L < 64) (hc : CHN u N C G x) :
    ∃ u' : Nat → Nat → Int32, fx_X0_addGoal n u (nI a) (nI L) (nI b) x = some (nI G, u') ∧ u' 0 2 = nI (G + 1) ∧ CHN u' N ((p, L, t) :: C) (G + 1) (nI G) ∧ FGo u u' G := by
  have fr : FGo u (mu (mu (mu (mu (mu u 1 G (nI a)) 2 G (nI L)) 3 G (nI b)) 4 G x) 0 2 (nI (G + 1))) G := by
    refine ⟨fun z h1 h4 i hi => ?_, fun z hz => ?_, fun j hj => ?_⟩
    · rw [mu_ne (by omega)]
      have : z = 1 ∨ z = 2 ∨ z = 3 ∨ z = 4 := by omega
      rcases this with rfl | rfl | rfl | rfl
      · rw [mu_ne (by decide), mu_ne (by decide), mu_ne (by decide), mu_eq, upd_ne (by omega)]
      · rw [mu_ne (by decide), mu_ne (by decide), mu_eq, upd_ne (by omega), mu_ne (by decide)]
      · rw [mu_ne (by decide), mu_eq, upd_ne (by omega), mu_ne (by decide), mu_ne (by decide)]
      · rw [mu_eq, upd_ne (by omega), mu_ne (by decide), mu_ne (by decide), mu_ne (by decide)]
    · rw [mu_ne (by omega), mu_ne (by omega), mu_ne (by omega), mu_ne (by omega), mu_ne (by omega)]
    · rw [mu_eq, upd_ne hj, mu_ne (by decide), mu_ne (by decide), mu_ne (by decide), mu_ne (by decide)]
  refine ⟨_, ?_, ?_, ?_, fr⟩
  · unfold fx_X0_addGoal
    rw [hG, if_neg (by rw [show (0 : Int32) = nI 0 from rfl, nI_lt_iff (by omega) (by decide)]; omega), if_neg (by rw [show (256 : Int32) = nI 256 from rfl, nI_le_iff (by decide) (by omega)]; omega), if_pos (by rw [show (0 : Int32) = nI 0 from rfl, nI_le_iff (by decide) (by omega)]; omega), xwp_n hG2 (by decide), mu_ne (by decide), hG, xwp_n hG2 (by decide), mu_ne (by decide), mu_ne (by decide), hG, xwp_n hG2 (by decide), mu_ne (by decide), mu_ne (by decide), mu_ne (by decide), hG, xwp_n hG2 (by decide), mu_ne (by decide), mu_ne (by decide), mu_ne (by decide), mu_ne (by decide), hG, xl_eq, nI_1, xl_eq, mu_eq, upd_eq, xl_eq, i1, nI_sub (by omega), show G + 1 - 1 = G by omega]
  · rw [mu_eq, upd_eq]
  · refine ⟨G, by omega, rfl, ⟨a, ha, ha2, ?_⟩, ⟨?_, hL⟩, ⟨b, hb9, hb2, ?_⟩, ?_⟩
    · rw [mu_ne (by decide), mu_ne (by decide), mu_ne (by decide), mu_ne (by decide), mu_eq, upd_eq]
    · rw [mu_ne (by decide), mu_ne (by decide), mu_ne (by decide), mu_eq, upd_eq]
    · rw [mu_ne (by decide), mu_ne (by decide), mu_eq, upd_eq]
    · have e4 : (mu (mu (mu (mu (mu u 1 G (nI a)) 2 G (nI L)) 3 G (nI b)) 4 G x) 0 2 (nI (G + 1))) 4 G = x := by rw [mu_ne (by decide), mu_eq, upd_eq]
      rw [e4]
      exact CHN_frame fr.1 hc
theorem fx_bind_c {n c y : Nat} {u : Nat → Nat → Int32} {N : List (List Nat)} {be : Nat → Option (List Nat)} {t : List Nat} (hB : BDG u N be) (hc : c < 5) (hy : y < N.length) (ht : nth N y = t) :
    ∃ u' : Nat → Nat → Int32, fx_X0_bind n u (nI c) (nI y) = some u' ∧ BDG u' N (bup be c t) ∧ (∀ a : Nat, a ≠ 0 → a ≠ 5 → u' a = u a) ∧ (∀ j : Nat, j ≠ 4 → u' 0 j = u 0 j) ∧ ∀ z : Nat, z ≠ c → u' 5 z = u 5 z := by
  refine ⟨mu (mu u 5 c (nI y)) 0 4 ((u 0 4) ||| ((1 : Int32) <<< (nI c &&& 31))), ?_, fun v hv => ?_, fun a a0 a5 => by rw [mu_ne a0, mu_ne a5], fun j hj => by rw [mu_eq, upd_ne hj, mu_ne (by decide)], fun z hz => by rw [mu_ne (by decide), mu_eq, upd_ne hz]⟩
  · unfold fx_X0_bind
    rw [if_neg (by rw [show (0 : Int32) = nI 0 from rfl, nI_lt_iff (by omega) (by decide)]; omega), if_neg (by rw [show (5 : Int32) = nI 5 from rfl, nI_le_iff (by decide) (by omega)]; omega), xwp_n hc (by decide), xl_eq, mu_ne (by decide), xl_eq, xl_eq]
  · rw [mu_eq, upd_eq, mu_ne (by decide), mu_eq]
    have h1 := hold_one (nI c) (by rw [nI_toInt (by omega)]; omega) (by rw [nI_toInt (by omega)]; omega) hv
    rw [nI_clamp (by omega)] at h1
    have ho := hold_or (x := u 0 4) (y := (1 : Int32) <<< (nI c &&& 31)) rfl v
    by_cases e : v = c
    · subst e
      refine Or.inr ⟨t, y, bup_eq, ?_, hy, ht, upd_eq _ _ _⟩
      exact ho.mpr (Or.inr (h1.mpr rfl))
    · rw [bup_ne e, upd_ne e]
      have hsame : hb ((u 0 4) ||| ((1 : Int32) <<< (nI c &&& 31))) v = hb (u 0 4) v := by
        cases z : hb (u 0 4) v with
        | true => exact ho.mpr (Or.inl z)
        | false =>
          cases z2 : hb ((u 0 4) ||| ((1 : Int32) <<< (nI c &&& 31))) v with
          | false => rfl
          | true =>
            rcases ho.mp z2 with g | g
            · have g' : hb (u 0 4) v = true := g
              rw [z] at g'; exact nomatch g'
            · exact absurd (h1.mp g) e
      rw [hsame]
      exact hB v hv
/-- whether all variables of a term are bound -/
theorem ground_c {u : Nat → Nat → Int32} {N : List (List Nat)} {be : Nat → Option (List Nat)} {p : List Nat} (hB : BDG u N be) (hc : col p) : (vrF p 0 &&& ((u 0 4) ^^^ (-1))) = 0 ↔ ∀ c ∈ p, c < 512 → be c ≠ none := by
  rw [and_not_zero]
  constructor
  · intro h c hcp h5 hn
    have hc5 : c < 5 := by rcases hc c hcp with g | g <;> omega
    have hb9 := h c (by omega) ((vrF_bit (a := 0) hc (by omega)).mpr (Or.inr ⟨hcp, hc5⟩))
    rcases hB c hc5 with ⟨_, b⟩ | ⟨r, y, b, _⟩
    · rw [b] at hb9; exact nomatch hb9
    · rw [hn] at b; exact nomatch b
  · intro h v hv hm
    rcases (vrF_bit (a := 0) hc hv).mp hm with g | ⟨g1, g2⟩
    · exact absurd g (by unfold hb; simp)
    · rcases hB v g2 with ⟨b, _⟩ | ⟨r, y, _, b, _⟩
      · exact absurd b (h v g1 (by omega))
      · exact b
/-- the bindings as a filling -/
def sgB (be : Nat → Option (List Nat)) (c : Nat) : List Nat := (be c).getD []
theorem extS_sgB {be : Nat → Option (List Nat)} {sg : Nat → List Nat} {p : List Nat} (h : extS be sg) (hc : col p) (hg : ∀ c ∈ p, c < 512 → be c ≠ none) : ∀ c ∈ p, c < 512 → sg c = sgB be c := fun c hcp h5 => by
  have hc5 : c < 5 := by rcases hc c hcp with g | g <;> omega
  unfold sgB
  cases hb9 : be c with
  | none => exact absurd hb9 (hg c hcp h5)
  | some r => exact h c hc5 r hb9
theorem BNC_of {u : Nat → Nat → Int32} {N : List (List Nat)} {be : Nat → Option (List Nat)} {p : List Nat} (hB : BDG u N be) (hc : col p) (hg : ∀ c ∈ p, c < 512 → be c ≠ none) : BNC N (u 5) 5 0 (sgB be) p := fun c hcp h5 => by
  have hc5 : c < 5 := by rcases hc c hcp with g | g <;> omega
  refine ⟨by omega, Or.inr ?_⟩
  rcases hB c hc5 with ⟨b, _⟩ | ⟨r, y, b1, b2, b3, b4, b5⟩
  · exact absurd b (hg c hcp h5)
  · exact ⟨y, b3, by rw [Nat.zero_add]; exact b5, by unfold sgB; rw [b1]; exact b4⟩
/-- how many bits -/
def pcF (s : Nat) : Nat → Nat → Nat
  | 0, _ => 0
  | m + 1, k => (if s.testBit k = true then 1 else 0) + pcF s m (k + 1)
theorem bc_ok : ∀ s : Fin 64, fx_J6_bitCount_0f7a4 0 (nI s.val) = some (nI (pcF s.val 6 0)) := by decide +kernel
theorem fx_bitCount_c {n s : Nat} (hs : s < 64) : fx_J6_bitCount_0f7a4 n (nI s) = some (nI (pcF s 6 0)) := bc_ok ⟨s, hs⟩
theorem sel_pc {s : Nat} : ∀ {qs : List (List Nat)} {k : Nat}, (sel s false k qs).length = pcF s qs.length k
  | [], _ => rfl
  | x :: qs, k => by
    show (if s.testBit k = false then sel s false (k + 1) qs else x :: sel s false (k + 1) qs).length = (if s.testBit k = true then 1 else 0) + pcF s qs.length (k + 1)
    cases z : s.testBit k with
    | false => rw [if_pos rfl, if_neg (by decide), sel_pc, Nat.zero_add]
    | true => rw [if_neg (by decide), if_pos rfl, List.length_cons, sel_pc, Nat.add_comm]
theorem pcF_add {s : Nat} : ∀ {a b k : Nat}, pcF s (a + b) k = pcF s a k + pcF s b (k + a)
  | 0, b, k => by rw [Nat.zero_add]; show _ = 0 + _; rw [Nat.zero_add]; rfl
  | a + 1, b, k => by
    rw [show a + 1 + b = (a + b) + 1 by omega]
    show _ + pcF s (a + b) (k + 1) = _ + pcF s a (k + 1) + _
    rw [pcF_add (a := a), show k + 1 + a = k + (a + 1) by omega, Nat.add_assoc]
theorem pcF_0 {s : Nat} : ∀ {b k : Nat}, (∀ j : Nat, k ≤ j → s.testBit j = false) → pcF s b k = 0
  | 0, _, _ => rfl
  | b + 1, k, h => by
    show (if s.testBit k = true then 1 else 0) + pcF s b (k + 1) = 0
    rw [h k (Nat.le_refl _), if_neg (by decide), pcF_0 (fun j hj => h j (by omega))]
theorem sl_pc {s : Nat} {qs : List (List Nat)} (h6 : qs.length ≤ 6) (h : ∀ k : Nat, qs.length ≤ k → s.testBit k = false) : (sl s qs).length = pcF s 6 0 := by
  show (sel s false 0 qs).length = _
  have e := pcF_add (s := s) (a := qs.length) (b := 6 - qs.length) (k := 0)
  rw [show qs.length + (6 - qs.length) = 6 by omega, pcF_0 (b := 6 - qs.length) (k := 0 + qs.length) (fun j hj => h j (by omega)), Nat.add_zero] at e
  rw [sel_pc, e]
/-- the least bit -/
def tz6 (s : Nat) : Nat := if s.testBit 0 then 0 else if s.testBit 1 then 1 else if s.testBit 2 then 2 else if s.testBit 3 then 3 else if s.testBit 4 then 4 else 5
theorem tz_ok : ∀ s : Fin 64, s.val ≠ 0 → fx_J6_numberOfTrailingZeros_0f7a4 0 (nI s.val) = some (nI (tz6 s.val)) ∧ s.val.testBit (tz6 s.val) = true ∧ tz6 s.val < 6 := by decide +kernel
theorem fx_tz_c {n s : Nat} (hs : s < 64) (h0 : s ≠ 0) : fx_J6_numberOfTrailingZeros_0f7a4 n (nI s) = some (nI (tz6 s)) ∧ s.testBit (tz6 s) = true ∧ tz6 s < 6 := tz_ok ⟨s, hs⟩ h0
theorem sl_one {s i : Nat} {qs : List (List Nat)} (h1 : (sl s qs).length = 1) (hi : i < qs.length) (hb9 : s.testBit i = true) : sl s qs = [nth qs i] := by
  obtain ⟨y, hy⟩ := List.length_eq_one_iff.mp h1
  have hm : nth qs i ∈ sl s qs := by
    have : ∀ (qs : List (List Nat)) (k i : Nat), i < qs.length → s.testBit (k + i) = true → nth qs i ∈ sel s false k qs := by
      intro qs
      induction qs with
      | nil => intro k i hi _; exact absurd hi (Nat.not_lt_zero _)
      | cons x qs ih =>
        intro k i hi hb9
        show nth (x :: qs) i ∈ (if s.testBit k = false then sel s false (k + 1) qs else x :: sel s false (k + 1) qs)
        cases i with
        | zero =>
          rw [Nat.add_zero] at hb9
          rw [hb9, if_neg (by decide)]
          exact List.mem_cons_self
        | succ i =>
          rw [List.length_cons] at hi
          have g := ih (k + 1) i (by omega) (by rw [show k + 1 + i = k + (i + 1) by omega]; exact hb9)
          have e : nth (x :: qs) (i + 1) = nth qs i := rfl
          rw [e]
          by_cases z : s.testBit k = false
          · rw [if_pos z]; exact g
          · rw [if_neg z]; exact List.mem_cons_of_mem _ g
    exact this qs 0 i hi (by rw [Nat.zero_add]; exact hb9)
  rw [hy] at hm ⊢
  rw [List.mem_singleton.mp hm]
