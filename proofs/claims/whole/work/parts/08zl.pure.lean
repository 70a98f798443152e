/-! ===== the matcher: what is left of a sum ===== -/
theorem stand_one {so : Nat → Nat} {un : Nat → Option Nat} {op : Nat} {y : List Nat} (hsu : SU so un) (ho : op < 10 ∧ so op ≠ 3) (h2 : so op = 2) (h : nok so un y) (hN : y.length < 512) : stand so un op [y] = y := by
  obtain ⟨a, b, c, d⟩ := nf_as hsu ho h2 h hN
  have e : stys so un op [y] = flat1 so un op y := by
    unfold stys
    rw [if_neg (by omega)]
    show srt (flat1 so un op y ++ []) = _
    rw [List.append_nil, b]
  rw [stand_stys, e, c]
theorem flats_perm {so : Nat → Nat} {un : Nat → Option Nat} {op : Nat} {A B : List (List Nat)} (h : A.Perm B) : (flats so un op A).Perm (flats so un op B) := by
  rw [flats_map, flats_map]
  exact (h.map _).flatten
theorem flats_app {so : Nat → Nat} {un : Nat → Option Nat} {op : Nat} {A B : List (List Nat)} : flats so un op (A ++ B) = flats so un op A ++ flats so un op B := by
  rw [flats_map, flats_map, flats_map, List.map_append, List.flatten_append]
theorem flats_ge {so : Nat → Nat} {un : Nat → Option Nat} {op : Nat} (hu : un op = none) : ∀ {ts : List (List Nat)}, okts so ts → ts.length ≤ (flats so un op ts).length
  | [], _ => Nat.le_refl _
  | t :: ts, h => by
    have ih := flats_ge hu (fun q hq => h q (List.mem_cons_of_mem _ hq))
    have := flat1_ne (op := op) (h t List.mem_cons_self) hu
    have hp : 0 < (flat1 so un op t).length := List.length_pos_iff.mpr this
    show ts.length + 1 ≤ (flat1 so un op t ++ flats so un op ts).length
    rw [List.length_append]
    omega
/-- parts of a pattern, filled -/
theorem fils_ok {so ma : Nat → Nat} {un : Nat → Option Nat} {nv : Nat} {sg : Nat → List Nat} {Q : List (List Nat)} (hsu : SU so un) (hq : ∀ q ∈ Q, tok so un ma nv q ∧ von so un sg q) (hl : Q.flatten.length ≤ 20) : noks so un (Q.map (fil so un sg)) ∧ (Q.map (fil so un sg)).flatten.length < 512 := by
  constructor
  · intro y hy
    obtain ⟨q, q1, q2⟩ := List.mem_map.mp hy
    rw [← q2]
    obtain ⟨a, b⟩ := hq q q1
    exact fil_nok hsu 21 q a.1.1 (by have := tok_len a; omega) (by have := tok_len a; omega) b
  · have := map_flat_len (g := fil so un sg) (K := 21) (ts := Q) (fun q q1 => by
      obtain ⟨a, b⟩ := hq q q1
      exact (filT_ok hsu 21 q a.1.1 (by have := tok_len a; omega) (by have := tok_len a; omega) (von_vok b)).2)
    omega
def OKR (so : Nat → Nat) (un : Nat → Option Nat) (p t : List Nat) (left rest : Nat) : Prop := (left = 0 → rest = 0) ∧ (left ≠ 0 → un (opn p) = none → (sl left (pts p)).length ≤ (sl rest (flat1 so un (opn p) t)).length)
theorem lt_pow {s k : Nat} (hs : s < 64) (h : ∀ j : Nat, k ≤ j → s.testBit j = false) : s < 2 ^ k := by
  apply Nat.lt_pow_two_of_testBit
  intro i hi
  exact h i hi
theorem sl_nil {s : Nat} {qs : List (List Nat)} (hs : s < 64) (h : ∀ j : Nat, qs.length ≤ j → s.testBit j = false) : sl s qs = [] ↔ s = 0 := by
  constructor
  · intro e
    exact sel_none e (lt_pow hs h)
  · intro e
    rw [e]
    have : ∀ (qs : List (List Nat)) (k : Nat), sel 0 false k qs = [] := by
      intro qs
      induction qs with
      | nil => intro k; rfl
      | cons x qs ih =>
        intro k
        show (if (0 : Nat).testBit k = false then sel 0 false (k + 1) qs else _) = []
        rw [Nat.zero_testBit, if_pos rfl, ih]
    exact this qs 0
theorem SS_flat {so ma : Nat → Nat} {un : Nat → Option Nat} {nv op bits : Nat} {t : List Nat} (hsv : SV so un ma nv) (ho : op < 10 ∧ so op ≠ 3) (h2 : so op = 2) (h : tok so un ma nv t) (hu : sl bits (flat1 so un op t) = [] → un op ≠ none) : flat1 so un op (SS so un op t bits) = sl bits (flat1 so un op t) := by
  have h20 := tok_len h
  have hsu := SV_SU hsv
  obtain ⟨a, b, c, d⟩ := nf_as hsu ho h2 h.1 (by omega)
  have hl := (flat1_len (so := so) (un := un) (op := op) h.1.1.1).1
  have hl2 : (sl bits (flat1 so un op t)).length ≤ (flat1 so un op t).length := sel_le
  exact flat1_mkt hsu ho h2 (fun q hq => a q (sel_mem hq)) (fun q hq => okts_wfs (noks_okts d) q (sel_mem hq)) (by omega) hu
theorem rem_sem {so ma : Nat → Nat} {un : Nat → Option Nat} {nv left rest : Nat} {sg : Nat → List Nat} {p t : List Nat} (hsv : SV so un ma nv) (hs2 : ∀ o : Nat, so o ≠ 3 → so o ≤ 2) (hp : tok so un ma nv p) (hk : kd so p = 2) (ho : opn p < 10 ∧ so (opn p) ≠ 3) (ht : tok so un ma nv t) (hl : left < 64) (hlb : ∀ j : Nat, (pts p).length ≤ j → left.testBit j = false) (hr : rest < 64) (hrb : ∀ j : Nat, (flat1 so un (opn p) t).length ≤ j → rest.testBit j = false) :
    ((∀ q ∈ sl left (pts p), von so un sg q) ∧ (flats so un (opn p) ((sl left (pts p)).map (fil so un sg))).Perm (sl rest (flat1 so un (opn p) t))) ↔ OKR so un p t left rest ∧ ∀ g ∈ remC so un p left t rest, gsat so un sg g := by
  have hsu := SV_SU hsv
  obtain ⟨s1, s2, s3, s4⟩ := sum_ar hp hk
  have h20 := tok_len ht
  have hp20 := tok_len hp
  have rl := congrArg List.length (row_pts hp.1.1.1)
  rw [List.length_cons] at rl
  have lnil := sl_nil hl hlb
  have rnil := sl_nil hr hrb
  have hsub : ∀ q ∈ sl left (pts p), q ∈ pts p := fun q hq => sel_mem hq
  have hll : (sl left (pts p)).flatten.length ≤ (pts p).flatten.length := sel_len
  by_cases z : left = 0
  · have e := lnil.mpr z
    have er : remC so un p left t rest = [] := by unfold remC; rw [e]
    rw [er, e]
    constructor
    · rintro ⟨_, h⟩
      have hn : sl rest (flat1 so un (opn p) t) = [] := h.symm.eq_nil
      exact ⟨⟨fun _ => rnil.mp hn, fun q => absurd z q⟩, fun g hg => absurd hg List.not_mem_nil⟩
    · rintro ⟨h, _⟩
      rw [rnil.mpr (h.1 z)]
      exact ⟨fun q hq => absurd hq List.not_mem_nil, List.Perm.refl _⟩
  · have hne : sl left (pts p) ≠ [] := fun e => z (lnil.mp e)
    have core : (∀ q ∈ sl left (pts p), von so un sg q) → (OKR so un p t left rest → ((flats so un (opn p) ((sl left (pts p)).map (fil so un sg))).Perm (sl rest (flat1 so un (opn p) t)) ↔ stand so un (opn p) ((sl left (pts p)).map (fil so un sg)) = SS so un (opn p) t rest)) ∧ ((flats so un (opn p) ((sl left (pts p)).map (fil so un sg))).Perm (sl rest (flat1 so un (opn p) t)) → OKR so un p t left rest) := fun hv => by
      obtain ⟨n1, n2⟩ := fils_ok (sg := sg) hsu (Q := sl left (pts p)) (fun q hq => ⟨tok_pts hp q (hsub q hq), hv q hq⟩) (Nat.le_trans hll (by omega))
      constructor
      · intro hok
        have hu : sl rest (flat1 so un (opn p) t) = [] → un (opn p) ≠ none := fun e hn => by
          have := hok.2 z hn
          rw [e] at this
          exact hne (List.length_eq_zero_iff.mp (by simpa using this))
        have tkS := SS_tok (bits := rest) hsv hs2 ho s2 ht hu
        have se := stand_eq hsu ho s2 n1 (by rw [Ne, List.map_eq_nil_iff]; exact hne) n2 tkS.1 (by have := tok_len tkS; omega)
        rw [SS_flat hsv ho s2 ht hu] at se
        exact se.symm
      · intro hpm
        refine ⟨fun q => absurd q z, fun _ hn => ?_⟩
        have g := flats_ge hn (noks_okts n1)
        rw [hpm.length_eq, List.length_map] at g
        exact g
    have rem : (∀ g ∈ remC so un p left t rest, gsat so un sg g) ↔ (∀ q ∈ sl left (pts p), von so un sg q) ∧ stand so un (opn p) ((sl left (pts p)).map (fil so un sg)) = SS so un (opn p) t rest := by
      unfold remC
      match hq : sl left (pts p) with
      | [] => exact absurd hq hne
      | [q] =>
        have hqm : q ∈ pts p := hsub q (by rw [hq]; simp)
        have tq := tok_pts hp q hqm
        have h6 : (pts q).length ≤ 6 := by rw [pts_len tq.1.1.1]; exact (tok_ar hsv hs2 tq _ (hd0_mem tq.1.1.1)).1
        show (∀ g ∈ [(q, 63, SS so un (opn p) t rest)], gsat so un sg g) ↔ (∀ z ∈ [q], von so un sg z) ∧ stand so un (opn p) [fil so un sg q] = SS so un (opn p) t rest
        rw [List.forall_mem_singleton, List.forall_mem_singleton, gsat_whole h6 tq]
        constructor
        · rintro ⟨a, b⟩
          have nq : nok so un (fil so un sg q) := fil_nok (un := un) (sg := sg) hsu 21 q tq.1.1 (by have := tok_len tq; omega) (by have := tok_len tq; omega) a
          have lq : (fil so un sg q).length ≤ 21 * q.length := (filT_ok (un := un) (sg := sg) hsu 21 q tq.1.1 (by have := tok_len tq; omega) (by have := tok_len tq; omega) (von_vok a)).2
          have tl := tok_len tq
          refine ⟨a, ?_⟩
          rw [stand_one hsu ho s2 nq (Nat.lt_of_le_of_lt lq (by omega))]
          exact b
        · rintro ⟨a, b⟩
          have nq : nok so un (fil so un sg q) := fil_nok (un := un) (sg := sg) hsu 21 q tq.1.1 (by have := tok_len tq; omega) (by have := tok_len tq; omega) a
          have lq : (fil so un sg q).length ≤ 21 * q.length := (filT_ok (un := un) (sg := sg) hsu 21 q tq.1.1 (by have := tok_len tq; omega) (by have := tok_len tq; omega) (von_vok a)).2
          have tl := tok_len tq
          refine ⟨a, ?_⟩
          rw [stand_one hsu ho s2 nq (Nat.lt_of_le_of_lt lq (by omega))] at b
          exact b
      | q1 :: q2 :: qs =>
        show (∀ g ∈ [(p, left, SS so un (opn p) t rest)], gsat so un sg g) ↔ _
        rw [List.forall_mem_singleton]
        unfold gsat
        rw [if_pos hk]
        show (∀ q ∈ sl left (pts p), von so un sg q) ∧ stand so un (opn p) ((sl left (pts p)).map (fil so un sg)) = _ ↔ _
        rw [hq]
    rw [rem]
    constructor
    · rintro ⟨a, b⟩
      have hok := (core a).2 b
      exact ⟨hok, a, ((core a).1 hok).mp b⟩
    · rintro ⟨hok, a, b⟩
      exact ⟨a, ((core a).1 hok).mpr b⟩
theorem remC_len {so : Nat → Nat} {un : Nat → Option Nat} {p t : List Nat} {left rest : Nat} : (remC so un p left t rest).length ≤ 1 := by
  unfold remC
  match sl left (pts p) with
  | [] => exact Nat.zero_le _
  | [q] => exact Nat.le_refl _
  | q1 :: q2 :: qs => exact Nat.le_refl _
theorem fx_remainder_c {n i a b left rest no nv hd G : Nat} {ga u vt : Nat → Nat → Int32} {w : Nat → Nat → Int64} {las : Nat → Bool} {N : List (List Nat)} {so ma : Nat → Nat} {un : Nat → Option Nat} {nmL : Nat → List Nat} {p t : List Nat} {C0 : List GoalC} (hn : 100000 ≤ n) (he : ENV ga las so ma un no nv nmL) (hT : TBK vt w las so ma un nv N) (hst : vt 0 1 = nI hd) (hN : N.length < 1024) (hi : i < 256) (hG2 : G < 256) (hG : u 0 2 = nI G) (ha : a < N.length) (ha2 : nth N a = p) (ea : u 1 i = nI a) (hb9 : b < N.length) (hb2 : nth N b = t) (eb : u 3 i = nI b) (hC0 : CHN u N C0 G (u 4 i)) (hk : kd so p = 2) (hl : left < 64) (hlb : ∀ j : Nat, (pts p).length ≤ j → left.testBit j = false) (hr : rest < 64) (hrb : ∀ j : Nat, (flat1 so un (opn p) t).length ≤ j → rest.testBit j = false) :
    (OKR so un p t left rest ∧ ∃ (x' : Int32) (u' vt' : Nat → Nat → Int32) (w' : Nat → Nat → Int64) (E : List (List Nat)) (G' : Nat), fx_X0_remainder n u vt w ga (nI i) (nI left) (nI rest) = some (x', u', vt', w') ∧ TBK vt' w' las so ma un nv (N ++ E) ∧ vt' 0 1 = nI hd ∧ (∀ e ∈ E, left ≠ 0 ∧ e = SS so un (opn p) t rest) ∧ CHN u' (N ++ E) (remC so un p left t rest ++ C0) G' x' ∧ u' 0 2 = nI G' ∧ G' = G + (remC so un p left t rest).length ∧ FGo u u' G ∧ (left = 0 → x' = u 4 i) ∧ (left ≠ 0 → x' = nI G)) ∨
    (¬ OKR so un p t left rest ∧ fx_X0_remainder n u vt w ga (nI i) (nI left) (nI rest) = some (-2, u, vt, w)) := by
  have hsv := he.2.1
  have hs2 := fun (o : Nat) (h : so o ≠ 3) => (ENV_op he h).2.2
  have h1 := hT.1.1
  have tp := hT.2 _ (nth_mem ha)
  have tt := hT.2 _ (nth_mem hb9)
  rw [ha2] at tp
  rw [hb2] at tt
  obtain ⟨s1, s2, s3, s4⟩ := sum_ar tp hk
  obtain ⟨o1, o2, o3⟩ := ENV_op he (op := opn p) (by omega)
  have nda := (TB_get hT.1 ha).1
  have hcp := nda.2.1 _ (hd0_mem nda.1)
  rw [ha2] at hcp
  have co := fx_codeOf_c (n := n) hT.1 ha
  rw [ha2] at co
  have h6 : (pts p).length ≤ 6 := by rw [pts_len tp.1.1.1]; exact (tok_ar hsv hs2 tp _ (hd0_mem tp.1.1.1)).1
  have h6H := flat1_6 (op := opn p) hsv hs2 s2 tt
  have lnil := sl_nil hl hlb
  have pcl := sl_pc h6 hlb
  have pcr := sl_pc h6H hrb
  have opE : opI (hd0 p) = nI (opn p) := opI_op s1
  unfold fx_X0_remainder
  rw [if_neg (by rw [show (0 : Int32) = nI 0 from rfl, nI_lt_iff (by omega) (by decide)]; omega), if_pos (by rw [show (256 : Int32) = nI 256 from rfl, nI_lt_iff (by omega) (by decide)]; exact hi), xr_n hi (by decide), ea, co, xb1_s, fx_operatorIn_c hcp, xb1_s, opE]
  by_cases z : left = 0
  · rw [if_pos (by rw [z]; rfl)]
    have e := lnil.mpr z
    have er : remC so un p left t rest = [] := by unfold remC; rw [e]
    by_cases y : rest = 0
    · rw [if_pos (by rw [y]; rfl), xr_n hi (by decide)]
      refine Or.inl ⟨⟨fun _ => y, fun q => absurd z q⟩, u 4 i, u, vt, w, [], G, rfl, by rw [List.append_nil]; exact hT, hst, fun e h => absurd h List.not_mem_nil, by rw [er, List.append_nil]; exact hC0, hG, by rw [er]; rfl, FGo.refl, fun _ => rfl, fun q => absurd z q⟩
    · rw [if_neg (by rw [show (0 : Int32) = nI 0 from rfl, nI_inj (by omega) (by decide)]; exact y)]
      exact Or.inr ⟨fun q => y (q.1 z), rfl⟩
  · rw [if_neg (by rw [show (0 : Int32) = nI 0 from rfl, nI_inj (by omega) (by decide)]; exact z), fx_hasUnit_c he.1 hsv o1, xb1_s]
    have hne : sl left (pts p) ≠ [] := fun e => z (lnil.mp e)
    have go : OKR so un p t left rest → ∃ (x' : Int32) (u' vt' : Nat → Nat → Int32) (w' : Nat → Nat → Int64) (E : List (List Nat)) (G' : Nat), jx_X0_remainder_82 n ga (nI i) (nI left) (nI rest) (nI a) (nI (opn p)) u vt w = some (x', u', vt', w') ∧ TBK vt' w' las so ma un nv (N ++ E) ∧ vt' 0 1 = nI hd ∧ (∀ e ∈ E, left ≠ 0 ∧ e = SS so un (opn p) t rest) ∧ CHN u' (N ++ E) (remC so un p left t rest ++ C0) G' x' ∧ u' 0 2 = nI G' ∧ G' = G + (remC so un p left t rest).length ∧ FGo u u' G ∧ (left = 0 → x' = u 4 i) ∧ (left ≠ 0 → x' = nI G) := fun hok => by
      have hu : sl rest (flat1 so un (opn p) t) = [] → un (opn p) ≠ none := fun e hn9 => by
        have := hok.2 z hn9
        rw [e] at this
        exact hne (List.length_eq_zero_iff.mp (by simpa using this))
      obtain ⟨y, v1, w1, E, y1, y2, y3, y4, y5, y6, y7⟩ := fx_subSum_c (n := n) (op := opn p) (bits := rest) hn he hT hb9 s2 hN hr (by rw [hb2]; exact hrb) (by rw [hb2]; exact hu)
      rw [hb2] at y3 y5
      have hEm : ∀ e ∈ E, left ≠ 0 ∧ e = SS so un (opn p) t rest := fun e h => by
        rcases y3 with g | g
        · rw [g] at h; exact absurd h List.not_mem_nil
        · rw [g] at h; exact ⟨z, List.mem_singleton.mp h⟩
      unfold jx_X0_remainder_82
      rw [xr_n hi (by decide), eb, y1, xb3_s, fx_bitCount_c hl, xb1_s, ← pcl]
      by_cases l1 : (sl left (pts p)).length ≤ 1
      · have l1' : (sl left (pts p)).length = 1 := by
          have : (sl left (pts p)).length ≠ 0 := fun e => hne (List.length_eq_zero_iff.mp e)
          omega
        obtain ⟨t1, t2, t3⟩ := fx_tz_c (n := n) hl z
        have tzl : tz6 left < (pts p).length := by
          apply Classical.byContradiction
          intro g
          rw [hlb _ (by omega)] at t2; exact nomatch t2
        have one := sl_one l1' tzl t2
        have er : remC so un p left t rest = [(nth (pts p) (tz6 left), 63, SS so un (opn p) t rest)] := by unfold remC; rw [one]
        obtain ⟨q, q1, q2, q3⟩ := fx_partOf_c (n := n) y2.1 (nth_pre (B := E) ha).1 (j := tz6 left) (by rw [(nth_pre ha).2, ha2, ← pts_len tp.1.1.1]; exact tzl)
        rw [(nth_pre ha).2, ha2] at q2
        obtain ⟨u1, g1, g2, g3, g4⟩ := fx_addGoal_c (n := n) (L := 63) hG hG2 y2.1.1 (show q < (N ++ E).length by have := (nth_pre (B := E) ha).1; omega) q2 y4 y5 (by decide) (CHN_ext hC0)
        rw [if_pos (by rw [show (1 : Int32) = nI 1 from rfl, nI_le_iff (by omega) (by decide)]; omega), t1, xb1_s, q3, xb1_s, xr_n hi (by decide)]
        have g1' : fx_X0_addGoal n u (nI q) 63 (nI y) (u 4 i) = some (nI G, u1) := g1
        rw [g1', xb2_s]
        exact ⟨nI G, u1, v1, w1, E, G + 1, rfl, y2, by rw [y7 1 (by decide)]; exact hst, hEm, by rw [er]; exact g3, g2, by rw [er]; rfl, g4, fun q => absurd q z, fun _ => rfl⟩
      · have er : remC so un p left t rest = [(p, left, SS so un (opn p) t rest)] := by
          unfold remC
          match hq : sl left (pts p) with
          | [] => exact absurd hq hne
          | [q] => rw [hq] at l1; exact absurd (Nat.le_refl _) l1
          | q1 :: q2 :: qs => rfl
        obtain ⟨u1, g1, g2, g3, g4⟩ := fx_addGoal_c (n := n) (L := left) hG hG2 y2.1.1 (nth_pre (B := E) ha).1 (((nth_pre (B := E) ha).2).trans ha2) y4 y5 hl (CHN_ext hC0)
        have h6l : (sl left (pts p)).length ≤ 6 := Nat.le_trans sel_le h6
        rw [if_neg (by rw [show (1 : Int32) = nI 1 from rfl, nI_le_iff (by omega) (by decide)]; omega), xr_n hi (by decide), g1, xb2_s]
        exact ⟨nI G, u1, v1, w1, E, G + 1, rfl, y2, by rw [y7 1 (by decide)]; exact hst, hEm, by rw [er]; exact g3, g2, by rw [er]; rfl, g4, fun q => absurd q z, fun _ => rfl⟩
    by_cases hu : un (opn p) = none
    · rw [if_pos hu, if_pos rfl, fx_bitCount_c hr, xb1_s, fx_bitCount_c hl, xb1_s, ← pcl, ← pcr]
      have h6l : (sl left (pts p)).length ≤ 6 := Nat.le_trans sel_le h6
      have h6r : (sl rest (flat1 so un (opn p) t)).length ≤ 6 := Nat.le_trans sel_le h6H
      by_cases y : (sl left (pts p)).length ≤ (sl rest (flat1 so un (opn p) t)).length
      · rw [if_pos (by rw [nI_le_iff (by omega) (by omega)]; exact y)]
        have hok : OKR so un p t left rest := ⟨fun q => absurd q z, fun _ _ => y⟩
        exact Or.inl ⟨hok, go hok⟩
      · rw [if_neg (by rw [nI_le_iff (by omega) (by omega)]; exact y)]
        exact Or.inr ⟨fun q => y (q.2 z hu), rfl⟩
    · rw [if_neg hu, if_neg (by decide)]
      have hok : OKR so un p t left rest := ⟨fun q => absurd q z, fun _ q => absurd q hu⟩
      exact Or.inl ⟨hok, go hok⟩
