/-! ===== the matcher: parts of a free operator ===== -/
def zg : List (List Nat) → List (List Nat) → List GoalC
  | p :: ps, t :: ts => (p, 63, t) :: zg ps ts
  | _, _ => []
theorem zg_len : ∀ {ps ts : List (List Nat)}, ps.length = ts.length → (zg ps ts).length = ps.length
  | [], [], _ => rfl
  | p :: ps, t :: ts, h => by
    show (zg ps ts).length + 1 = ps.length + 1
    rw [zg_len (by simpa using h)]
  | [], _ :: _, h => nomatch h
  | _ :: _, [], h => nomatch h
theorem zg_snoc : ∀ {ps ts : List (List Nat)} {p t : List Nat}, ps.length = ts.length → zg (ps ++ [p]) (ts ++ [t]) = zg ps ts ++ [(p, 63, t)]
  | [], [], _, _, _ => rfl
  | x :: ps, y :: ts, p, t, h => by
    show (x, 63, y) :: zg (ps ++ [p]) (ts ++ [t]) = (x, 63, y) :: zg ps ts ++ _
    rw [zg_snoc (by simpa using h)]; rfl
  | [], _ :: _, _, _, h => nomatch h
  | _ :: _, [], _, _, h => nomatch h
def plG (so : Nat → Nat) (g : GoalC) : Bool := decide (kd so g.1 = 0)
/-- whether a goal is laid in a pass -/
def inP (so : Nat → Nat) (z : Nat) (g : GoalC) : Bool := if z = 1 then plG so g else !plG so g
theorem lx_mp64_c {n a b no nv z G0 : Nat} {ga vt : Nat → Nat → Int32} {w : Nat → Nat → Int64} {las : Nat → Bool} {N : List (List Nat)} {so ma : Nat → Nat} {un : Nat → Option Nat} {nmL : Nat → List Nat} {P0 x5 : Int32} {k52 : Int32 → Int32 → Int32 → Int32 → Int32 → (Nat → Nat → Int32) → Option (Int32 × (Nat → Nat → Int32))} (he : ENV ga las so ma un no nv nmL) (hT : TBK vt w las so ma un nv N) (ha : a < N.length) (hb9 : b < N.length) (hh : hd0 (nth N a) = hd0 (nth N b)) (hz : z < 2) :
    ∀ (j m G : Nat) (C : List GoalC) (x : Int32) (u : Nat → Nat → Int32), j ≤ ar (hd0 (nth N a)) → j < m → G0 ≤ G → G + j ≤ 256 → u 0 2 = nI G → CHN u N C G x →
      ∃ (G' : Nat) (x' : Int32) (u' : Nat → Nat → Int32), lx_X0_meetParts_64 n vt ga P0 k52 m (nI a) (nI b) x x5 (nI z) (nI j - 1) u = k52 (nI a) (nI b) x' x5 (nI (z + 1)) u' ∧ G ≤ G' ∧ G' = G + ((zg ((pts (nth N a)).take j) ((pts (nth N b)).take j)).filter (inP so z)).length ∧ u' 0 2 = nI G' ∧ CHN u' N ((zg ((pts (nth N a)).take j) ((pts (nth N b)).take j)).filter (inP so z) ++ C) G' x' ∧ FGo u u' G0
  | 0, m + 1, G, C, x, u, _, _, hG0, _, hG, hC => by
    refine ⟨G, x, u, ?_, Nat.le_refl _, by rw [List.take_zero, List.take_zero]; rfl, hG, by rw [List.take_zero, List.take_zero]; exact hC, FGo.refl⟩
    show bx_X0_meetParts_64 n vt ga P0 k52 (lx_X0_meetParts_64 n vt ga P0 k52 m) (nI a) (nI b) x x5 (nI z) (nI 0 - 1) u = _
    unfold bx_X0_meetParts_64
    rw [if_pos (by decide), xl_eq, nI_1]
  | j + 1, m + 1, G, C, x, u, hj, hm, hG0, hG2, hG, hC => by
    have h1 := hT.1.1
    have wa := (TB_get hT.1 ha).1.1
    have wb := (TB_get hT.1 hb9).1.1
    have pa := pts_len wa
    have pb := pts_len wb
    have par : ar (hd0 (nth N a)) = ar (hd0 (nth N b)) := by rw [hh]
    obtain ⟨p, p1, p2, p3⟩ := fx_partOf_c (n := n) hT.1 ha (j := j) (by omega)
    obtain ⟨q, q1, q2, q3⟩ := fx_partOf_c (n := n) hT.1 hb9 (j := j) (by rw [← hh]; omega)
    have kp := fx_kindAt_c (n := n) he hT (show p < N.length by omega)
    rw [p2] at kp
    have e1 := take_nth (ts := pts (nth N a)) (j := j) (by omega)
    have e2 := take_nth (ts := pts (nth N b)) (j := j) (by omega)
    have ez : zg ((pts (nth N a)).take (j + 1)) ((pts (nth N b)).take (j + 1)) = zg ((pts (nth N a)).take j) ((pts (nth N b)).take j) ++ [(nth (pts (nth N a)) j, 63, nth (pts (nth N b)) j)] := by
      rw [e1, e2]
      exact zg_snoc (by rw [List.length_take, List.length_take]; omega)
    have hsh : lx_X0_meetParts_64 n vt ga P0 k52 (m + 1) (nI a) (nI b) x x5 (nI z) (nI (j + 1) - 1) u = bx_X0_meetParts_64 n vt ga P0 k52 (lx_X0_meetParts_64 n vt ga P0 k52 m) (nI a) (nI b) x x5 (nI z) (nI (j + 1) - 1) u := rfl
    have hk2 : kd so (nth (pts (nth N a)) j) < 10 := by
      unfold kd
      have tp : tok so un ma nv (nth (pts (nth N a)) j) := by rw [← p2]; exact hT.2 _ (nth_mem (by omega))
      split
      · omega
      · rename_i h5
        have := (ENV_op he (tp.1.1.2.2 _ (hd0_mem tp.1.1.1) (by omega)).1).2.2
        omega
    -- a goal, or none
    have add : inP so z (nth (pts (nth N a)) j, 63, nth (pts (nth N b)) j) = true → ∃ (G' : Nat) (x' : Int32) (u' : Nat → Nat → Int32), jx_X0_meetParts_113 n vt ga P0 k52 (lx_X0_meetParts_64 n vt ga P0 k52 m) (nI a) (nI b) x x5 (nI z) (nI j) (nI p) 1 1 1 u = k52 (nI a) (nI b) x' x5 (nI (z + 1)) u' ∧ G ≤ G' ∧ G' = G + ((zg ((pts (nth N a)).take (j + 1)) ((pts (nth N b)).take (j + 1))).filter (inP so z)).length ∧ u' 0 2 = nI G' ∧ CHN u' N ((zg ((pts (nth N a)).take (j + 1)) ((pts (nth N b)).take (j + 1))).filter (inP so z) ++ C) G' x' ∧ FGo u u' G0 := fun hin => by
      obtain ⟨u1, y1, y2, y3, y4⟩ := fx_addGoal_c (n := n) hG (by omega) h1 (show p < N.length by omega) p2 (show q < N.length by omega) q2 (L := 63) (by decide) hC
      obtain ⟨G', x', u', g1, g2, g3, g4, g5, g6⟩ := lx_mp64_c (n := n) (P0 := P0) (G0 := G0) (x5 := x5) (k52 := k52) he hT ha hb9 hh hz j m (G + 1) ((nth (pts (nth N a)) j, 63, nth (pts (nth N b)) j) :: C) (nI G) u1 (by omega) (by omega) (by omega) (by omega) y2 y3
      have fe : (zg ((pts (nth N a)).take (j + 1)) ((pts (nth N b)).take (j + 1))).filter (inP so z) = (zg ((pts (nth N a)).take j) ((pts (nth N b)).take j)).filter (inP so z) ++ [(nth (pts (nth N a)) j, 63, nth (pts (nth N b)) j)] := by
        rw [ez, List.filter_append]
        congr 1
        exact List.filter_cons_of_pos hin
      refine ⟨G', x', u', ?_, by omega, by rw [fe, List.length_append, List.length_singleton]; omega, g4, by rw [fe, List.append_assoc]; exact g5, ⟨fun s s1 s4 i hi => by rw [g6.1 s s1 s4 i hi, y4.1 s s1 s4 i (by omega)], fun s hs => by rw [g6.2.1 s hs, y4.2.1 s hs], fun s hs => by rw [g6.2.2 s hs, y4.2.2 s hs]⟩⟩
      unfold jx_X0_meetParts_113
      rw [if_pos rfl, q3, xb1_s]
      have y1' : fx_X0_addGoal n u (nI p) 63 (nI q) x = some (nI G, u1) := y1
      rw [y1', xb2_s, xl_eq, ← g1, Int32.sub_eq_add_neg]
    have none9 : inP so z (nth (pts (nth N a)) j, 63, nth (pts (nth N b)) j) = false → ∃ (G' : Nat) (x' : Int32) (u' : Nat → Nat → Int32), lx_X0_meetParts_64 n vt ga P0 k52 m (nI a) (nI b) x x5 (nI z) (nI j + (-1)) u = k52 (nI a) (nI b) x' x5 (nI (z + 1)) u' ∧ G ≤ G' ∧ G' = G + ((zg ((pts (nth N a)).take (j + 1)) ((pts (nth N b)).take (j + 1))).filter (inP so z)).length ∧ u' 0 2 = nI G' ∧ CHN u' N ((zg ((pts (nth N a)).take (j + 1)) ((pts (nth N b)).take (j + 1))).filter (inP so z) ++ C) G' x' ∧ FGo u u' G0 := fun hin => by
      obtain ⟨G', x', u', g1, g2, g3, g4, g5, g6⟩ := lx_mp64_c (n := n) (P0 := P0) (G0 := G0) (x5 := x5) (k52 := k52) he hT ha hb9 hh hz j m G C x u (by omega) (by omega) hG0 (by omega) hG hC
      have fe : (zg ((pts (nth N a)).take (j + 1)) ((pts (nth N b)).take (j + 1))).filter (inP so z) = (zg ((pts (nth N a)).take j) ((pts (nth N b)).take j)).filter (inP so z) := by
        rw [ez, List.filter_append, List.filter_cons_of_neg (by rw [hin]; decide), List.filter_nil, List.append_nil]
      rw [← Int32.sub_eq_add_neg]
      exact ⟨G', x', u', g1, g2, by rw [fe]; exact g3, g4, by rw [fe]; exact g5, g6⟩
    rw [hsh]
    unfold bx_X0_meetParts_64
    rw [i1, nI_sub (by omega), show j + 1 - 1 = j by omega, if_neg (by rw [show (0 : Int32) = nI 0 from rfl, nI_lt_iff (by omega) (by decide)]; omega), p3, xb1_s, kp, xb1_s]
    have e1 : nI 1 = (1 : Int32) := rfl
    have hz2 : z = 0 ∨ z = 1 := by omega
    by_cases k0 : kd so (nth (pts (nth N a)) j) = 0
    · rw [if_pos (by rw [k0]; rfl)]
      rcases hz2 with rfl | rfl
      · rw [if_neg (by decide)]
        have := none9 (by unfold inP plG; rw [if_neg (by decide), decide_eq_true k0]; rfl)
        unfold jx_X0_meetParts_113
        rw [if_neg (by decide), xl_eq]
        exact this
      · rw [if_pos rfl]
        exact add (by unfold inP plG; rw [if_pos rfl, decide_eq_true k0])
    · rw [if_neg (by rw [show (0 : Int32) = nI 0 from rfl, nI_inj (by omega) (by decide)]; exact k0)]
      rcases hz2 with rfl | rfl
      · rw [if_neg (by decide)]
        have := add (by unfold inP plG; rw [if_neg (by decide), decide_eq_false k0]; rfl)
        unfold jx_X0_meetParts_113 at this ⊢
        rw [if_pos rfl] at this
        rw [if_pos rfl]
        exact this
      · rw [if_pos rfl]
        have := none9 (by unfold inP plG; rw [if_pos rfl, decide_eq_false k0])
        unfold jx_X0_meetParts_113
        rw [if_neg (by decide), xl_eq]
        exact this
theorem fx_meetParts_c {n a b i no nv G : Nat} {ga vt u : Nat → Nat → Int32} {w : Nat → Nat → Int64} {las : Nat → Bool} {N : List (List Nat)} {so ma : Nat → Nat} {un : Nat → Option Nat} {nmL : Nat → List Nat} {C : List GoalC} (hn : 100000 ≤ n) (he : ENV ga las so ma un no nv nmL) (hT : TBK vt w las so ma un nv N) (ha : a < N.length) (hb9 : b < N.length) (hh : hd0 (nth N a) = hd0 (nth N b)) (hi : i < 256) (ea : u 1 i = nI a) (eb : u 3 i = nI b) (hG : u 0 2 = nI G) (hG2 : G ≤ 200) (hC : CHN u N C G (u 4 i)) :
    ∃ (G' : Nat) (x' : Int32) (u' : Nat → Nat → Int32) (D : List GoalC), fx_X0_meetParts n u vt ga (nI i) = some (x', u') ∧ D.Perm (zg (pts (nth N a)) (pts (nth N b))) ∧ G' = G + D.length ∧ u' 0 2 = nI G' ∧ CHN u' N (D ++ C) G' x' ∧ FGo u u' G := by
  have tk := hT.2 _ (nth_mem ha)
  have wa := (TB_get hT.1 ha).1.1
  have wb := (TB_get hT.1 hb9).1.1
  have pa := pts_len wa
  have pb := pts_len wb
  have hc := (TB_get hT.1 ha).1.2.1 _ (hd0_mem wa)
  have h6 := (TB_get hT.1 ha).1.2.2.2.2
  have two := fun (z : Nat) (hz : z < 2) (k52 : Int32 → Int32 → Int32 → Int32 → Int32 → (Nat → Nat → Int32) → Option (Int32 × (Nat → Nat → Int32))) => lx_mp64_c (n := n) (a := a) (b := b) (z := z) (G0 := G) (P0 := nI i) (x5 := nI (ar (hd0 (nth N a)))) (k52 := k52) he hT ha hb9 hh hz
  obtain ⟨n', hn'⟩ : ∃ n' : Nat, n = n' + 3 := ⟨n - 3, by omega⟩
  have tl1 : (pts (nth N a)).take (ar (hd0 (nth N a))) = pts (nth N a) := by rw [← pa, List.take_length]
  have tl2 : (pts (nth N b)).take (ar (hd0 (nth N a))) = pts (nth N b) := by rw [hh, ← pb, List.take_length]
  have zl := zg_len (ps := pts (nth N a)) (ts := pts (nth N b)) (by rw [pa, pb, hh])
  obtain ⟨G1, x1, u1, g1, g2, g3, g4, g5, g6⟩ := two 0 (by decide) (lx_X0_meetParts_52 n vt ga (nI i) (n' + 2)) (ar (hd0 (nth N a))) n G C (u 4 i) u (Nat.le_refl _) (by omega) (Nat.le_refl _) (by omega) hG hC
  rw [tl1, tl2] at g3 g5
  have fl0 := List.length_filter_le (inP so 0) (zg (pts (nth N a)) (pts (nth N b)))
  obtain ⟨G2', x2, u2, y1, y2, y3, y4, y5, y6⟩ := two 1 (by decide) (lx_X0_meetParts_52 n vt ga (nI i) (n' + 1)) (ar (hd0 (nth N a))) n G1 _ x1 u1 (Nat.le_refl _) (by omega) (by omega) (by omega) g4 g5
  rw [tl1, tl2] at y3 y5
  have pm : ((zg (pts (nth N a)) (pts (nth N b))).filter (inP so 1) ++ (zg (pts (nth N a)) (pts (nth N b))).filter (inP so 0)).Perm (zg (pts (nth N a)) (pts (nth N b))) := by
    have e1 : inP so 1 = plG so := funext fun g => by unfold inP; rw [if_pos rfl]
    have e0 : inP so 0 = fun g => !plG so g := funext fun g => by unfold inP; rw [if_neg (by decide)]
    rw [e1, e0]
    exact List.filter_append_perm (plG so) _
  refine ⟨G2', x2, u2, (zg (pts (nth N a)) (pts (nth N b))).filter (inP so 1) ++ (zg (pts (nth N a)) (pts (nth N b))).filter (inP so 0), ?_, pm, by rw [List.length_append]; omega, y4, by rw [List.append_assoc]; exact y5, FGo.trans g6 y6 (Nat.le_refl _)⟩
  unfold fx_X0_meetParts
  rw [if_neg (by rw [show (0 : Int32) = nI 0 from rfl, nI_lt_iff (by omega) (by decide)]; omega), if_pos (by rw [show (256 : Int32) = nI 256 from rfl, nI_lt_iff (by omega) (by decide)]; exact hi), xr_n hi (by decide), xr_n hi (by decide), xr_n hi (by decide), ea, eb, fx_codeOf_c hT.1 ha, xb1_s, fx_partsIn_c hc, xb1_s]
  have s0 : lx_X0_meetParts_52 n vt ga (nI i) n (nI a) (nI b) (u 4 i) (nI (ar (hd0 (nth N a)))) 0 u = lx_X0_meetParts_64 n vt ga (nI i) (lx_X0_meetParts_52 n vt ga (nI i) (n' + 2)) n (nI a) (nI b) (u 4 i) (nI (ar (hd0 (nth N a)))) (nI 0) (nI (ar (hd0 (nth N a))) - 1) u := by
    have : ∀ q : Nat, lx_X0_meetParts_52 n vt ga (nI i) (q + 1) (nI a) (nI b) (u 4 i) (nI (ar (hd0 (nth N a)))) 0 u = lx_X0_meetParts_64 n vt ga (nI i) (lx_X0_meetParts_52 n vt ga (nI i) q) n (nI a) (nI b) (u 4 i) (nI (ar (hd0 (nth N a)))) (nI 0) (nI (ar (hd0 (nth N a))) - 1) u := fun q => by
      show bx_X0_meetParts_52 n vt ga (nI i) _ _ _ _ _ _ _ = _
      unfold bx_X0_meetParts_52
      rw [if_neg (by decide), xl_eq]; rfl
    have h9 := this (n' + 2)
    rw [show n' + 2 + 1 = n by omega] at h9
    exact h9
  rw [s0, g1]
  show bx_X0_meetParts_52 n vt ga (nI i) (lx_X0_meetParts_52 n vt ga (nI i) (n' + 1)) (nI a) (nI b) x1 _ (nI 1) u1 = _
  unfold bx_X0_meetParts_52
  rw [if_neg (by decide), xl_eq, y1]
  show bx_X0_meetParts_52 n vt ga (nI i) (lx_X0_meetParts_52 n vt ga (nI i) n') (nI a) (nI b) x2 _ (nI 2) u2 = _
  unfold bx_X0_meetParts_52
  rw [if_pos (by decide)]
