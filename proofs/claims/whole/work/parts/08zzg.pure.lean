/-! ===== the stepper: with the other parts ===== -/
theorem sel_filter {s : Nat} : ∀ {qs : List (List Nat)} {k : Nat}, sel s false k qs = ((List.range qs.length).filter (fun i => s.testBit (k + i))).map (fun i => nth qs i)
  | [], _ => rfl
  | q :: qs, k => by
    show (if s.testBit k = false then sel s false (k + 1) qs else q :: sel s false (k + 1) qs) = _
    rw [List.length_cons, List.range_succ_eq_map, List.filter_cons, Nat.add_zero, sel_filter (qs := qs) (k := k + 1)]
    have e : ((List.range qs.length).map Nat.succ).filter (fun i => s.testBit (k + i)) = ((List.range qs.length).filter (fun i => s.testBit (k + 1 + i))).map Nat.succ := by
      rw [List.filter_map]
      congr 1
      apply List.filter_congr
      intro i _
      show s.testBit (k + (i + 1)) = _
      rw [show k + (i + 1) = k + 1 + i by omega]
    rw [e]
    cases z : s.testBit k with
    | false =>
      rw [if_pos rfl, if_neg (by decide), List.map_map]; rfl
    | true =>
      rw [if_neg (by decide), if_pos rfl, List.map_cons, List.map_map]; rfl
/-- what is laid before a part -/
def wots (oth : Nat) (qs : List (List Nat)) (b : List Nat) (i : Nat) : List (List Nat) := b :: ((List.range i).filter (fun z => oth.testBit z)).map (fun z => nth qs z)
theorem wots_s {oth i : Nat} {qs : List (List Nat)} {b : List Nat} : wots oth qs b (i + 1) = (if oth.testBit i = true then wots oth qs b i ++ [nth qs i] else wots oth qs b i) := by
  unfold wots
  rw [List.range_succ, List.filter_append]
  cases z : oth.testBit i with
  | false =>
    have : [i].filter (fun z => oth.testBit z) = [] := by rw [List.filter_cons, if_neg (by rw [z]; decide)]; rfl
    rw [this, List.append_nil, if_neg (by decide)]
  | true =>
    have : [i].filter (fun z => oth.testBit z) = [i] := by rw [List.filter_cons, if_pos z]; rfl
    rw [this, if_pos rfl, List.map_append]; rfl
theorem wots_all {oth : Nat} {qs : List (List Nat)} {b : List Nat} (h6 : qs.length ≤ 6) (hb9 : ∀ z : Nat, qs.length ≤ z → oth.testBit z = false) : wots oth qs b 6 = b :: sl oth qs := by
  unfold wots
  have e1 : sl oth qs = ((List.range qs.length).filter (fun i => oth.testBit i)).map (fun i => nth qs i) := by
    show sel oth false 0 qs = _
    rw [sel_filter]
    congr 2
    funext i
    rw [Nat.zero_add]
  have e2 : ∀ d : Nat, (List.range (qs.length + d)).filter (fun z => oth.testBit z) = (List.range qs.length).filter (fun z => oth.testBit z) := by
    intro d
    induction d with
    | zero => rfl
    | succ d ih =>
      rw [← Nat.add_assoc, List.range_succ, List.filter_append, ih]
      have : [qs.length + d].filter (fun z => oth.testBit z) = [] := by rw [List.filter_cons, if_neg (by rw [hb9 _ (by omega)]; decide)]; rfl
      rw [this, List.append_nil]
  have := e2 (6 - qs.length)
  rw [show qs.length + (6 - qs.length) = 6 by omega] at this
  rw [this, e1]
theorem lx_wo29_c {n a oth no nv : Nat} {ga : Nat → Nat → Int32} {w8 : Nat → Nat → Int64} {las : Nat → Bool} {N : List (List Nat)} {so ma : Nat → Nat} {un : Nat → Option Nat} {nmL : Nat → List Nat} {s b : List Nat} {P0 : Int32} (hn : 100000 ≤ n) (he : ENV ga las so ma un no nv nmL) (ho : opn s < 10 ∧ so (opn s) ≠ 3) (ha : a < N.length) (ha2 : nth N a = s) (hs : tok so un ma nv s) (h64 : oth < 64) (hb9 : ∀ z : Nat, (pts s).length ≤ z → oth.testBit z = false) :
    ∀ (d i m : Nat) (v : Nat → Nat → Int32), i + d = 6 → d < m → TBK v w8 las so ma un nv N → LST v N so un (opn s) (wots oth (pts s) b i) →
      ∃ v' : Nat → Nat → Int32, lx_X7_withOthers_29 n ga P0 (nI a) (nI oth) m (nI i) v w8 = fx_X8_close n v' w8 ga ∧ FRL v v' ∧ TBK v' w8 las so ma un nv N ∧ LST v' N so un (opn s) (wots oth (pts s) b 6)
  | 0, i, m + 1, v, hi, _, hT, hL => by
    have ei : i = 6 := by omega
    subst ei
    refine ⟨v, ?_, FRL.refl, hT, hL⟩
    show bx_X7_withOthers_29 n ga P0 (nI a) (nI oth) (lx_X7_withOthers_29 n ga P0 (nI a) (nI oth) m) (nI 6) v w8 = _
    unfold bx_X7_withOthers_29
    rw [if_pos (by decide)]
    cases fx_X8_close n v w8 ga with
    | none => rfl
    | some o => obtain ⟨x, y, z⟩ := o; rfl
  | d + 1, i, m + 1, v, hi, hm, hT, hL => by
    have hsh : lx_X7_withOthers_29 n ga P0 (nI a) (nI oth) (m + 1) (nI i) v w8 = bx_X7_withOthers_29 n ga P0 (nI a) (nI oth) (lx_X7_withOthers_29 n ga P0 (nI a) (nI oth) m) (nI i) v w8 := rfl
    have so10 : so (opn s) < 10 := by
      have := (ENV_op he ho.2).2.2
      omega
    have pl := pts_len hs.1.1.1
    have hbit := bit8 ⟨oth, by omega⟩ ⟨i, by omega⟩
    rw [hsh]
    unfold bx_X7_withOthers_29
    rw [if_neg (by rw [show (6 : Int32) = nI 6 from rfl, nI_le_iff (by decide) (by omega)]; omega), xl_eq, xl_eq]
    by_cases z : oth.testBit i = false
    · rw [if_pos (hbit.mpr z), xl_eq, nI_1]
      exact lx_wo29_c hn he ho ha ha2 hs h64 hb9 d (i + 1) m v (by omega) (by omega) hT (by rw [wots_s, if_neg (by rw [z]; decide)]; exact hL)
    · have zt : oth.testBit i = true := by
        cases y : oth.testBit i with
        | true => rfl
        | false => exact absurd y z
      have il : i < (pts s).length := by
        apply Classical.byContradiction
        intro g
        rw [hb9 i (by omega)] at zt; exact nomatch zt
      rw [if_neg (fun y => z (hbit.mp y))]
      obtain ⟨q, q1, q2, q3⟩ := fx_partOf_c (n := n) hT.1 ha (j := i) (by rw [ha2, ← pl]; exact il)
      rw [ha2] at q2
      have tq := hT.2 _ (nth_mem (show q < N.length by omega))
      obtain ⟨v1, y1, y2, y3⟩ := lay_LST (n := n) hn he.2.1 hT.1 ho.1 so10 hL (r := nI q) (t := nth (pts s) i) (Or.inr ⟨by rw [← q2]; exact tq.2.1, q, by omega, q2, rfl⟩)
      rw [q3, xb1_s, y1, xb1_s, xl_eq, nI_1]
      obtain ⟨v', g1, g2, g3, g4⟩ := lx_wo29_c (P0 := P0) hn he ho ha ha2 hs h64 hb9 d (i + 1) m v1 (by omega) (by omega) ⟨TB_FRL hT.1 y2, hT.2⟩ (by rw [wots_s, if_pos zt]; exact y3)
      exact ⟨v', g1, FRL.trans y2 g2, g3, g4⟩
theorem fx_withOthers_c {n a oth no nv : Nat} {ga v : Nat → Nat → Int32} {w8 : Nat → Nat → Int64} {las : Nat → Bool} {N : List (List Nat)} {so ma : Nat → Nat} {un : Nat → Option Nat} {nmL : Nat → List Nat} {s b : List Nat} {r : Int32} (hn : 100000 ≤ n) (he : ENV ga las so ma un no nv nmL) (hT : TBK v w8 las so ma un nv N) (hN : N.length < 1024) (ha : a < N.length) (ha2 : nth N a = s) (hk : kd so s = 2) (h64 : oth < 64) (hb9 : ∀ z : Nat, (pts s).length ≤ z → oth.testBit z = false) (hr : VAL N so r b) (b1 : nok so un b) (b2 : sS so ma nv b) (b3 : b.length ≤ 420) :
    RBO las so ma un nv N v 1 (stand so un (opn s) (b :: sl oth (pts s))) (fx_X7_withOthers n v w8 ga r (nI a) (nI oth)) ∧ nok so un (stand so un (opn s) (b :: sl oth (pts s))) ∧ sS so ma nv (stand so un (opn s) (b :: sl oth (pts s))) ∧ (stand so un (opn s) (b :: sl oth (pts s))).length ≤ b.length + 20 := by
  have hs : tok so un ma nv s := by rw [← ha2]; exact hT.2 _ (nth_mem ha)
  have hsu := SV_SU he.2.1
  have hs2 := fun (o : Nat) (h : so o ≠ 3) => (ENV_op he h).2.2
  obtain ⟨s1, s2, s3, s4⟩ := sum_ar hs hk
  obtain ⟨o1, o2, o3⟩ := ENV_op he (op := opn s) (by omega)
  have ho : opn s < 10 ∧ so (opn s) ≠ 3 := ⟨o2, by omega⟩
  have pl := pts_len hs.1.1.1
  have h6 : (pts s).length ≤ 6 := by rw [pl]; exact (tok_ar he.2.1 hs2 hs _ (hd0_mem hs.1.1.1)).1
  have nd := (TB_get hT.1 ha).1
  have hc := nd.2.1 _ (hd0_mem nd.1)
  have co := fx_codeOf_c (n := n) hT.1 ha
  rw [ha2] at hc co
  have sl20 := tok_len hs
  have ssl := congrArg List.length (row_pts hs.1.1.1)
  rw [List.length_cons] at ssl
  have fl : (b :: sl oth (pts s)).flatten.length ≤ b.length + 19 := by
    rw [List.flatten_cons, List.length_append]
    have := sel_len (s := oth) (o := false) (k := 0) (qs := pts s)
    have e : (sl oth (pts s)).flatten.length ≤ (pts s).flatten.length := this
    omega
  have nk : noks so un (b :: sl oth (pts s)) := fun q hq => by
    rcases List.mem_cons.mp hq with e | e
    · rw [e]; exact b1
    · exact nok_pts hs.1 q (sl_sub.subset e)
  have ne : b :: sl oth (pts s) ≠ [] := List.cons_ne_nil _ _
  have g6 := stand_nf hsu ho nk ne (by omega)
  have g7 : sS so ma nv (stand so un (opn s) (b :: sl oth (pts s))) := stand_S he.2.1 ho (okts_wfs (noks_okts nk)) (fun q hq => by
    rcases List.mem_cons.mp hq with e | e
    · rw [e]; exact b2
    · exact (tok_pts hs q (sl_sub.subset e)).2.2) (fun hn9 => absurd s2 hn9) (by omega)
  have g8 := (stand_okt (un := un) hsu ho (noks_okts nk) (fun _ => ne) (by omega)).2
  refine ⟨?_, g6, g7, by omega⟩
  have so10 : so (opn s) < 10 := by omega
  obtain ⟨v1, y1, y2, y3⟩ := begin_LST (n := n) (v := v) (N := N) he.1 he.2.1 (ENV_no he) (by omega) o1
  have T1 : TBK v1 w8 las so ma un nv N := ⟨TB_FRL hT.1 y2, hT.2⟩
  obtain ⟨v2, z1, z2, z3⟩ := lay_LST (n := n) hn he.2.1 T1.1 ho.1 so10 y3 hr
  obtain ⟨v3, q1, q2, q3, q4⟩ := lx_wo29_c (n := n) (P0 := r) (b := b) hn he ho ha ha2 hs h64 hb9 6 0 n v2 rfl (by omega) ⟨TB_FRL T1.1 z2, hT.2⟩ z3
  rw [wots_all h6 hb9] at q4
  obtain ⟨r3, v4, w3, E3, t1, t2, t3, t4, t5⟩ := close_ANS (n := n) hn he.2.2.1 he.1 he.2.1 q3.1 hN ho so10 q4 (noks_okts nk) (fun _ e => absurd e ne) (fun hn9 => absurd s2 hn9) (by omega)
  have op9 : opI (hd0 s) = nI (opn s) := opI_op s1
  refine ⟨r3, v4, w3, E3, ?_, ⟨t2, fun t ht => ?_⟩, t4, ?_, ?_, ?_⟩
  · unfold fx_X7_withOthers
    rw [co, xb1_s, fx_operatorIn_c hc, xb1_s, op9, y1, xb1_s, z1, xb1_s]
    exact q1.trans t1
  · rcases List.mem_append.mp ht with z | z
    · exact hT.2 t z
    · rcases t3 with e | ⟨e, eg⟩
      · rw [e] at z; exact absurd z List.not_mem_nil
      · rw [e] at z
        rw [List.mem_singleton.mp z]
        exact ⟨g6, eg, g7⟩
  · rcases t3 with e | ⟨e, _⟩
    · rw [e]; exact Nat.zero_le _
    · rw [e]; exact Nat.le_refl _
  · rw [t5.2.2 1 (by decide), q2.2.2, z2.2.2, y2.2.2]
  · rw [t5.2.1, q2.1 9 (by decide) (by decide), z2.1 9 (by decide) (by decide), y2.1 9 (by decide) (by decide)]
