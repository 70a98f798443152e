/-! ===== terms as sums: their parts, some of them, what is left ===== -/
/-- the operator's sort of a term -/
def kd (so : Nat → Nat) (t : List Nat) : Nat := if hd0 t < 512 then 0 else so (hd0 t / 512 - 1)
theorem fx_kindAt_c {n i no nv : Nat} {ga v : Nat → Nat → Int32} {w : Nat → Nat → Int64} {las : Nat → Bool} {N : List (List Nat)} {so ma : Nat → Nat} {un : Nat → Option Nat} {nmL : Nat → List Nat} (he : ENV ga las so ma un no nv nmL) (h : TBK v w las so ma un nv N) (hi : i < N.length) : fx_X8_kindAt n v ga (nI i) = some (nI (kd so (nth N i))) := by
  have tk := h.2 _ (nth_mem hi)
  obtain ⟨⟨n1, n2, n3, n4, n5⟩, _⟩ := TB_get h.1 hi
  have hm := hd0_mem n1
  have hc := n2 _ hm
  unfold fx_X8_kindAt kd
  rw [fx_codeOf_c h.1 hi, xb1_s]
  by_cases q : hd0 (nth N i) < 512
  · rw [if_neg (fun z => (le8 hc).mp z q), if_pos q]; rfl
  · have o : so (hd0 (nth N i) / 512 - 1) ≠ 3 := (tk.1.1.2.2 _ hm (by omega)).1
    obtain ⟨p1, p2, p3⟩ := ENV_op he o
    rw [if_pos ((le8 hc).mpr q), fx_operatorIn_c hc, xb1_s, opI_op (by omega), fx_kindOf_c he.1 p1, xb1_s, if_neg q]
/-- 0: met alone by what it is, 1: by any parts, 2: by one part -/
def sto (so : Nat → Nat) (un : Nat → Option Nat) (t : List Nat) : Nat := if hd0 t < 512 then 0 else if so (hd0 t / 512 - 1) = 2 ∧ un (hd0 t / 512 - 1) ≠ none then 1 else 2
theorem oI_nonneg {o : Option Nat} (h : ∀ u : Nat, o = some u → u < 1000) : oI o < (0 : Int32) ↔ o = none := by
  cases o with
  | none => exact ⟨fun _ => rfl, fun _ => by decide⟩
  | some u =>
    have := h u rfl
    refine ⟨fun q => ?_, fun q => nomatch q⟩
    have q' : nI u < nI 0 := q
    rw [nI_lt_iff (by omega) (by decide)] at q'
    omega
theorem fx_sortOf_c {n i no nv : Nat} {ga v : Nat → Nat → Int32} {w : Nat → Nat → Int64} {las : Nat → Bool} {N : List (List Nat)} {so ma : Nat → Nat} {un : Nat → Option Nat} {nmL : Nat → List Nat} (he : ENV ga las so ma un no nv nmL) (h : TBK v w las so ma un nv N) (hi : i < N.length) : fx_X8_sortOf n v ga (nI i) = some (nI (sto so un (nth N i))) := by
  have tk := h.2 _ (nth_mem hi)
  have h1 := h.1.1
  obtain ⟨⟨n1, n2, n3, n4, n5⟩, ⟨n6, _⟩, _⟩ := TB_get h.1 hi
  have hm := hd0_mem n1
  have hc := n2 _ hm
  have cl := cc_lt hc
  have k3 := (sr3 ⟨cc (hd0 (nth N i)), by omega⟩).1
  have k3' : nI (cc (hd0 (nth N i))) >>> ((3 : Int32) &&& 31) = nI (cc (hd0 (nth N i)) / 8) := k3
  unfold fx_X8_sortOf sto
  rw [if_neg (by rw [show (0 : Int32) = nI 0 from rfl, nI_lt_iff (by omega) (by decide)]; omega), h.1.2.1, if_neg (by rw [nI_le_iff (by omega) (by omega)]; omega), if_neg (by rw [show (1024 : Int32) = nI 1024 from rfl, nI_le_iff (by decide) (by omega)]; omega), xr_n (by omega) (by decide), n6, xl_eq, k3', xl_eq]
  unfold jx_X8_sortOf_33
  by_cases q : hd0 (nth N i) < 512
  · have hv := (cc_var hc).mpr q
    rw [show cc (hd0 (nth N i)) / 8 = 0 by omega, if_pos (by decide), if_pos q]; rfl
  · have o : so (hd0 (nth N i) / 512 - 1) ≠ 3 := (tk.1.1.2.2 _ hm (by omega)).1
    obtain ⟨p1, p2, p3⟩ := ENV_op he o
    obtain ⟨e1, e2, e3⟩ := cc_op hc (by omega)
    have un9 := (he.1.2.2.2.2.1 _ p1).2.2.2
    have so9 := (he.1.2.2.2.2.1 _ p1).2.1
    rw [i1, nI_sub (by omega), e1, if_neg (by rw [show (0 : Int32) = nI 0 from rfl, nI_lt_iff (by omega) (by decide)]; omega), if_pos (by rw [show (10 : Int32) = nI 10 from rfl, nI_lt_iff (by omega) (by decide)]; omega), xr_n p2 (by decide), so9, if_neg q]
    by_cases z : so (hd0 (nth N i) / 512 - 1) = 2
    · rw [if_pos (by rw [z]; rfl), xr_n p2 (by decide), un9]
      have on := oI_nonneg (o := un (hd0 (nth N i) / 512 - 1)) (fun u hu => by have := (he.2.1.2.2.2 _ u hu).2.1; omega)
      by_cases y : un (hd0 (nth N i) / 512 - 1) = none
      · rw [if_pos (on.mpr y), if_neg (fun g => g.2 y)]; rfl
      · rw [if_neg (fun g => y (on.mp g)), if_pos ⟨z, y⟩]
    · rw [if_neg (by rw [show (2 : Int32) = nI 2 from rfl, nI_inj (by omega) (by decide)]; exact z), if_neg (fun g => z g.1)]; rfl
theorem isop_hd {op : Nat} {t : List Nat} (h : wf 1 t) : isop op t = true ↔ (512 ≤ hd0 t ∧ hd0 t / 512 - 1 = op) := by
  cases t with
  | nil => exact absurd h.symm (by decide)
  | cons c l =>
    show (decide (512 ≤ c) && decide (c / 512 - 1 = op)) = true ↔ _
    rw [Bool.and_eq_true, decide_eq_true_iff, decide_eq_true_iff]; rfl
theorem isun_hd {un : Nat → Option Nat} {op : Nat} {t : List Nat} (h : wf 1 t) : isun un op t = true ↔ ∃ u : Nat, un op = some u ∧ hd0 t = cdo u 0 := by
  cases t with
  | nil => exact absurd h.symm (by decide)
  | cons c l =>
    unfold isun
    cases hu : un op with
    | none => exact ⟨fun q => by simp at q, fun ⟨u, h1, _⟩ => nomatch h1⟩
    | some u =>
      show decide (c = cdo u 0) = true ↔ _
      rw [decide_eq_true_iff]
      exact ⟨fun q => ⟨u, rfl, q⟩, fun ⟨u', h1, h2⟩ => by rw [Option.some.inj h1]; exact h2⟩
/-- a term's parts as a sum: how many, and the i-th one -/
theorem asSum_c {n x op no nv : Nat} {ga v : Nat → Nat → Int32} {w : Nat → Nat → Int64} {las : Nat → Bool} {N : List (List Nat)} {so ma : Nat → Nat} {un : Nat → Option Nat} {nmL : Nat → List Nat} (he : ENV ga las so ma un no nv nmL) (h : TB v w las N) (hx : x < N.length) (h2 : so op = 2) :
    fx_X8_partsAsSum n v ga (nI x) (nI op) = some (nI (flat1 so un op (nth N x)).length) ∧ (flat1 so un op (nth N x)).length ≤ 6 ∧ ∀ i : Nat, i < (flat1 so un op (nth N x)).length → ∃ p : Nat, p < N.length ∧ nth N p = nth (flat1 so un op (nth N x)) i ∧ fx_X8_partAsSum n v (nI x) (nI op) (nI i) = some (nI p) := by
  have h1 := h.1
  obtain ⟨p1, p2, p3⟩ := ENV_op he (op := op) (by omega)
  obtain ⟨⟨n1, n2, n3, n4, n5⟩, ⟨n6, _⟩, n7, _⟩ := TB_get h hx
  have hc := n2 _ (hd0_mem n1)
  have cl := cc_lt hc
  have pl := pts_len n1
  have st : ∀ i : Nat, i < 6 → fx_X8_partAsSum n v (nI x) (nI op) (nI i) = if 512 ≤ hd0 (nth N x) ∧ hd0 (nth N x) / 512 - 1 = op then some (v 4 (6 * x + i)) else some (nI x) := fun i hi => by
    unfold fx_X8_partAsSum
    rw [if_neg (by rw [show (0 : Int32) = nI 0 from rfl, nI_lt_iff (by omega) (by decide)]; omega), h.2.1, if_neg (by rw [nI_le_iff (by omega) (by omega)]; omega), if_neg (by rw [show (1024 : Int32) = nI 1024 from rfl, nI_le_iff (by decide) (by omega)]; omega), if_neg (by rw [show (0 : Int32) = nI 0 from rfl, nI_lt_iff (by omega) (by decide)]; omega), if_pos (by rw [show (6 : Int32) = nI 6 from rfl, nI_lt_iff (by omega) (by decide)]; omega), xr_n (by omega) (by decide), n6, xl_eq, xl_eq, nI_1]
    by_cases q : 512 ≤ hd0 (nth N x) ∧ hd0 (nth N x) / 512 - 1 = op
    · rw [if_pos ((shr3_op hc p2).mpr q), if_pos q, xl_eq, show (6 : Int32) = nI 6 from rfl, nI_mul (by omega) (by omega) (by decide), xl_eq, nI_add, xr_n (by omega) (by decide), show x * 6 + i = 6 * x + i by omega]
    · rw [if_neg (fun z => q ((shr3_op hc p2).mp z)), if_neg q]
  have opeq : (opI (hd0 (nth N x)) = nI op) ↔ (512 ≤ hd0 (nth N x) ∧ hd0 (nth N x) / 512 - 1 = op) := by
    have : hd0 (nth N x) < 5632 := by rcases n3 _ (hd0_mem n1) with g | g <;> omega
    by_cases q : hd0 (nth N x) < 512
    · rw [opI_var q]
      exact ⟨fun z => absurd z.symm (nI_m1 (by omega)), fun z => by omega⟩
    · rw [opI_op (by omega), nI_inj (by omega) (by omega)]
      exact ⟨fun z => ⟨by omega, z⟩, fun z => z.2⟩
  unfold fx_X8_partsAsSum
  rw [fx_codeOf_c h hx, xb1_s, fx_operatorIn_c hc, xb1_s]
  by_cases q : 512 ≤ hd0 (nth N x) ∧ hd0 (nth N x) / 512 - 1 = op
  · have ef : flat1 so un op (nth N x) = pts (nth N x) := by unfold flat1; rw [if_pos h2, if_pos ((isop_hd n1).mpr q)]
    rw [if_pos (opeq.mpr q), fx_partsIn_c hc, xb1_s, ef, pl]
    refine ⟨rfl, n5, fun i hi => ?_⟩
    obtain ⟨p, a1, a2, a3⟩ := n7 i hi
    exact ⟨p, by omega, a2, by rw [st i (by omega), if_pos q, a3]⟩
  · have hio : isop op (nth N x) = false := by
      cases z : isop op (nth N x) with
      | false => rfl
      | true => exact absurd ((isop_hd n1).mp z) q
    rw [if_neg (fun z => q (opeq.mp z)), fx_unitCodeOf_c he.1 he.2.1 p1, xb1_s]
    by_cases y : isun un op (nth N x) = true
    · have ef : flat1 so un op (nth N x) = [] := by unfold flat1; rw [if_pos h2, hio, y]; rfl
      obtain ⟨u, u1, u2⟩ := (isun_hd n1).mp y
      have eu : nI (cc (hd0 (nth N x))) = ucI (un op) := by rw [u2, u1]; rfl
      rw [if_pos eu, ef]
      exact ⟨rfl, by decide, fun i hi => absurd hi (Nat.not_lt_zero _)⟩
    · have y' : isun un op (nth N x) = false := by
        cases z : isun un op (nth N x) with
        | false => rfl
        | true => exact absurd z y
      have ef : flat1 so un op (nth N x) = [nth N x] := by unfold flat1; rw [if_pos h2, hio, y']; rfl
      have nu : ¬ nI (cc (hd0 (nth N x))) = ucI (un op) := by
        cases hu : un op with
        | none => exact nI_m1 (by omega)
        | some u =>
          have u1 := (he.2.1.2.2.2 op u hu).2.1
          have l2 := cc_lt (cck_cdo u1 (show 0 < 8 by decide))
          show ¬ nI (cc (hd0 (nth N x))) = nI (cc (cdo u 0))
          rw [nI_inj (by omega) (by omega), cc_inj hc (cck_cdo u1 (by decide))]
          intro e
          exact y ((isun_hd n1).mpr ⟨u, hu, e⟩)
      rw [if_neg nu, ef]
      refine ⟨rfl, by simp, fun i hi => ?_⟩
      have : i = 0 := by simpa using hi
      subst this
      exact ⟨x, hx, rfl, by rw [st 0 (by decide), if_neg q]⟩
/-- those whose bits are set -/
abbrev sl (s : Nat) (qs : List (List Nat)) : List (List Nat) := sel s false 0 qs
theorem bit0 {s k : Nat} (hs : s < 64) (hk : k < 6) : (((nI s >>> (nI k &&& 31)) &&& 1) = 0) ↔ s.testBit k = false := by
  have h := hbit ⟨s, hs⟩ ⟨k, hk⟩
  have h' : (((nI s >>> (nI k &&& 31)) &&& 1) = 1) ↔ s.testBit k = true := h
  rcases and1_01 (nI s >>> (nI k &&& 31)) with q | q
  · rw [q]
    refine ⟨fun _ => ?_, fun _ => rfl⟩
    cases z : s.testBit k with
    | false => rfl
    | true => rw [h'.mpr z] at q; exact absurd q (by decide)
  · rw [q]
    refine ⟨fun z => absurd z (by decide), fun z => ?_⟩
    rw [h'.mp q] at z; exact nomatch z
theorem sel_snoc {s : Nat} {q : List Nat} : ∀ {qs : List (List Nat)} {k : Nat}, sel s false k (qs ++ [q]) = sel s false k qs ++ (if s.testBit (k + qs.length) = false then [] else [q])
  | [], k => by
    show (if s.testBit k = false then [] else [q]) = [] ++ _
    rw [List.nil_append]; rfl
  | x :: qs, k => by
    show (if s.testBit k = false then sel s false (k + 1) (qs ++ [q]) else x :: sel s false (k + 1) (qs ++ [q])) = (if s.testBit k = false then sel s false (k + 1) qs else x :: sel s false (k + 1) qs) ++ _
    rw [sel_snoc, List.length_cons, show k + 1 + qs.length = k + (qs.length + 1) by omega]
    by_cases z : s.testBit k = false
    · rw [if_pos z, if_pos z]
    · rw [if_neg z, if_neg z]; rfl
theorem sel_le {s : Nat} : ∀ {qs : List (List Nat)} {k : Nat}, (sel s false k qs).length ≤ qs.length
  | [], _ => Nat.le_refl _
  | x :: qs, k => by
    show (if s.testBit k = false then sel s false (k + 1) qs else x :: sel s false (k + 1) qs).length ≤ _
    have := sel_le (s := s) (qs := qs) (k := k + 1)
    by_cases z : s.testBit k = false
    · rw [if_pos z, List.length_cons]; omega
    · rw [if_neg z, List.length_cons, List.length_cons]; omega
theorem lx_subSum_c {n x op no nv bits : Nat} {ga : Nat → Nat → Int32} {w : Nat → Nat → Int64} {las : Nat → Bool} {N : List (List Nat)} {so ma : Nat → Nat} {un : Nat → Option Nat} {nmL : Nat → List Nat} (hn : 100000 ≤ n) (he : ENV ga las so ma un no nv nmL) (hx : x < N.length) (h2 : so op = 2) (hN : N.length < 1024) (hbt : bits < 64) (hbl : ∀ k : Nat, (flat1 so un op (nth N x)).length ≤ k → bits.testBit k = false) (hbig : ∀ q ∈ flat1 so un op (nth N x), ∀ d ∈ q, big1 so d = false) (hu : sl bits (flat1 so un op (nth N x)) = [] → un op ≠ none) (hlen : (sl bits (flat1 so un op (nth N x))).flatten.length < 512) :
    ∀ (d j m : Nat) (v : Nat → Nat → Int32), j + d = 6 → d < m → TB v w las N → LI v N (sl bits ((flat1 so un op (nth N x)).take j)) →
      ∃ (r : Int32) (v' : Nat → Nat → Int32) (w' : Nat → Nat → Int64) (E : List (List Nat)), lx_X8_subSum_6 n ga (nI x) (nI op) (nI bits) m (nI (sl bits ((flat1 so un op (nth N x)).take j)).length) (nI j) v w = some (r, v', w') ∧ TB v' w' las (N ++ E) ∧ (E = [] ∨ (E = [mkt so un op (sl bits (flat1 so un op (nth N x)))] ∧ great so (mkt so un op (sl bits (flat1 so un op (nth N x)))) = false)) ∧ VAL (N ++ E) so r (mkt so un op (sl bits (flat1 so un op (nth N x)))) ∧ v' 9 = v 9 ∧ ∀ j : Nat, j ≠ 0 → v' 0 j = v 0 j
  | 0, j, m + 1, v, hj, _, hT, hL => by
    have ej : j = 6 := by omega
    subst ej
    obtain ⟨p1, p2, p3⟩ := ENV_op he (op := op) (by omega)
    obtain ⟨a1, a2, a3⟩ := asSum_c (n := n) he hT hx h2
    rw [List.take_of_length_le a2] at hL ⊢
    generalize hH : flat1 so un op (nth N x) = H at *
    have hsl : (sl bits H).length ≤ 6 := Nat.le_trans sel_le a2
    have hsb : ∀ q ∈ sl bits H, ∀ d ∈ q, big1 so d = false := fun q hq => hbig q (sel_mem hq)
    show ∃ (r : Int32) (v' : Nat → Nat → Int32) (w' : Nat → Nat → Int64) (E : List (List Nat)), bx_X8_subSum_6 n ga (nI x) (nI op) (nI bits) (lx_X8_subSum_6 n ga (nI x) (nI op) (nI bits) m) (nI (sl bits H).length) (nI 6) v w = some (r, v', w') ∧ _
    unfold bx_X8_subSum_6
    rw [if_pos (by decide)]
    by_cases z1 : (sl bits H).length = 1
    · rw [if_pos (by rw [z1]; rfl)]
      obtain ⟨p, q1, q2, q3⟩ := hL 0 (by omega)
      obtain ⟨y, hy⟩ : ∃ y : List Nat, sl bits H = [y] := List.length_eq_one_iff.mp z1
      have r0 := xr_n (α := Int32) (β := Int32 × (Nat → Nat → Int32) × (Nat → Nat → Int64)) (n := 6) (f := v 8) (i := 0) (k := fun y_29 => some (y_29, v, w)) (by decide) (by decide)
      have e0 : nI 0 = (0 : Int32) := rfl
      rw [e0] at r0
      rw [r0, q3, hy, mkt_one h2]
      have hyN : nth N p = y := by rw [q2, hy]; rfl
      exact ⟨nI p, v, w, [], rfl, by rw [List.append_nil]; exact hT, Or.inl rfl, Or.inr ⟨not_great (by rw [← hyN]; exact (TB_get hT q1).1.2.2.2.1) (hsb y (by rw [hy]; simp)), p, by rw [List.append_nil]; exact q1, by rw [List.append_nil]; exact hyN, rfl⟩, rfl, fun _ _ => rfl⟩
    · rw [if_neg (by rw [show (1 : Int32) = nI 1 from rfl, nI_inj (by omega) (by decide)]; exact z1)]
      by_cases z0 : (sl bits H).length = 0
      · have hy : sl bits H = [] := List.length_eq_zero_iff.mp z0
        rw [if_pos (by rw [z0]; rfl), fx_unitCodeOf_c he.1 he.2.1 p1, xb1_s]
        cases hu9 : un op with
        | none => exact absurd hu9 (hu hy)
        | some u =>
          obtain ⟨u1, u2, u3⟩ := (he.2.1.2.2.2 op u hu9).2
          have cu := cc_lt (cck_cdo u1 (show 0 < 8 by decide))
          have ez : (0 : Int32) ≤ ucI (some u) := by
            show (0 : Int32) ≤ nI (cc (cdo u 0))
            rw [show (0 : Int32) = nI 0 from rfl, nI_le_iff (by decide) (by omega)]; omega
          rw [if_pos ez, hy, mkt_nil h2 hu9]
          have an := intern_ANS (n := n) (qs := []) (so := so) hn he.2.2.1 hT hN (fun j hj => absurd hj (Nat.not_lt_zero _)) (cck_cdo u1 (show 0 < 8 by decide)) (cok_cdo u1 (by decide)) (ar_code (by decide)) (by decide) (fun d hd => by
            rcases List.mem_cons.mp hd with g | g
            · rw [g]; unfold big1
              rw [ar_code (by decide), decide_eq_false (show ¬ 6 < 0 by decide), Bool.and_false]
            · exact absurd g List.not_mem_nil)
          obtain ⟨r, v', w', E, e1, e2, e3, e4, e5⟩ := an
          have e1' : fx_X8_intern n v w ga (ucI (some u)) 0 = some (r, v', w') := e1
          rw [e1', xb3_s]
          exact ⟨r, v', w', E, rfl, e2, e3, e4, e5.2.1, e5.2.2⟩
      · rw [if_neg (by rw [show (0 : Int32) = nI 0 from rfl, nI_inj (by omega) (by decide)]; exact z0), fx_codeFor_c p2 (by omega), xb1_s, mkt_many (fun _ => by omega)]
        have an := intern_ANS (n := n) (so := so) hn he.2.2.1 hT hN hL (cck_cdo p2 (show (sl bits H).length < 8 by omega)) (cok_cdo p2 (by omega)) (ar_code (by omega)) hsl (fun d hd => by
          rcases List.mem_cons.mp hd with g | g
          · rw [g]; unfold big1
            rw [ar_code (by omega), decide_eq_false (show ¬ 6 < (sl bits H).length by omega), Bool.and_false]
          · obtain ⟨q, q1, q2⟩ := List.mem_flatten.mp g
            exact hsb q q1 d q2)
        obtain ⟨r, v', w', E, e1, e2, e3, e4, e5⟩ := an
        rw [e1, xb3_s]
        exact ⟨r, v', w', E, rfl, e2, e3, e4, e5.2.1, e5.2.2⟩
  | d + 1, j, m + 1, v, hj, hm, hT, hL => by
    obtain ⟨a1, a2, a3⟩ := asSum_c (n := n) he hT hx h2
    have ih := fun v9 => lx_subSum_c (w := w) hn he hx h2 hN hbt hbl hbig hu hlen d (j + 1) m v9 (by omega) (by omega)
    generalize hH : flat1 so un op (nth N x) = H at *
    have hsl : (sl bits (H.take j)).length ≤ j := Nat.le_trans sel_le (by rw [List.length_take]; omega)
    have hsh : lx_X8_subSum_6 n ga (nI x) (nI op) (nI bits) (m + 1) (nI (sl bits (H.take j)).length) (nI j) v w = bx_X8_subSum_6 n ga (nI x) (nI op) (nI bits) (lx_X8_subSum_6 n ga (nI x) (nI op) (nI bits) m) (nI (sl bits (H.take j)).length) (nI j) v w := rfl
    rw [hsh]
    unfold bx_X8_subSum_6
    rw [if_neg (by rw [show (6 : Int32) = nI 6 from rfl, nI_le_iff (by decide) (by omega)]; omega), xl_eq, xl_eq]
    have same : bits.testBit j = false → sl bits (H.take (j + 1)) = sl bits (H.take j) := fun q => by
      by_cases g : j < H.length
      · rw [take_nth g]
        show sel bits false 0 (H.take j ++ [nth H j]) = _
        rw [sel_snoc, List.length_take, Nat.min_eq_left (by omega), Nat.zero_add, if_pos q, List.append_nil]
      · rw [List.take_of_length_le (by omega), List.take_of_length_le (by omega)]
    cases hb9 : bits.testBit j with
    | false =>
      rw [if_pos ((bit0 hbt (by omega)).mpr hb9), xl_eq, nI_1]
      have i9 := ih v hT
      rw [same hb9] at i9
      exact i9 hL
    | true =>
      have g : j < H.length := by
        apply Classical.byContradiction
        intro q
        rw [hbl j (by omega)] at hb9; exact nomatch hb9
      obtain ⟨p, q1, q2, q3⟩ := a3 j g
      have es : sl bits (H.take (j + 1)) = sl bits (H.take j) ++ [nth H j] := by
        rw [take_nth g]
        show sel bits false 0 (H.take j ++ [nth H j]) = _
        rw [sel_snoc, List.length_take, Nat.min_eq_left (by omega), Nat.zero_add, if_neg (by rw [hb9]; decide)]
      rw [if_neg (fun q => by rw [(bit0 hbt (by omega)).mp q] at hb9; exact nomatch hb9), if_neg (by rw [show (6 : Int32) = nI 6 from rfl, nI_le_iff (by decide) (by omega)]; omega), q3, xb1_s, xwp_n (by omega) (by decide), xl_eq, nI_1, xl_eq, nI_1]
      have i9 := ih (mu v 8 (sl bits (H.take j)).length (nI p)) (TB_frame hT (by rw [mu_ne (by decide)]) (fun a _ a7 => mu_ne (by omega)))
      rw [es, List.length_append, List.length_singleton] at i9
      obtain ⟨r, v', w', E, e1, e2, e3, e4, e5, e6⟩ := i9 (fun z hz => by
        rw [List.length_append, List.length_singleton] at hz
        rw [mu_eq]
        by_cases y : z < (sl bits (H.take j)).length
        · obtain ⟨s, s1, s2, s3⟩ := hL z y
          exact ⟨s, s1, by rw [nth_snoc_lt y]; exact s2, by rw [upd_ne (by omega)]; exact s3⟩
        · have : z = (sl bits (H.take j)).length := by omega
          subst this
          exact ⟨p, q1, by rw [nth_app2]; exact q2, upd_eq _ _ _⟩)
      exact ⟨r, v', w', E, e1, e2, e3, e4, by rw [e5, mu_ne (by decide)], fun z hz => by rw [e6 z hz, mu_ne (by decide)]⟩
