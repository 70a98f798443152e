/-! ===== rules that are on; turn, about: the class ===== -/
theorem onb_hb {s : Int32} {k : Nat} (hk : k < 32) : onb s k = hb s k := by
  unfold onb
  rw [hb_sh hk]
  cases hb s k with
  | true => decide
  | false => decide
theorem hb_ext {a b : Int32} (h : ∀ v : Nat, v < 32 → hb a v = hb b v) : a = b := by
  apply Int32.toBitVec_inj.mp
  apply BitVec.eq_of_getLsbD_eq
  intro v hv
  exact h v hv
theorem hb_one : ∀ v : Fin 32, hb 1 v.val = decide (v.val = 0) := by decide +kernel
theorem hb_msk : ∀ k : Fin 9, ∀ v : Fin 32, hb (((1 : Int32) <<< (nI k.val &&& 31)) - 1) v.val = decide (v.val < k.val) := by decide +kernel
theorem msk_nI : ∀ k : Fin 9, ((1 : Int32) <<< (nI k.val &&& 31)) - 1 = nI (2 ^ k.val - 1) := by decide +kernel
theorem hb_ron {on : Int32} {k v : Nat} (hk : k ≤ 8) (hv : v < 32) : hb (ron on k) v = (hb on v && decide (v < k)) := by
  unfold ron
  have e : hb (((1 : Int32) <<< (nI k &&& 31)) - 1) v = decide (v < k) := hb_msk ⟨k, by omega⟩ ⟨v, hv⟩
  rw [hb_and2, e]
theorem ron_bits {on : Int32} {k : Nat} (hk : k ≤ 8) : ∃ bits : Nat, bits < 2 ^ k ∧ ron on k = nI bits := by
  refine ⟨on.toBitVec.toNat % 2 ^ k, Nat.mod_lt _ (Nat.two_pow_pos k), ?_⟩
  unfold ron
  have e : ((1 : Int32) <<< (nI k &&& 31)) - 1 = nI (2 ^ k - 1) := msk_nI ⟨k, by omega⟩
  rw [e]
  conv => lhs; rw [i32_nI on]
  rw [nI_and, Nat.and_two_pow_sub_one_eq_mod]
theorem onb_ron {on : Int32} {i k : Nat} (hk : k ≤ 8) (hi : i < k) : onb (ron on k) i = onb on i := by
  rw [onb_hb (by omega), onb_hb (by omega), hb_ron hk (by omega), decide_eq_true hi, Bool.and_true]
/-- a rule more -/
theorem ron_add {on : Int32} {k : Nat} (hk : k < 8) : ron (if k = 0 then 1 else on ||| ((1 : Int32) <<< (nI k &&& 31))) (k + 1) = ron on k ||| ((1 : Int32) <<< (nI k &&& 31)) := by
  apply hb_ext
  intro v hv
  have e1 : hb ((1 : Int32) <<< (nI k &&& 31)) v = decide (v = k) := hb_shl ⟨k, by omega⟩ ⟨v, hv⟩
  rw [hb_ron (by omega) hv, hb_or2, hb_ron (by omega) hv, e1]
  by_cases z : k = 0
  · subst z
    have e2 : hb 1 v = decide (v = 0) := hb_one ⟨v, hv⟩
    rw [if_pos rfl, e2]
    by_cases y : v = 0
    · rw [y]; simp
    · rw [decide_eq_false y, Bool.false_and, decide_eq_false (show ¬ v < 0 by omega), Bool.and_false]; rfl
  · rw [if_neg z, hb_or2, e1]
    by_cases y : v = k
    · rw [y, decide_eq_true rfl, Bool.or_true, Bool.true_and, decide_eq_true (show k < k + 1 by omega), Bool.or_true]
    · rw [decide_eq_false y, Bool.or_false, Bool.or_false]
      by_cases x : v < k
      · rw [decide_eq_true x, decide_eq_true (show v < k + 1 by omega)]
      · rw [decide_eq_false x, decide_eq_false (show ¬ v < k + 1 by omega)]
theorem fx_turn_c {n : Nat} {xx rs : Nat → Nat → Int32} {R : RulL} {on x : Int32} {b : Bool} (hR8 : R.length ≤ 8) (hR : RWS 16 rs (sdl R)) (hx : xx 0 0 = ron on R.length) :
    (∃ k : Nat, (k < R.length ∧ x = nI k) ∧ ∃ xx' : Nat → Nat → Int32, fx_X9_turn n xx rs x (ob b) = some (0, if onb on k = b then 0 else 1, xx') ∧ xx' 0 0 = ron (if b then on ||| ((1 : Int32) <<< (nI k &&& 31)) else on &&& (((1 : Int32) <<< (nI k &&& 31)) ^^^ -1)) R.length ∧ xx' 0 1 = xx 0 1) ∨
    (¬ isn x R.length ∧ fx_X9_turn n xx rs x (ob b) = some (3, 0, xx)) := by
  unfold fx_X9_turn
  rw [fx_checkRule_c hR sdl_len, xb1_s]
  by_cases h : isn x R.length
  · obtain ⟨k, k1, k2⟩ := isn_of (by omega) h
    refine Or.inl ⟨k, ⟨k1, k2⟩, ?_⟩
    rw [if_pos h, if_pos rfl, xl_eq, xl_eq, k2]
    have sh : ∀ v : Nat, v < 32 → hb ((1 : Int32) <<< (nI k &&& 31)) v = decide (v = k) := fun v hv => hb_shl ⟨k, by omega⟩ ⟨v, hv⟩
    have nsh : ∀ v : Nat, v < 32 → hb (((1 : Int32) <<< (nI k &&& 31)) ^^^ (-1)) v = decide (v ≠ k) := fun v hv => hb_nshl ⟨k, by omega⟩ ⟨v, hv⟩
    have z0 : ∀ v : Nat, v < 32 → hb 0 v = false := fun v hv => hb_zero ⟨v, hv⟩
    have bit : (xx 0 0 &&& ((1 : Int32) <<< (nI k &&& 31))) = 0 ↔ onb on k = false := by
      rw [onb_hb (by omega)]
      constructor
      · intro e
        have this : hb (xx 0 0 &&& ((1 : Int32) <<< (nI k &&& 31))) k = hb 0 k := by rw [e]
        rw [hx, hb_and2, sh k (by omega), z0 k (by omega), hb_ron (by omega) (by omega), decide_eq_true k1, decide_eq_true rfl, Bool.and_true, Bool.and_true] at this
        exact this
      · intro e
        apply hb_ext
        intro v hv
        rw [hx, hb_and2, sh v hv, z0 v hv, hb_ron (by omega) hv]
        by_cases y : v = k
        · rw [y, e]; rfl
        · rw [decide_eq_false y, Bool.and_false]
    -- the rest, whatever was on
    have rest : ∀ z : Bool, onb on k = z → ∃ xx' : Nat → Nat → Int32, jx_X9_turn_23 n rs (nI k) (ob b) ((1 : Int32) <<< (nI k &&& 31)) (ob z) xx = some (0, if onb on k = b then 0 else 1, xx') ∧ xx' 0 0 = ron (if b then on ||| ((1 : Int32) <<< (nI k &&& 31)) else on &&& (((1 : Int32) <<< (nI k &&& 31)) ^^^ -1)) R.length ∧ xx' 0 1 = xx 0 1 := fun z hz => by
      unfold jx_X9_turn_23
      rw [hz]
      have oe : ∀ c d : Bool, ob c = ob d ↔ c = d := by decide
      cases b with
      | false =>
        rw [show ob false = (0 : Int32) from rfl, if_pos rfl]
        simp only [xl_eq]
        have e : (mu xx 0 0 (xx 0 0 &&& (((1 : Int32) <<< (nI k &&& 31)) ^^^ (-1)))) 0 0 = ron (on &&& (((1 : Int32) <<< (nI k &&& 31)) ^^^ -1)) R.length := by
          rw [mu0_eq, hx]
          apply hb_ext
          intro v hv
          rw [hb_and2, nsh v hv, hb_ron hR8 hv, hb_ron hR8 hv, hb_and2, nsh v hv]
          cases hb on v <;> cases decide (v ≠ k) <;> cases decide (v < R.length) <;> rfl
        cases z with
        | false => exact ⟨_, rfl, e, mu0_ne (by decide)⟩
        | true => exact ⟨_, rfl, e, mu0_ne (by decide)⟩
      | true =>
        rw [show ob true = (1 : Int32) from rfl, if_neg (by decide)]
        simp only [xl_eq]
        have e : (mu xx 0 0 (xx 0 0 ||| ((1 : Int32) <<< (nI k &&& 31)))) 0 0 = ron (on ||| ((1 : Int32) <<< (nI k &&& 31))) R.length := by
          rw [mu0_eq, hx]
          apply hb_ext
          intro v hv
          rw [hb_or2, sh v hv, hb_ron hR8 hv, hb_ron hR8 hv, hb_or2, sh v hv]
          by_cases y : v = k
          · rw [decide_eq_true y, decide_eq_true (show v < R.length by omega)]
            cases hb on v <;> rfl
          · rw [decide_eq_false y, Bool.or_false, Bool.or_false]
        cases z with
        | false => exact ⟨_, rfl, e, mu0_ne (by decide)⟩
        | true => exact ⟨_, rfl, e, mu0_ne (by decide)⟩
    by_cases y : onb on k = false
    · rw [if_pos (bit.mpr y)]
      exact rest false y
    · rw [if_neg (fun e => y (bit.mp e))]
      exact rest true (by cases q : onb on k with | true => rfl | false => exact absurd q y)
  · rw [if_neg h, if_neg (by decide)]
    exact Or.inr ⟨h, rfl⟩
theorem pw_le7 {t : List Nat} {x : Nat} (hw : wf 1 t) (hc : cckl t) : pw t x ≤ 7 := by
  have h1 := pwF_le (op := nI x) (pts t) 0
  cases t with
  | nil => exact absurd hw.symm (by decide)
  | cons c l =>
    obtain ⟨p1, p2, p3⟩ := pts_of hw
    have := ar_cck (hc c (List.mem_cons_self ..))
    show pwF (nI x) (pts (c :: l)) 0 ≤ 7
    omega
theorem lx_couldFit_c {n no nv i j : Nat} {ga rt rs : Nat → Nat → Int32} {so ma : Nat → Nat} {un : Nat → Option Nat} {nmL : Nat → List Nat} {A B : List (List Nat)} {x3 : Int32} (hn : 100000 ≤ n) (hg : SGC ga so ma un no nv nmL) (hs2 : ∀ q : Nat, q < no → so q ≤ 2) (hA : RWS 30 rt A) (hi : i < A.length) (hwA : wf 1 (nth A i)) (hB : RWS 16 rs B) (hj : j < B.length) (hwB : wf 1 (nth B j)) :
    ∀ (d k m : Nat) (z : Bool), k + d = no → d < m → lx_X9_couldFit_67 n rt rs ga (nI j) (nI i) m x3 (if z = true then 1 else 0) (nI k) = some (if (z && cldR so (nth A i) (nth B j) d k) = true then 1 else 0)
  | d, k, 0, z, _, hm => by omega
  | d, k, m + 1, z, hk, hm => by
    have h10 := hg.1
    show bx_X9_couldFit_67 n rt rs ga (nI j) (nI i) (lx_X9_couldFit_67 n rt rs ga (nI j) (nI i) m) x3 _ (nI k) = _
    unfold bx_X9_couldFit_67
    cases z with
    | false =>
      rw [if_neg (show ¬ (false = true) by decide), if_pos rfl, xz_0, Bool.false_and]; rfl
    | true =>
      rw [if_pos rfl, if_neg (show ¬ (1 : Int32) = 0 by decide), hg.2.2.1, Bool.true_and, xz_1]
      cases d with
      | zero =>
        rw [if_pos (by rw [nI_le_iff (by omega) (by omega)]; omega)]
        rfl
      | succ d =>
        have kn : k < no := by omega
        have ks := hs2 k kn
        have step : cldR so (nth A i) (nth B j) (d + 1) k = ((decide (so k = 2) || decide (pw (nth B j) k ≤ pw (nth A i) k)) && cldR so (nth A i) (nth B j) d (k + 1)) := rfl
        rw [if_neg (by rw [nI_le_iff (by omega) (by omega)]; omega), fx_kindOf_c hg kn, xb1_s, step]
        by_cases q : so k = 2
        · have r := lx_couldFit_c (x3 := x3) hn hg hs2 hA hi hwA hB hj hwB d (k + 1) m true (by omega) (by omega)
          rw [if_pos rfl, Bool.true_and] at r
          rw [if_pos (by rw [q]; rfl), xl_eq, nI_1, r, decide_eq_true q, Bool.true_or, Bool.true_and]
        · have l1 := pw_le7 (x := k) hwA (hA.2.2 i hi).2.2.1
          have l2 := pw_le7 (x := k) hwB (hB.2.2 j hj).2.2.1
          rw [if_neg (by rw [show (2 : Int32) = nI 2 from rfl, nI_inj (by omega) (by decide)]; exact q), fx_partsWith_c hn (by decide) hA hi hwA, xb1_s, fx_partsWith_c hn (by decide) hB hj hwB, xb1_s, decide_eq_false q, Bool.false_or]
          by_cases y : pw (nth B j) k ≤ pw (nth A i) k
          · have r := lx_couldFit_c (x3 := x3) hn hg hs2 hA hi hwA hB hj hwB d (k + 1) m true (by omega) (by omega)
            rw [if_pos rfl, Bool.true_and] at r
            rw [if_pos (by rw [nI_le_iff (by omega) (by omega)]; exact y), xl_eq, nI_1, r, decide_eq_true y, Bool.true_and]
          · have r := lx_couldFit_c (x3 := x3) hn hg hs2 hA hi hwA hB hj hwB d (k + 1) m false (by omega) (by omega)
            rw [if_neg (show ¬ (false = true) by decide), Bool.false_and] at r
            rw [if_neg (by rw [nI_le_iff (by omega) (by omega)]; exact y), xl_eq, nI_1, r, decide_eq_false y, Bool.false_and]
theorem fx_couldFit_c {n no nv i j : Nat} {ga rt rs : Nat → Nat → Int32} {so ma : Nat → Nat} {un : Nat → Option Nat} {nmL : Nat → List Nat} {A B : List (List Nat)} (hn : 100000 ≤ n) (hg : SGC ga so ma un no nv nmL) (hsv : SV so un ma nv) (hs2 : ∀ q : Nat, q < no → so q ≤ 2) (hA : RWS 30 rt A) (hi : i < A.length) (hwA : wf 1 (nth A i)) (hB : RWS 16 rs B) (hj : j < B.length) (hwB : wf 1 (nth B j)) (hh : 512 ≤ hdc (nth B j)) (ho : hdc (nth B j) / 512 - 1 < no) :
    fx_X9_couldFit n rt rs ga (nI j) (nI i) = some (if cld so un no (nth A i) (nth B j) = true then 1 else 0) := by
  have h10 := hg.1
  have la := wf_pos hwA
  have lb := wf_pos hwB
  have ca := fx_cellAt_c (n := n) (k := 0) (by decide) hA hi la
  have cb := fx_cellAt_c (n := n) (k := 0) (by decide) hB hj lb
  have ga0 : gb (nth A i) 0 = hdc (nth A i) := by
    unfold gb hdc
    cases nth A i with
    | nil => rfl
    | cons c l => rfl
  have gb0 : gb (nth B j) 0 = hdc (nth B j) := by
    unfold gb hdc
    cases nth B j with
    | nil => rfl
    | cons c l => rfl
  have kA : cck (hdc (nth A i)) := by
    rw [← ga0]
    exact (hA.2.2 i hi).2.2.1 _ (gb_mem la)
  have kB : cck (hdc (nth B j)) := by
    rw [← gb0]
    exact (hB.2.2 j hj).2.2.1 _ (gb_mem lb)
  rw [ga0] at ca
  rw [gb0] at cb
  have e0 : nI 0 = (0 : Int32) := rfl
  rw [e0] at ca cb
  unfold fx_X9_couldFit
  rw [cb, xb1_s, fx_operatorIn_c kB, xb1_s, ca, xb1_s, fx_operatorIn_c kA, xb1_s]
  have rest : ∀ z : Bool, z = decide (opI (hdc (nth A i)) = opI (hdc (nth B j))) → jx_X9_couldFit_34 n rt rs ga (nI j) (nI i) (opI (hdc (nth B j))) (if z = true then 1 else 0) = some (if cld so un no (nth A i) (nth B j) = true then 1 else 0) := fun z hz => by
    unfold jx_X9_couldFit_34 cld
    have ks := hs2 _ ho
    rw [opI_op hh, fx_kindOf_c hg ho, xb1_s]
    rw [opI_op hh] at hz
    by_cases q : so (hdc (nth B j) / 512 - 1) = 2
    · rw [if_pos (by rw [q]; rfl), if_pos q, fx_unitOf_c hg ho, xb1_s]
      cases u : un (hdc (nth B j) / 512 - 1) with
      | none =>
        have r := lx_couldFit_c (x3 := nI (hdc (nth B j) / 512 - 1)) hn hg hs2 hA hi hwA hB hj hwB no 0 n z (by omega) (by omega)
        rw [show oI none = (-1 : Int32) from rfl, if_pos (by decide), if_pos rfl, ← hz]
        exact r
      | some k =>
        have kn : ¬ oI (some k) < 0 := by
          have l := (hsv.2.2.2 _ _ u).2.1
          rw [show oI (some k) = nI k from rfl, show (0 : Int32) = nI 0 from rfl, nI_lt_iff (by omega) (by decide)]
          omega
        rw [if_neg kn, if_neg (show ¬ (some k = none) from fun g => nomatch g), if_pos rfl]
    · rw [if_neg (by rw [show (2 : Int32) = nI 2 from rfl, nI_inj (by omega) (by decide)]; exact q), if_neg q, ← hz]
      cases z with
      | true => rw [if_pos rfl, xz_1]
      | false => rw [if_neg (show ¬ (false = true) by decide), xz_0]
  by_cases y : opI (hdc (nth A i)) = opI (hdc (nth B j))
  · rw [if_pos y]
    exact rest true (decide_eq_true y).symm
  · rw [if_neg y]
    exact rest false (decide_eq_false y).symm
theorem lx_could_c {n no nv i : Nat} {xx ga rt rs : Nat → Nat → Int32} {so ma : Nat → Nat} {un : Nat → Option Nat} {nmL : Nat → List Nat} {A : List (List Nat)} {R : RulL} {on : Int32} (hn : 100000 ≤ n) (hg : SGC ga so ma un no nv nmL) (hsv : SV so un ma nv) (hs2 : ∀ q : Nat, q < no → so q ≤ 2) (hno : ∀ q : Nat, so q ≠ 3 → q < no) (hA : RWS 30 rt A) (hi : i < A.length) (hwA : wf 1 (nth A i)) (hB : RWS 16 rs (sdl R)) (hU : RUP so ma un nv R) (hx : xx 0 0 = ron on R.length) :
    ∀ (d k m : Nat) (s : Int32), k + d = R.length → d < m → lx_X9_could_4 n xx rt rs ga (nI i) m s (nI k) = some (orB (cdb so un no R (ron on R.length) (nth A i)) d k s)
  | d, k, 0, s, _, hm => by omega
  | d, k, m + 1, s, hk, hm => by
    have hR8 := hU.1
    show bx_X9_could_4 n xx rt rs ga (nI i) (lx_X9_could_4 n xx rt rs ga (nI i) m) s (nI k) = _
    unfold bx_X9_could_4
    rw [fx_rules_c hB sdl_len, xb1_s]
    cases d with
    | zero =>
      rw [if_pos (by rw [nI_le_iff (by omega) (by omega)]; omega)]; rfl
    | succ d =>
      have kR : k < R.length := by omega
      have rm : rul R k ∈ R := by
        unfold rul
        rw [List.getD_eq_getElem?_getD, List.getElem?_eq_getElem kR]
        exact List.getElem_mem kR
      obtain ⟨ro, t1, t2⟩ := hU.2 _ rm
      obtain ⟨e1, e2⟩ := sdl_get R k
      have e1' : nth (sdl R) (2 * k) = (rul R k).1 := e1
      have l2 : 2 * k < (sdl R).length := by rw [sdl_len]; omega
      have hh : 512 ≤ hdc (nth (sdl R) (2 * k)) := by rw [e1']; exact ro.2.2.2.1
      have ho : hdc (nth (sdl R) (2 * k)) / 512 - 1 < no := by
        rw [e1'] at hh ⊢
        have tw := t1.1.1.1
        cases q : (rul R k).1 with
        | nil => rw [q] at tw; exact absurd tw.symm (by decide)
        | cons c l =>
          rw [q] at hh t1
          have hc := t1.2.2 c (List.mem_cons_self ..)
          rcases hc with g | ⟨_, _, g, _⟩
          · have : 512 ≤ c := hh
            have := hsv.1
            omega
          · exact hno _ g
      have cf := fx_couldFit_c (n := n) hn hg hsv hs2 hA hi hwA hB l2 (by rw [e1']; exact t1.1.1.1) hh ho
      rw [e1'] at cf
      have ob : ((xx 0 0 >>> (nI k &&& 31)) &&& 1) = if onb (ron on R.length) k = true then 1 else 0 := by
        rw [hx, hb_sh (by omega), onb_hb (by omega)]
      have step : orB (cdb so un no R (ron on R.length) (nth A i)) (d + 1) k s = orB (cdb so un no R (ron on R.length) (nth A i)) d (k + 1) (if (onb (ron on R.length) k && cld so un no (nth A i) (rul R k).1) = true then s ||| ((1 : Int32) <<< (nI k &&& 31)) else s) := rfl
      rw [if_neg (by rw [nI_le_iff (by omega) (by omega)]; omega), xl_eq, xl_eq, ob, step]
      cases y : onb (ron on R.length) k with
      | false =>
        rw [if_neg (show ¬ (false = true) by decide), if_pos rfl, xl_eq, nI_1, Bool.false_and, if_neg (show ¬ (false = true) by decide)]
        exact lx_could_c hn hg hsv hs2 hno hA hi hwA hB hU hx d (k + 1) m s (by omega) (by omega)
      | true =>
        rw [if_pos rfl, if_neg (show ¬ (1 : Int32) = 0 by decide), xl_eq, show (2 : Int32) = nI 2 from rfl, nI_mul (by omega) (by decide) (by omega), cf, xb1_s, Bool.true_and]
        cases c : cld so un no (nth A i) (rul R k).1 with
        | false =>
          rw [if_neg (show ¬ (false = true) by decide), if_pos rfl, xl_eq, nI_1, if_neg (show ¬ (false = true) by decide)]
          exact lx_could_c hn hg hsv hs2 hno hA hi hwA hB hU hx d (k + 1) m s (by omega) (by omega)
        | true =>
          rw [if_pos rfl, if_neg (show ¬ (1 : Int32) = 0 by decide), xl_eq, xl_eq, xl_eq, nI_1, if_pos rfl]
          exact lx_could_c hn hg hsv hs2 hno hA hi hwA hB hU hx d (k + 1) m _ (by omega) (by omega)
theorem fx_about_c {n no nv : Nat} {xx ga rt rs : Nat → Nat → Int32} {so ma : Nat → Nat} {un : Nat → Option Nat} {nmL : Nat → List Nat} {A : List (List Nat)} {R : RulL} {on x y : Int32} (hn : 100000 ≤ n) (hg : SGC ga so ma un no nv nmL) (hsv : SV so un ma nv) (hs2 : ∀ q : Nat, q < no → so q ≤ 2) (hno : ∀ q : Nat, so q ≠ 3 → q < no) (hA : RWS 30 rt A) (hwA : ∀ t ∈ A, wf 1 t) (hB : RWS 16 rs (sdl R)) (hU : RUP so ma un nv R) (hx : xx 0 0 = ron on R.length) :
    ∃ (x9 r : Int32) (rt' : Nat → Nat → Int32), fx_X9_about n xx rt rs ga x y = some (x9, r, rt') ∧ RWS 30 rt' A ∧
      ((∃ i w : Nat, (i < A.length ∧ x = nI i) ∧ (w < 9 ∧ y = nI w) ∧ r = abt so un no R (ron on R.length) (nth A i) w ∧ x9 = 0) ∨ (isn x A.length ∧ ¬ isn y 9 ∧ r = 0 ∧ x9 = 4) ∨ (¬ isn x A.length ∧ r = 0 ∧ x9 = 3)) := by
  have hAl := hA.1
  unfold fx_X9_about
  rw [fx_checkTerm_c hA, xb1_s]
  by_cases h : isn x A.length
  · obtain ⟨i, i1, i2⟩ := isn_of (by omega) h
    have tw := hwA _ (nth_mem i1)
    have la := wf_pos tw
    have ca := fx_cellAt_c (n := n) (k := 0) (by decide) hA i1 la
    have ga0 : gb (nth A i) 0 = hdc (nth A i) := by
      unfold gb hdc
      cases nth A i with
      | nil => rfl
      | cons c l => rfl
    have kA : cck (hdc (nth A i)) := by
      rw [← ga0]
      exact (hA.2.2 i i1).2.2.1 _ (gb_mem la)
    rw [ga0, show nI 0 = (0 : Int32) from rfl] at ca
    rw [if_pos h, if_pos rfl, i2, ca, xb1_s]
    by_cases hy : isn y 9
    · obtain ⟨w, w1, w2⟩ := isn_of (by decide) hy
      rw [w2, nI_toInt (by omega)]
      have fin : ∀ (o : Option (Int32 × Int32 × (Nat → Nat → Int32))) (rt' : Nat → Nat → Int32), o = some (0, abt so un no R (ron on R.length) (nth A i) w, rt') → RWS 30 rt' A → ∃ (x9 r : Int32) (rt' : Nat → Nat → Int32), o = some (x9, r, rt') ∧ RWS 30 rt' A ∧ ((∃ i' w' : Nat, (i' < A.length ∧ nI i = nI i') ∧ (w' < 9 ∧ nI w = nI w') ∧ r = abt so un no R (ron on R.length) (nth A i') w' ∧ x9 = 0) ∨ (isn (nI i) A.length ∧ ¬ isn (nI w) 9 ∧ r = 0 ∧ x9 = 4) ∨ (¬ isn (nI i) A.length ∧ r = 0 ∧ x9 = 3)) := fun o rt' e1 e2 => ⟨0, _, rt', e1, e2, Or.inl ⟨i, w, ⟨i1, rfl⟩, ⟨w1, rfl⟩, rfl, rfl⟩⟩
      have hw9 : w = 0 ∨ w = 1 ∨ w = 2 ∨ w = 3 ∨ w = 4 ∨ w = 5 ∨ w = 6 ∨ w = 7 ∨ w = 8 := by omega
      rcases hw9 with rfl | rfl | rfl | rfl | rfl | rfl | rfl | rfl | rfl
      · refine fin _ rt ?_ hA
        rw [if_neg (by decide), if_pos (by decide), fx_operatorIn_c kA, xb1_s]; rfl
      · refine fin _ rt ?_ hA
        rw [if_neg (by decide), if_neg (by decide), if_pos (by decide)]
        have e : abt so un no R (ron on R.length) (nth A i) 1 = if hdc (nth A i) < 512 then nI (hdc (nth A i)) else -1 := rfl
        rw [e]
        by_cases q : hdc (nth A i) < 512
        · rw [if_neg (fun g => (le8 kA).mp g q), if_pos q, cc_v q]
        · rw [if_pos ((le8 kA).mpr q), if_neg q]
      · refine fin _ rt ?_ hA
        rw [if_neg (by decide), if_neg (by decide), if_neg (by decide), if_pos (by decide), fx_partsIn_c kA, xb1_s]; rfl
      · refine fin _ rt ?_ hA
        rw [if_neg (by decide), if_neg (by decide), if_neg (by decide), if_neg (by decide), if_pos (by decide), fx_lengthOf_c (by decide) hA i1, xb1_s]; rfl
      · obtain ⟨rt', d1, d2⟩ := fx_depthOf_c (n := n) hn (by decide) hA i1 tw
        refine fin _ rt' ?_ d2
        rw [if_neg (by decide), if_neg (by decide), if_neg (by decide), if_neg (by decide), if_neg (by decide), if_pos (by decide), d1, xb2_s]; rfl
      · refine fin _ rt ?_ hA
        rw [if_neg (by decide), if_neg (by decide), if_neg (by decide), if_neg (by decide), if_neg (by decide), if_neg (by decide), if_pos (by decide), fx_variablesIn_c hn (by decide) hA i1, xb1_s]; rfl
      · refine fin _ rt ?_ hA
        rw [if_neg (by decide), if_neg (by decide), if_neg (by decide), if_neg (by decide), if_neg (by decide), if_neg (by decide), if_neg (by decide), if_pos (by decide), fx_operatorsIn_c hn (by decide) hA i1, xb1_s]; rfl
      · refine fin _ rt ?_ hA
        have co : fx_X9_could n xx rt rs ga (nI i) = some (orB (cdb so un no R (ron on R.length) (nth A i)) R.length 0 0) := lx_could_c hn hg hsv hs2 hno hA i1 tw hB hU hx R.length 0 n 0 (by omega) (by have := hU.1; omega)
        rw [if_neg (by decide), if_neg (by decide), if_neg (by decide), if_neg (by decide), if_neg (by decide), if_neg (by decide), if_neg (by decide), if_neg (by decide), if_pos (by decide), co, xb1_s]; rfl
      · refine fin _ rt ?_ hA
        rw [if_neg (by decide), if_neg (by decide), if_neg (by decide), if_neg (by decide), if_neg (by decide), if_neg (by decide), if_neg (by decide), if_neg (by decide), if_neg (by decide), if_pos (by decide), fx_timesOf_c hn (by decide) hA i1, xb1_s]; rfl
    · have : y.toInt < 0 ∨ 8 < y.toInt := by
        unfold isn at hy
        omega
      rw [if_pos this]
      refine ⟨_, _, _, rfl, hA, Or.inr (Or.inl ⟨by rw [← i2]; exact h, hy, rfl, rfl⟩)⟩
  · rw [if_neg h, if_neg (by decide)]
    exact ⟨_, _, _, rfl, hA, Or.inr (Or.inr ⟨h, rfl, rfl⟩)⟩
