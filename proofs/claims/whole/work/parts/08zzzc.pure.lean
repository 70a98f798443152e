/-! ===== lasting bits; operators and variables added ===== -/
theorem hb_sh {x : Int32} {h : Nat} (hh : h < 32) : ((x >>> (nI h &&& 31)) &&& 1) = if hb x h = true then 1 else 0 := by
  have key : ∀ k : Fin 32, ((nI k.val &&& 31).toBitVec.smod 32).toNat = k.val := by decide +kernel
  have one : ∀ k : Fin 32, (1 : Int32).toBitVec.getLsbD k.val = decide (k.val = 0) := by decide +kernel
  have k1 : ((nI h &&& 31).toBitVec.smod 32).toNat = h := key ⟨h, hh⟩
  apply Int32.toBitVec_inj.mp
  rw [Int32.toBitVec_and, Int32.toBitVec_shiftRight]
  unfold BitVec.sshiftRight'
  rw [k1]
  apply BitVec.eq_of_getLsbD_eq
  intro i hi
  have o1 : (1 : Int32).toBitVec.getLsbD i = decide (i = 0) := one ⟨i, hi⟩
  rw [BitVec.getLsbD_and, o1]
  by_cases z : i = 0
  · subst z
    rw [BitVec.getLsbD_sshiftRight, Nat.add_zero, if_pos hh]
    show (!decide (32 ≤ 0) && hb x h && decide (0 = 0)) = _
    cases y : hb x h with
    | true => decide
    | false => decide
  · rw [decide_eq_false z, Bool.and_false]
    cases y : hb x h with
    | true =>
      show false = (1 : Int32).toBitVec.getLsbD i
      rw [o1, decide_eq_false z]
    | false =>
      show false = (0#32).getLsbD i
      rw [BitVec.getLsbD_zero]
theorem hb_or2 {a b : Int32} {v : Nat} : hb (a ||| b) v = (hb a v || hb b v) := by
  unfold hb
  rw [Int32.toBitVec_or, BitVec.getLsbD_or]
theorem hb_and2 {a b : Int32} {v : Nat} : hb (a &&& b) v = (hb a v && hb b v) := by
  unfold hb
  rw [Int32.toBitVec_and, BitVec.getLsbD_and]
theorem hb_shl : ∀ h v : Fin 32, hb ((1 : Int32) <<< (nI h.val &&& 31)) v.val = decide (v.val = h.val) := by decide +kernel
theorem hb_nshl : ∀ h v : Fin 32, hb (((1 : Int32) <<< (nI h.val &&& 31)) ^^^ (-1)) v.val = decide (v.val ≠ h.val) := by decide +kernel
theorem hb_zero : ∀ v : Fin 32, hb 0 v.val = false := by decide +kernel
theorem hb_m1 : ∀ v : Fin 32, hb (-1) v.val = true := by decide +kernel
theorem hb_31 : ∀ v : Fin 32, hb 31 v.val = decide (v.val < 5) := by decide +kernel
/-- the bits of what lasts -/
def LBW (x : Int32) (ops : List OpE) : Prop := ∀ h : Nat, h < 15 → (hb x h = true ↔ h < 5 ∨ (5 ≤ h ∧ h - 5 < ops.length ∧ (opN ops (h - 5)).2.1 ≠ 2 ∧ ∀ p : Nat, p < ops.length → (opN ops p).2.2.2 ≠ some (h - 5)))
theorem LBW_nil : LBW 31 [] := fun h hh => by
  have e : hb 31 h = decide (h < 5) := hb_31 ⟨h, by omega⟩
  rw [e, decide_eq_true_eq]
  constructor
  · exact Or.inl
  · rintro (g | ⟨_, g, _⟩)
    · exact g
    · exact absurd g (Nat.not_lt_zero _)
/-- a signature as the class reads it -/
def SGW (ga : Nat → Nat → Int32) (ops : List OpE) (vs : List (List Nat)) : Prop := SGC ga (soF ops) (maF ops) (unF ops) ops.length vs.length (nmF ops vs) ∧ LBW (ga 0 2) ops ∧ NMD (nmF ops vs) ops.length vs.length ∧ OPS ops vs
theorem soF_app {ops : List OpE} {x : OpE} {i : Nat} (h : i < ops.length) : soF (ops ++ [x]) i = soF ops i ∧ maF (ops ++ [x]) i = maF ops i ∧ unF (ops ++ [x]) i = unF ops i := by
  have el : (ops ++ [x]).length = ops.length + 1 := by simp
  unfold soF maF unF
  rw [el, if_pos (show i < ops.length + 1 by omega), if_pos (show i < ops.length + 1 by omega), if_pos (show i < ops.length + 1 by omega), if_pos h, if_pos h, if_pos h, opN_app1 h]
  exact ⟨rfl, rfl, rfl⟩
theorem soF_new {ops : List OpE} {x : OpE} : soF (ops ++ [x]) ops.length = x.2.1 ∧ maF (ops ++ [x]) ops.length = x.2.2.1 ∧ unF (ops ++ [x]) ops.length = x.2.2.2 := by
  have el : (ops ++ [x]).length = ops.length + 1 := by simp
  unfold soF maF unF
  rw [el, if_pos (show ops.length < ops.length + 1 by omega), if_pos (show ops.length < ops.length + 1 by omega), if_pos (show ops.length < ops.length + 1 by omega), opN_app2]
  exact ⟨rfl, rfl, rfl⟩
theorem LBW_op {x y : Int32} {ops : List OpE} {w : List Nat} {st m : Nat} {u : Option Nat} (h : LBW x ops) (h10 : ops.length < 10) (hu : ∀ k : Nat, u = some k → k < ops.length) (ho : ∀ p : Nat, p < ops.length → ∀ k : Nat, (opN ops p).2.2.2 = some k → k < ops.length)
    (hy : ∀ v : Nat, v < 15 → (hb y v = true ↔ (hb x v = true ∨ (st ≠ 2 ∧ v = 5 + ops.length)) ∧ ∀ k : Nat, u = some k → v ≠ 5 + k)) : LBW y (ops ++ [(w, st, m, u)]) := fun v hv => by
  have el : (ops ++ [(w, st, m, u)]).length = ops.length + 1 := by simp
  rw [hy v hv, h v hv, el]
  constructor
  · rintro ⟨(g | ⟨g1, g2, g3, g4⟩) | ⟨g1, g2⟩, z⟩
    · exact Or.inl g
    · refine Or.inr ⟨g1, by omega, by rw [opN_app1 g2]; exact g3, fun p hp e => ?_⟩
      by_cases q : p = ops.length
      · rw [q, opN_app2] at e
        exact z _ e (by omega)
      · rw [opN_app1 (by omega)] at e
        exact g4 p (by omega) e
    · refine Or.inr ⟨by omega, by omega, by rw [show v - 5 = ops.length by omega, opN_app2]; exact g1, fun p hp e => ?_⟩
      by_cases q : p = ops.length
      · rw [q, opN_app2] at e
        have := hu _ e
        omega
      · rw [opN_app1 (by omega)] at e
        have := ho p (by omega) _ e
        omega
  · rintro (g | ⟨g1, g2, g3, g4⟩)
    · exact ⟨Or.inl (Or.inl g), fun k hk => by omega⟩
    · have zu : ∀ k : Nat, u = some k → v ≠ 5 + k := fun k hk e => by
        have := g4 ops.length (by omega)
        rw [opN_app2] at this
        exact this (by show u = _; rw [hk]; exact congrArg some (by omega))
      refine ⟨?_, zu⟩
      by_cases q : v - 5 = ops.length
      · rw [q, opN_app2] at g3
        exact Or.inr ⟨g3, by omega⟩
      · rw [opN_app1 (by omega)] at g3
        exact Or.inl (Or.inr ⟨g1, by omega, g3, fun p hp e => g4 p (by omega) (by rw [opN_app1 hp]; exact e)⟩)
theorem OPS_un {ops : List OpE} {vs : List (List Nat)} (h : OPS ops vs) : ∀ p : Nat, p < ops.length → ∀ k : Nat, (opN ops p).2.2.2 = some k → k < ops.length := fun p hp k hk => by
  obtain ⟨h1, h2, h3, h4⟩ := h.1 p hp
  by_cases z0 : (opN ops p).2.1 = 0
  · rw [(h2 z0).2] at hk; exact nomatch hk
  · by_cases z1 : (opN ops p).2.1 = 1
    · rw [(h3 z1).2] at hk; exact nomatch hk
    · exact ((h4 (by omega)).2 k hk).1
theorem SGC_op {ga gb' : Nat → Nat → Int32} {ops : List OpE} {vs : List (List Nat)} {w : List Nat} {st m : Nat} {u : Option Nat} (hg : SGC ga (soF ops) (maF ops) (unF ops) ops.length vs.length (nmF ops vs)) (h10 : ops.length < 10)
    (e0 : gb' 0 0 = nI (ops.length + 1)) (e00 : gb' 0 1 = ga 0 1) (e1 : gb' 1 = upd (ga 1) ops.length (nI (wnu w))) (e2 : gb' 2 = upd (ga 2) ops.length (nI st)) (e3 : gb' 3 = upd (ga 3) ops.length (nI m)) (e4 : gb' 4 = upd (ga 4) ops.length (oI u)) (e5 : gb' 5 = ga 5) :
    SGC gb' (soF (ops ++ [(w, st, m, u)])) (maF (ops ++ [(w, st, m, u)])) (unF (ops ++ [(w, st, m, u)])) (ops ++ [(w, st, m, u)]).length vs.length (nmF (ops ++ [(w, st, m, u)]) vs) := by
  have el : (ops ++ [(w, st, m, u)]).length = ops.length + 1 := by simp
  obtain ⟨g1, g2, g3, g4, g5, g6⟩ := hg
  rw [el]
  refine ⟨by omega, g2, e0, e00.trans g4, fun o ho => ?_, fun j hj => ?_⟩
  · by_cases q : o = ops.length
    · subst q
      obtain ⟨s1, s2, s3⟩ := soF_new (ops := ops) (x := (w, st, m, u))
      rw [e1, e2, e3, e4, upd_eq, upd_eq, upd_eq, upd_eq, s1, s2, s3, nmF_opn h10]
      exact ⟨rfl, rfl, rfl, rfl⟩
    · obtain ⟨s1, s2, s3⟩ := soF_app (ops := ops) (x := (w, st, m, u)) (i := o) (by omega)
      obtain ⟨t1, t2⟩ := nmF_opo (vs := vs) (x := (w, st, m, u)) q h10 (nmv_op.mpr (Or.inl ho))
      rw [e1, e2, e3, e4, upd_ne q, upd_ne q, upd_ne q, upd_ne q, s1, s2, s3, t1]
      exact g5 o (by omega)
  · obtain ⟨t1, t2⟩ := nmF_opo (vs := vs) (x := (w, st, m, u)) (i := 10 + j) (by omega) h10 (nmv_op.mpr (Or.inr ⟨by omega, by omega⟩))
    rw [e5, t1]
    exact g6 j hj
theorem NMD_op {ops : List OpE} {vs : List (List Nat)} {w : List Nat} {st m : Nat} {u : Option Nat} (h : NMD (nmF ops vs) ops.length vs.length) (h10 : ops.length < 10) (hn : isNm w = true) (hw : ∀ c ∈ w, 97 ≤ c ∧ c ≤ 122) : NMD (nmF (ops ++ [(w, st, m, u)]) vs) (ops ++ [(w, st, m, u)]).length vs.length := fun i hi => by
  have el : (ops ++ [(w, st, m, u)]).length = ops.length + 1 := by simp
  rw [el] at hi
  by_cases q : i = ops.length
  · subst q
    rw [nmF_opn h10]
    obtain ⟨h1, h2⟩ := isNm_iff hn
    exact ⟨h1, h2, hw⟩
  · obtain ⟨t1, t2⟩ := nmF_opo (vs := vs) (x := (w, st, m, u)) q h10 hi
    rw [t1]
    exact h i t2
theorem NMD_vs {ops : List OpE} {vs : List (List Nat)} {w : List Nat} (h : NMD (nmF ops vs) ops.length vs.length) (h10 : ops.length ≤ 10) (hn : isNm w = true) (hw : ∀ c ∈ w, 97 ≤ c ∧ c ≤ 122) : NMD (nmF ops (vs ++ [w])) ops.length (vs ++ [w]).length := fun i hi => by
  have el : (vs ++ [w]).length = vs.length + 1 := by simp
  rw [el] at hi
  by_cases q : i = 10 + vs.length
  · rw [q, nmF_vsn]
    obtain ⟨h1, h2⟩ := isNm_iff hn
    exact ⟨h1, h2, hw⟩
  · obtain ⟨t1, t2⟩ := nmF_vso (w := w) q h10 hi
    rw [t1]
    exact h i t2
theorem fx_addOperator_c {n : Nat} {ga : Nat → Nat → Int32} {ops : List OpE} {vs : List (List Nat)} {w : List Nat} {st m : Nat} {u : Option Nat} (hg : SGW ga ops vs) (h10 : ops.length < 10) (hw : ∀ c ∈ w, 97 ≤ c ∧ c ≤ 122) (hn : isNm w = true) (hnew : newn ops vs w = none) (h2 : st ≤ 2) (h0 : st = 0 → m ≤ 3 ∧ u = none) (h1 : st = 1 → m = 2 ∧ u = none) (h3 : st = 2 → m = 2 ∧ ∀ k : Nat, u = some k → k < ops.length ∧ (opN ops k).2.1 = 0 ∧ (opN ops k).2.2.1 = 0) :
    ∃ ga' : Nat → Nat → Int32, fx_X5_addOperator n ga (nI (wv w)) (nI st) (nI m) (oI u) = some ga' ∧ SGW ga' (ops ++ [(w, st, m, u)]) vs := by
  obtain ⟨g1, g2, g3, g4⟩ := hg
  have c00 := g1.2.2.1
  have hu : ∀ k : Nat, u = some k → k < ops.length := fun k hk => by
    by_cases z0 : st = 0
    · rw [(h0 z0).2] at hk; exact nomatch hk
    · by_cases z1 : st = 1
      · rw [(h1 z1).2] at hk; exact nomatch hk
      · exact ((h3 (by omega)).2 k hk).1
  have ho := OPS_un g4
  have hops := OPS_op g4 h10 g1.2.1 hn hnew h2 h0 h1 h3
  have hnmd := NMD_op (st := st) (m := m) (u := u) g3 h10 hn hw
  have ewv : wv w = wnu w := if_pos (isNm_iff hn).2
  unfold fx_X5_addOperator
  rw [c00, if_neg (by rw [show (0 : Int32) = nI 0 from rfl, nI_lt_iff (by omega) (by decide)]; omega), if_neg (by rw [show (10 : Int32) = nI 10 from rfl, nI_le_iff (by decide) (by omega)]; omega), xwp_n h10 (by decide)]
  rw [show (mu ga 1 ops.length (nI (wv w))) 0 0 = nI ops.length by rw [mu_ne (by decide)]; exact c00, xwp_n h10 (by decide)]
  rw [show (mu (mu ga 1 ops.length (nI (wv w))) 2 ops.length (nI st)) 0 0 = nI ops.length by rw [mu_ne (by decide), mu_ne (by decide)]; exact c00, xwp_n h10 (by decide)]
  rw [show (mu (mu (mu ga 1 ops.length (nI (wv w))) 2 ops.length (nI st)) 3 ops.length (nI m)) 0 0 = nI ops.length by rw [mu_ne (by decide), mu_ne (by decide), mu_ne (by decide)]; exact c00, xwp_n h10 (by decide)]
  generalize hM : mu (mu (mu (mu ga 1 ops.length (nI (wv w))) 2 ops.length (nI st)) 3 ops.length (nI m)) 4 ops.length (oI u) = M
  have m0 : M 0 = ga 0 := by rw [← hM, mu_ne (by decide), mu_ne (by decide), mu_ne (by decide), mu_ne (by decide)]
  have m1 : M 1 = upd (ga 1) ops.length (nI (wnu w)) := by rw [← hM, mu_ne (by decide), mu_ne (by decide), mu_ne (by decide), mu_eq, ewv]
  have m2 : M 2 = upd (ga 2) ops.length (nI st) := by rw [← hM, mu_ne (by decide), mu_ne (by decide), mu_eq, mu_ne (by decide)]
  have m3 : M 3 = upd (ga 3) ops.length (nI m) := by rw [← hM, mu_ne (by decide), mu_eq, mu_ne (by decide), mu_ne (by decide)]
  have m4 : M 4 = upd (ga 4) ops.length (oI u) := by rw [← hM, mu_eq, mu_ne (by decide), mu_ne (by decide), mu_ne (by decide)]
  have m5 : M 5 = ga 5 := by rw [← hM, mu_ne (by decide), mu_ne (by decide), mu_ne (by decide), mu_ne (by decide)]
  clear hM
  -- the end, whatever the bits
  have fin : ∀ z2 : Int32, (∀ v : Nat, v < 15 → (hb z2 v = true ↔ (st ≠ 2 ∧ v = 5 + ops.length))) → ∃ ga' : Nat → Nat → Int32, jx_X5_addOperator_79 n (nI (wv w)) (nI st) (nI m) (oI u) (M 0 2) z2 M = some ga' ∧ SGW ga' (ops ++ [(w, st, m, u)]) vs := fun z2 hz2 => by
    unfold jx_X5_addOperator_79
    simp only [xl_eq]
    have last : ∀ y : Int32, (∀ v : Nat, v < 15 → (hb y v = true ↔ (hb (M 0 2 ||| z2) v = true ∧ ∀ k : Nat, u = some k → v ≠ 5 + k))) → SGW (mu (mu (mu M 0 2 (M 0 2 ||| z2)) 0 2 y) 0 0 ((mu (mu M 0 2 (M 0 2 ||| z2)) 0 2 y) 0 0 + 1)) (ops ++ [(w, st, m, u)]) vs := fun y hy => by
      have ne : ∀ a : Nat, a ≠ 0 → (mu (mu (mu M 0 2 (M 0 2 ||| z2)) 0 2 y) 0 0 ((mu (mu M 0 2 (M 0 2 ||| z2)) 0 2 y) 0 0 + 1)) a = M a := fun a ha => by rw [mu_ne ha, mu_ne ha, mu_ne ha]
      refine ⟨SGC_op g1 h10 ?_ ?_ (by rw [ne 1 (by decide)]; exact m1) (by rw [ne 2 (by decide)]; exact m2) (by rw [ne 3 (by decide)]; exact m3) (by rw [ne 4 (by decide)]; exact m4) (by rw [ne 5 (by decide)]; exact m5), LBW_op (x := ga 0 2) g2 h10 hu ho (fun v hv => ?_), hnmd, hops⟩
      · rw [mu0_eq, mu0_ne (by decide), mu0_ne (by decide), m0, c00, nI_1]
      · rw [mu0_ne (by decide), mu0_ne (by decide), mu0_ne (by decide), m0]
      · rw [mu0_ne (by decide), mu0_eq, hy v hv, hb_or2, Bool.or_eq_true, hz2 v hv, m0]
    cases hu0 : u with
    | none =>
      rw [show oI none = (-1 : Int32) from rfl, if_neg (by decide)]
      rw [hu0] at last
      refine ⟨_, rfl, last _ (fun v hv => ?_)⟩
      have e1 : hb (-1) v = true := hb_m1 ⟨v, by omega⟩
      rw [mu0_eq, hb_and2, e1, Bool.and_true]
      exact ⟨fun g => ⟨g, fun k hk => nomatch hk⟩, fun g => g.1⟩
    | some k =>
      have hk := hu k hu0
      rw [show oI (some k) = nI k from rfl, if_pos (by rw [show (0 : Int32) = nI 0 from rfl, nI_le_iff (by decide) (by omega)]; omega)]
      rw [hu0] at last
      refine ⟨_, rfl, last _ (fun v hv => ?_)⟩
      have e1 : hb (((1 : Int32) <<< (nI (5 + k) &&& 31)) ^^^ (-1)) v = decide (v ≠ 5 + k) := hb_nshl ⟨5 + k, by omega⟩ ⟨v, by omega⟩
      rw [mu0_eq, show (5 : Int32) = nI 5 from rfl, nI_add, hb_and2, e1, Bool.and_eq_true, decide_eq_true_eq]
      exact ⟨fun g => ⟨g.1, fun k' hk' => by rw [← Option.some.inj hk']; exact g.2⟩, fun g => ⟨g.1, g.2 k rfl⟩⟩
  by_cases z : st = 2
  · rw [if_pos (by rw [z]; rfl)]
    refine fin 0 (fun v hv => ?_)
    have e1 : hb 0 v = false := hb_zero ⟨v, by omega⟩
    rw [e1]
    exact ⟨fun g => absurd g (by decide), fun g => absurd z g.1⟩
  · rw [if_neg (by rw [show (2 : Int32) = nI 2 from rfl, nI_inj (by omega) (by decide)]; exact z), xl_eq, xl_eq]
    refine fin _ (fun v hv => ?_)
    have e1 : hb ((1 : Int32) <<< (nI (5 + ops.length) &&& 31)) v = decide (v = 5 + ops.length) := hb_shl ⟨5 + ops.length, by omega⟩ ⟨v, by omega⟩
    rw [m0, c00, show (5 : Int32) = nI 5 from rfl, nI_add, e1, decide_eq_true_eq]
    exact ⟨fun g => ⟨z, g⟩, fun g => g.2⟩
theorem fx_addVariable_c {n : Nat} {ga : Nat → Nat → Int32} {ops : List OpE} {vs : List (List Nat)} {w : List Nat} (hg : SGW ga ops vs) (h5 : vs.length < 5) (hw : ∀ c ∈ w, 97 ≤ c ∧ c ≤ 122) (hn : isNm w = true) (hnew : newn ops vs w = none) :
    ∃ ga' : Nat → Nat → Int32, fx_X5_addVariable n ga (nI (wv w)) = some ga' ∧ SGW ga' ops (vs ++ [w]) := by
  obtain ⟨g1, g2, g3, g4⟩ := hg
  obtain ⟨s1, s2, s3, s4, s5, s6⟩ := g1
  have el : (vs ++ [w]).length = vs.length + 1 := by simp
  have ewv : wv w = wnu w := if_pos (isNm_iff hn).2
  unfold fx_X5_addVariable
  rw [s4, if_neg (by rw [show (0 : Int32) = nI 0 from rfl, nI_lt_iff (by omega) (by decide)]; omega), if_neg (by rw [show (5 : Int32) = nI 5 from rfl, nI_le_iff (by decide) (by omega)]; omega), xwp_n h5 (by decide), xl_eq, xl_eq]
  rw [show (mu ga 5 vs.length (nI (wv w))) 0 1 = nI vs.length by rw [mu_ne (by decide)]; exact s4, nI_1]
  refine ⟨_, rfl, ⟨s1, by omega, ?_, ?_, fun o ho => ?_, fun j hj => ?_⟩, ?_, NMD_vs g3 s1 hn hw, OPS_vs g4 s1 h5 hn hnew⟩
  · rw [mu0_ne (by decide), mu_ne (by decide)]; exact s3
  · rw [mu0_eq, el]
  · rw [mu_ne (by decide), mu_ne (by decide), mu_ne (by decide), mu_ne (by decide), mu_ne (by decide), mu_ne (by decide), mu_ne (by decide), mu_ne (by decide)]
    obtain ⟨t1, t2⟩ := nmF_vso (ops := ops) (vs := vs) (w := w) (i := o) (by omega) s1 (nmv_op.mpr (Or.inl ho))
    rw [t1]
    exact s5 o ho
  · rw [el] at hj
    rw [mu_ne (by decide), mu_eq]
    by_cases q : j = vs.length
    · rw [q, upd_eq, nmF_vsn, ewv]
    · obtain ⟨t1, t2⟩ := nmF_vso (ops := ops) (vs := vs) (w := w) (i := 10 + j) (by omega) s1 (nmv_op.mpr (Or.inr ⟨by omega, by omega⟩))
      rw [upd_ne q, t1]
      exact s6 j (by omega)
  · rw [mu0_ne (by decide), mu_ne (by decide)]; exact g2
