/-! ===== operators and variables added ===== -/
theorem nam_none {nmL : Nat → List Nat} {no nv : Nat} {w : List Nat} : ∀ {d k : Nat}, nam nmL no nv w d k = none → ∀ i : Nat, k ≤ i → i < k + d → nmv no nv i = true → nmL i ≠ w
  | 0, k, _, i, h1, h2, _ => by omega
  | d + 1, k, h, i, h1, h2, h3 => by
    have h' : (if nmv no nv k && decide (nmL k = w) then some k else nam nmL no nv w d (k + 1)) = none := h
    by_cases q : (nmv no nv k && decide (nmL k = w)) = true
    · rw [if_pos q] at h'; exact absurd h' (by simp)
    · rw [if_neg q] at h'
      by_cases e : i = k
      · intro z
        rw [e] at h3 z
        exact q (by rw [h3, decide_eq_true z]; rfl)
      · exact nam_none h' i (by omega) (by omega) h3
theorem nmv_lt {no nv i : Nat} (h : nmv no nv i = true) (h1 : no ≤ 10) (h2 : nv ≤ 5) : i < 15 := by
  unfold nmv at h
  rcases Bool.or_eq_true_iff.mp h with g | g
  · rw [decide_eq_true_eq] at g; omega
  · rw [Bool.and_eq_true, decide_eq_true_eq, decide_eq_true_eq] at g; omega
theorem nmv_op {no nv i : Nat} : nmv no nv i = true ↔ i < no ∨ (10 ≤ i ∧ i < 10 + nv) := by
  unfold nmv
  rw [Bool.or_eq_true_iff, decide_eq_true_eq, Bool.and_eq_true, decide_eq_true_eq, decide_eq_true_eq]
  constructor
  · rintro (h | ⟨h, h'⟩)
    · exact Or.inl h
    · exact Or.inr (by omega)
  · rintro (h | ⟨h, h'⟩)
    · exact Or.inl h
    · exact Or.inr (by omega)
theorem nmF_opo {ops : List OpE} {vs : List (List Nat)} {x : OpE} {i : Nat} (h : i ≠ ops.length) (h10 : ops.length < 10) (hv : nmv (ops.length + 1) vs.length i = true) : nmF (ops ++ [x]) vs i = nmF ops vs i ∧ nmv ops.length vs.length i = true := by
  unfold nmF
  rcases nmv_op.mp hv with g | g
  · rw [if_pos (by omega), if_pos (by omega), opN_app1 (by omega)]
    exact ⟨rfl, nmv_op.mpr (Or.inl (by omega))⟩
  · rw [if_neg (by omega), if_neg (by omega)]
    exact ⟨rfl, nmv_op.mpr (Or.inr g)⟩
theorem nmF_opn {ops : List OpE} {vs : List (List Nat)} {x : OpE} (h10 : ops.length < 10) : nmF (ops ++ [x]) vs ops.length = x.1 := by
  unfold nmF
  rw [if_pos h10, opN_app2]
theorem nmF_vso {ops : List OpE} {vs : List (List Nat)} {w : List Nat} {i : Nat} (h : i ≠ 10 + vs.length) (h10 : ops.length ≤ 10) (hv : nmv ops.length (vs.length + 1) i = true) : nmF ops (vs ++ [w]) i = nmF ops vs i ∧ nmv ops.length vs.length i = true := by
  unfold nmF
  rcases nmv_op.mp hv with g | g
  · rw [if_pos (by omega), if_pos (by omega)]
    exact ⟨rfl, nmv_op.mpr (Or.inl g)⟩
  · rw [if_neg (by omega), if_neg (by omega), nth_app1 (by omega)]
    exact ⟨rfl, nmv_op.mpr (Or.inr (by omega))⟩
theorem nmF_vsn {ops : List OpE} {vs : List (List Nat)} {w : List Nat} : nmF ops (vs ++ [w]) (10 + vs.length) = w := by
  unfold nmF
  rw [if_neg (by omega), show 10 + vs.length - 10 = vs.length by omega, nth_app2]
theorem NWR_op {ops : List OpE} {vs : List (List Nat)} {fn fnm fs9 fm9 fu9 fs' fm' fu' : Nat → Int32} {w : List Nat} {st m : Nat} {u : Option Nat} (h : NWR ops vs fn fnm fs9 fm9 fu9) (h10 : ops.length < 10) (hw : w.length ≤ 6) (hc : ∀ c ∈ w, 97 ≤ c ∧ c ≤ 122)
    (h1 : ∀ i : Nat, i ≠ ops.length → fs' i = fs9 i) (h2 : ∀ i : Nat, i ≠ ops.length → fm' i = fm9 i) (h3 : ∀ i : Nat, i ≠ ops.length → fu' i = fu9 i) (e1 : fs' ops.length = nI st) (e2 : fm' ops.length = nI m) (e3 : fu' ops.length = oI u) :
    NWR (ops ++ [(w, st, m, u)]) vs (put fn (6 * ops.length) w) (upd fnm ops.length (nI w.length)) fs' fm' fu' := by
  have el : (ops ++ [(w, st, m, u)]).length = ops.length + 1 := by simp
  refine ⟨by omega, h.2.1, fun i hi => ?_, fun i hi => ?_⟩
  · rw [el] at hi
    by_cases q : i = ops.length
    · subst q
      rw [nmF_opn h10]
      exact ⟨upd_eq _ _ _, put_la, hw, hc⟩
    · obtain ⟨z1, z2⟩ := nmF_opo (x := (w, st, m, u)) q h10 hi
      obtain ⟨y1, y2, y3, y4⟩ := h.2.2.1 i z2
      rw [z1]
      refine ⟨by rw [upd_ne q]; exact y1, la_put ?_ y2, y3, y4⟩
      rcases nmv_op.mp z2 with g | g
      · exact Or.inl (by omega)
      · exact Or.inr (by omega)
  · rw [el] at hi
    by_cases q : i = ops.length
    · subst q
      rw [opN_app2]
      exact ⟨e1, e2, e3⟩
    · rw [opN_app1 (by omega)]
      obtain ⟨y1, y2, y3⟩ := h.2.2.2 i (by omega)
      exact ⟨(h1 i q).trans y1, (h2 i q).trans y2, (h3 i q).trans y3⟩
theorem NWR_vs {ops : List OpE} {vs : List (List Nat)} {fn fnm fs9 fm9 fu9 : Nat → Int32} {w : List Nat} (h : NWR ops vs fn fnm fs9 fm9 fu9) (h5 : vs.length < 5) (hw : w.length ≤ 6) (hc : ∀ c ∈ w, 97 ≤ c ∧ c ≤ 122) :
    NWR ops (vs ++ [w]) (put fn (6 * (10 + vs.length)) w) (upd fnm (10 + vs.length) (nI w.length)) fs9 fm9 fu9 := by
  have el : (vs ++ [w]).length = vs.length + 1 := by simp
  have h10 := h.1
  refine ⟨h.1, by omega, fun i hi => ?_, h.2.2.2⟩
  rw [el] at hi
  by_cases q : i = 10 + vs.length
  · subst q
    rw [nmF_vsn]
    exact ⟨upd_eq _ _ _, put_la, hw, hc⟩
  · obtain ⟨z1, z2⟩ := nmF_vso (w := w) q h10 hi
    obtain ⟨y1, y2, y3, y4⟩ := h.2.2.1 i z2
    rw [z1]
    exact ⟨by rw [upd_ne q]; exact y1, la_put (Or.inl (by rcases nmv_op.mp z2 with g | g <;> omega)) y2, y3, y4⟩
theorem OPS_vs {ops : List OpE} {vs : List (List Nat)} {w : List Nat} (h : OPS ops vs) (h10 : ops.length ≤ 10) (h5 : vs.length < 5) (hn : isNm w = true) (hw : newn ops vs w = none) : OPS ops (vs ++ [w]) := by
  have el : (vs ++ [w]).length = vs.length + 1 := by simp
  have no := nam_none hw
  have ne : ∀ i : Nat, nmv ops.length vs.length i = true → nmF ops vs i ≠ w := fun i hi => no i (Nat.zero_le _) (by have := nmv_lt hi h10 (by omega); omega) hi
  refine ⟨h.1, fun i j hi hj e => ?_, fun i hi => ?_⟩
  · rw [el] at hi hj
    by_cases q : i = 10 + vs.length
    · by_cases q' : j = 10 + vs.length
      · omega
      · obtain ⟨z1, z2⟩ := nmF_vso (w := w) q' h10 hj
        rw [q, nmF_vsn, z1] at e
        exact absurd e.symm (ne j z2)
    · obtain ⟨z1, z2⟩ := nmF_vso (w := w) q h10 hi
      by_cases q' : j = 10 + vs.length
      · rw [q', nmF_vsn, z1] at e
        exact absurd e (ne i z2)
      · obtain ⟨y1, y2⟩ := nmF_vso (w := w) q' h10 hj
        rw [z1, y1] at e
        exact h.2.1 i j z2 y2 e
  · rw [el] at hi
    by_cases q : i = 10 + vs.length
    · rw [q, nmF_vsn]; exact hn
    · obtain ⟨z1, z2⟩ := nmF_vso (w := w) q h10 hi
      rw [z1]; exact h.2.2 i z2
theorem OPS_op {ops : List OpE} {vs : List (List Nat)} {w : List Nat} {st m : Nat} {u : Option Nat} (h : OPS ops vs) (h10 : ops.length < 10) (h5 : vs.length ≤ 5) (hn : isNm w = true) (hw : newn ops vs w = none) (h2 : st ≤ 2) (h0 : st = 0 → m ≤ 3 ∧ u = none) (h1 : st = 1 → m = 2 ∧ u = none) (h3 : st = 2 → m = 2 ∧ ∀ k : Nat, u = some k → k < ops.length ∧ (opN ops k).2.1 = 0 ∧ (opN ops k).2.2.1 = 0) : OPS (ops ++ [(w, st, m, u)]) vs := by
  have el : (ops ++ [(w, st, m, u)]).length = ops.length + 1 := by simp
  have no := nam_none hw
  have ne : ∀ i : Nat, nmv ops.length vs.length i = true → nmF ops vs i ≠ w := fun i hi => no i (Nat.zero_le _) (by have := nmv_lt hi (by omega) h5; omega) hi
  refine ⟨fun i hi => ?_, fun i j hi hj e => ?_, fun i hi => ?_⟩
  · rw [el] at hi
    by_cases q : i = ops.length
    · subst q
      rw [opN_app2]
      refine ⟨h2, h0, h1, fun z => ⟨(h3 z).1, fun k hk => ?_⟩⟩
      obtain ⟨k1, k2, k3⟩ := (h3 z).2 k hk
      rw [opN_app1 k1, el]
      exact ⟨by omega, k2, k3⟩
    · rw [opN_app1 (by omega)]
      obtain ⟨y1, y2, y3, y4⟩ := h.1 i (by omega)
      refine ⟨y1, y2, y3, fun z => ⟨(y4 z).1, fun k hk => ?_⟩⟩
      obtain ⟨k1, k2, k3⟩ := (y4 z).2 k hk
      rw [opN_app1 k1, el]
      exact ⟨by omega, k2, k3⟩
  · rw [el] at hi hj
    by_cases q : i = ops.length
    · by_cases q' : j = ops.length
      · omega
      · obtain ⟨z1, z2⟩ := nmF_opo (x := (w, st, m, u)) q' h10 hj
        rw [q, nmF_opn h10, z1] at e
        exact absurd e.symm (ne j z2)
    · obtain ⟨z1, z2⟩ := nmF_opo (x := (w, st, m, u)) q h10 hi
      by_cases q' : j = ops.length
      · rw [q', nmF_opn h10, z1] at e
        exact absurd e (ne i z2)
      · obtain ⟨y1, y2⟩ := nmF_opo (x := (w, st, m, u)) q' h10 hj
        rw [z1, y1] at e
        exact h.2.1 i j z2 y2 e
  · rw [el] at hi
    by_cases q : i = ops.length
    · rw [q, nmF_opn h10]; exact hn
    · obtain ⟨z1, z2⟩ := nmF_opo (x := (w, st, m, u)) q h10 hi
      rw [z1]; exact h.2.2 i z2
