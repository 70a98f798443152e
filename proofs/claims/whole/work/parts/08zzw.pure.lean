/-! ===== levels: what awaits more parts ===== -/
/-- the levels behind a term without parts, the last one first -/
def lvs : List Nat → List Nat
  | [] => []
  | a :: st => if 1 < a then (a - 1) :: st else lvs st
theorem lvs_len : ∀ (st : List Nat), (lvs st).length ≤ st.length
  | [] => Nat.le_refl _
  | a :: st => by
    show (if 1 < a then (a - 1) :: st else lvs st).length ≤ st.length + 1
    by_cases h : 1 < a
    · rw [if_pos h]; exact Nat.le_refl _
    · rw [if_neg h]; have := lvs_len st; omega
theorem lvs_s {a : Nat} {st : List Nat} (h : 1 < a) : lvs (a :: st) = (a - 1) :: st := if_pos h
theorem lvs_1 {st : List Nat} : lvs (1 :: st) = lvs st := rfl
/-- levels as cells -/
def STK (f : Nat → Int32) : List Nat → Prop
  | [] => True
  | a :: st => f (st.length + 1) = nI a ∧ 1 ≤ a ∧ a ≤ 7 ∧ STK f st
theorem STK_upd {f : Nat → Int32} {i : Nat} {y : Int32} : ∀ {st : List Nat}, STK f st → st.length < i → STK (upd f i y) st
  | [], _, _ => trivial
  | a :: st, h, hi => by
    simp only [List.length_cons] at hi
    exact ⟨by rw [upd_ne (by omega)]; exact h.1, h.2.1, h.2.2.1, STK_upd h.2.2.2 (by omega)⟩
theorem lx_leave_c {n : Nat} {p0 : Int32} : ∀ (st : List Nat) (m : Nat) (v : Nat → Nat → Int32), st.length ≤ 20 → STK (v 3) st → st.length < m →
    ∃ v' : Nat → Nat → Int32, lx_X2_leave_2 n p0 m (nI st.length) v = some (nI (lvs st).length, v') ∧ STK (v' 3) (lvs st) ∧ ∀ a : Nat, a ≠ 3 → v' a = v a
  | [], m + 1, v, _, _, _ => by
    refine ⟨v, ?_, trivial, fun _ _ => rfl⟩
    show bx_X2_leave_2 n p0 (lx_X2_leave_2 n p0 m) (nI 0) v = _
    unfold bx_X2_leave_2
    rw [if_pos (show nI 0 ≤ (0 : Int32) by decide)]; rfl
  | a :: st, m + 1, v, h20, h, hm => by
    simp only [List.length_cons] at h20 hm
    obtain ⟨h1, h2, h3, h4⟩ := h
    have st1 : lx_X2_leave_2 n p0 (m + 1) (nI (st.length + 1)) v = if nI (a - 1) ≤ (0 : Int32) then lx_X2_leave_2 n p0 m (nI st.length) (mu v 3 (st.length + 1) (nI (a - 1))) else some (nI (st.length + 1), mu v 3 (st.length + 1) (nI (a - 1))) := by
      show bx_X2_leave_2 n p0 (lx_X2_leave_2 n p0 m) (nI (st.length + 1)) v = _
      unfold bx_X2_leave_2
      rw [if_neg (by rw [show (0 : Int32) = nI 0 from rfl, nI_le_iff (by omega) (by decide)]; omega), if_neg (by rw [show (20 : Int32) = nI 20 from rfl, nI_lt_iff (by decide) (by omega)]; omega), xr_n (by omega) (by decide), h1, xl_eq, show (1 : Int32) = nI 1 from rfl, nI_sub h2, xwp_n (by omega) (by decide), xr_n (by omega) (by decide), mu_eq, upd_eq, xl_eq, show nI (st.length + 1) + -nI 1 = nI st.length from nI_m1s]
    show ∃ v' : Nat → Nat → Int32, lx_X2_leave_2 n p0 (m + 1) (nI (st.length + 1)) v = _ ∧ _
    rw [st1]
    by_cases z : 1 < a
    · rw [if_neg (by rw [show (0 : Int32) = nI 0 from rfl, nI_le_iff (by omega) (by decide)]; omega), lvs_s z]
      refine ⟨_, rfl, ⟨by rw [mu_eq, upd_eq], by omega, by omega, ?_⟩, fun b hb9 => mu_ne hb9⟩
      rw [mu_eq]
      exact STK_upd h4 (by omega)
    · have e : a = 1 := by omega
      subst e
      rw [if_pos (by decide)]
      obtain ⟨v', g1, g2, g3⟩ := lx_leave_c st m (mu v 3 (st.length + 1) (nI (1 - 1))) (by omega) (by rw [mu_eq]; exact STK_upd h4 (by omega)) (by omega)
      exact ⟨v', g1, g2, fun b hb9 => by rw [g3 b hb9, mu_ne hb9]⟩
theorem fx_leave_c {n : Nat} {st : List Nat} {v : Nat → Nat → Int32} (hn : 100000 ≤ n) (h20 : st.length ≤ 20) (h : STK (v 3) st) : ∃ v' : Nat → Nat → Int32, fx_X2_leave n v (nI st.length) = some (nI (lvs st).length, v') ∧ STK (v' 3) (lvs st) ∧ ∀ a : Nat, a ≠ 3 → v' a = v a :=
  lx_leave_c st n v h20 h (by omega)
theorem RWS_fr {rn : Nat} {v v' : Nat → Nat → Int32} {A : List (List Nat)} (h : RWS rn v A) (hh : ∀ a : Nat, a ≠ 3 → v' a = v a) : RWS rn v' A := by
  obtain ⟨h1, h2, h3⟩ := h
  refine ⟨h1, by rw [hh 0 (by decide)]; exact h2, fun i hi => ?_⟩
  obtain ⟨a, b, c, d⟩ := h3 i hi
  exact ⟨by rw [hh 2 (by decide)]; exact a, b, c, by rw [hh 1 (by decide)]; exact d⟩
theorem depM_max {f : List Nat → Nat} : ∀ (ps : List (List Nat)) (x : Nat), depM f ps x = max x (depM f ps 0)
  | [], x => by show x = max x 0; omega
  | q :: qs, x => by
    show depM f qs (if f q < x then x else f q + 1) = max x (depM f qs (if f q < 0 then 0 else f q + 1))
    rw [if_neg (Nat.not_lt_zero _), depM_max qs (f q + 1), depM_max qs (if f q < x then x else f q + 1)]
    by_cases z : f q < x
    · rw [if_pos z]; omega
    · rw [if_neg z]; omega
theorem drop_sp {A p q r : List Nat} {k : Nat} (h : A.drop k = p ++ (q ++ r)) : A.drop (k + p.length) = q ++ r := by
  rw [← List.drop_drop, h, List.drop_left]
theorem gb_drop {l t : List Nat} {c k : Nat} (h : l.drop k = c :: t) : k < l.length ∧ gb l k = c ∧ l.drop (k + 1) = t := drop_c h
theorem ar_cck {c : Nat} (h : cck c) : ar c ≤ 7 := by
  unfold ar
  rcases h with h | ⟨h1, h2, h3⟩
  · split <;> omega
  · split <;> omega
theorem dep_lt : ∀ (d : Nat) (t : List Nat), wf 1 t → t.length ≤ d → dep d t < t.length
  | 0, t, h, hd => absurd (wf_pos h) (by omega)
  | d + 1, [], h, _ => absurd (wf_pos h) (by simp)
  | d + 1, c :: l, h, hd => by
    have h0 := wf_pos h
    obtain ⟨p1, _, _⟩ := pts_of h
    have key : ∀ (qs : List (List Nat)) (m : Nat), (∀ q ∈ qs, dep d q < q.length) → (∀ q ∈ qs, q.length < (c :: l).length) → m < (c :: l).length → depM (dep d) qs m < (c :: l).length := by
      intro qs
      induction qs with
      | nil => intro m _ _ h3; exact h3
      | cons q qs ih =>
        intro m h1 h2 h3
        refine ih _ (fun z hz => h1 z (List.mem_cons_of_mem _ hz)) (fun z hz => h2 z (List.mem_cons_of_mem _ hz)) ?_
        have a1 := h1 q (List.mem_cons_self ..)
        have a2 := h2 q (List.mem_cons_self ..)
        split <;> omega
    refine key (pts (c :: l)) 0 (fun q hq => ?_) (fun q hq => by have := pts_short h hq; simp only [List.length_cons]; omega) h0
    have := pts_short h hq
    simp only [List.length_cons] at hd
    exact dep_lt d q (p1 q hq) (by omega)
/-- a term, and its parts, in depthOf -/
theorem lx_depth_c {n rn i N : Nat} {A : List (List Nat)} (hn : 100000 ≤ n) (hr : rn ≤ 1000) (hi : i < A.length) (hN : N = (nth A i).length) (h20 : N ≤ 20) (hck : cckl (nth A i)) :
    ∀ (e : Nat) (t : List Nat), t.length ≤ e → wf 1 t → ∀ (st r : List Nat) (D k m : Nat) (v : Nat → Nat → Int32), RWS rn v A → (nth A i).drop k = t ++ r → STK (v 3) st → st.length ≤ k → D ≤ 1000 →
      ∃ v' : Nat → Nat → Int32, lx_X2_depthOf_14 n rn (nI i) (m + t.length) (nI D) (nI st.length) (nI N) (nI k) v = lx_X2_depthOf_14 n rn (nI i) m (nI (max D (st.length + dep e t))) (nI (lvs st).length) (nI N) (nI (k + t.length)) v' ∧ STK (v' 3) (lvs st) ∧ (∀ a : Nat, a ≠ 3 → v' a = v a) := by
  intro e
  induction e with
  | zero =>
    intro t ht hw
    cases t with
    | nil => exact absurd hw.symm (by decide)
    | cons c l => simp only [List.length_cons] at ht; omega
  | succ e ih =>
    intro t ht hw st r D k m v hV hd hs hk hD
    cases t with
    | nil => exact absurd hw.symm (by decide)
    | cons c l =>
      obtain ⟨p1, p2, p3⟩ := pts_of hw
      obtain ⟨d1, d2, d3⟩ := gb_drop (show (nth A i).drop k = c :: (l ++ r) from hd)
      have hcc : cck c := hck c (by rw [← d2]; exact gb_mem d1)
      have ar7 : ar c ≤ 7 := ar_cck hcc
      simp only [List.length_cons] at ht ⊢
      have dl : dep (e + 1) (c :: l) = depM (dep e) (pts (c :: l)) 0 := rfl
      have ca := fx_cellAt_c (n := n) hr hV hi d1
      rw [d2] at ca
      have hmax : (if nI D < nI st.length then nI st.length else nI D) = nI (max D st.length) := by
        by_cases z : D < st.length
        · rw [if_pos (by rw [nI_lt_iff (by omega) (by omega)]; exact z), Nat.max_eq_right (by omega)]
        · rw [if_neg (by rw [nI_lt_iff (by omega) (by omega)]; exact z), Nat.max_eq_left (by omega)]
      by_cases z : ar c = 0
      · -- a term without parts
        have l0 : l = [] := by
          have : (pts (c :: l)) = [] := List.eq_nil_of_length_eq_zero (by rw [p2, z])
          rw [← p3, this]; rfl
        obtain ⟨v', g1, g2, g3⟩ := fx_leave_c (n := n) hn (by omega) hs
        refine ⟨v', ?_, g2, g3⟩
        have e0 : dep (e + 1) (c :: l) = 0 := by
          rw [dl, List.eq_nil_of_length_eq_zero (l := pts (c :: l)) (by rw [p2, z])]; rfl
        rw [e0, l0]
        show bx_X2_depthOf_14 n rn (nI i) (lx_X2_depthOf_14 n rn (nI i) m) (nI D) (nI st.length) (nI N) (nI k) v = _
        unfold bx_X2_depthOf_14
        rw [if_neg (by rw [nI_le_iff (by omega) (by omega)]; omega), hmax, xl_eq, ca, xb1_s, fx_partsIn_c hcc, xb1_s, z, if_pos (by decide), g1, xb2_s, xl_eq, nI_1, Nat.add_zero]
        rfl
      · -- an operator with parts
        have st1 : lx_X2_depthOf_14 n rn (nI i) (m + (l.length + 1)) (nI D) (nI st.length) (nI N) (nI k) v = lx_X2_depthOf_14 n rn (nI i) (m + l.length) (nI (max D st.length)) (nI (ar c :: st).length) (nI N) (nI (k + 1)) (mu v 3 (st.length + 1) (nI (ar c))) := by
          show bx_X2_depthOf_14 n rn (nI i) (lx_X2_depthOf_14 n rn (nI i) (m + l.length)) (nI D) (nI st.length) (nI N) (nI k) v = _
          unfold bx_X2_depthOf_14
          rw [if_neg (by rw [nI_le_iff (by omega) (by omega)]; omega), hmax, xl_eq, ca, xb1_s, fx_partsIn_c hcc, xb1_s, if_neg (by rw [show (0 : Int32) = nI 0 from rfl, nI_le_iff (by omega) (by decide)]; omega), if_neg (by rw [show (20 : Int32) = nI 20 from rfl, nI_le_iff (by decide) (by omega)]; omega), xl_eq, nI_1, xwp_n (by omega) (by decide), xl_eq, nI_1]
          rfl
        rw [st1]
        have hs1 : STK ((mu v 3 (st.length + 1) (nI (ar c))) 3) (ar c :: st) := by
          rw [mu_eq]
          exact ⟨by rw [upd_eq], by omega, ar7, STK_upd hs (by omega)⟩
        -- the parts
        have key : ∀ (ps : List (List Nat)), ps ≠ [] → ps.length ≤ 7 → (∀ q ∈ ps, q.length ≤ e ∧ wf 1 q) → ∀ (D k m : Nat) (v : Nat → Nat → Int32) (r : List Nat), RWS rn v A → (nth A i).drop k = ps.flatten ++ r → STK (v 3) (ps.length :: st) → st.length + 1 ≤ k → D ≤ 1000 → st.length ≤ D →
            ∃ v' : Nat → Nat → Int32, lx_X2_depthOf_14 n rn (nI i) (m + ps.flatten.length) (nI D) (nI (ps.length :: st).length) (nI N) (nI k) v = lx_X2_depthOf_14 n rn (nI i) m (nI (max D (st.length + depM (dep e) ps 0))) (nI (lvs st).length) (nI N) (nI (k + ps.flatten.length)) v' ∧ STK (v' 3) (lvs st) ∧ (∀ a : Nat, a ≠ 3 → v' a = v a) := by
          intro ps
          induction ps with
          | nil => exact fun h => absurd rfl h
          | cons q qs ihq =>
            intro _ hl7 hq D k m v r hV hd hs hk hD hDs
            obtain ⟨q1, q2⟩ := hq q (List.mem_cons_self ..)
            rw [List.flatten_cons, List.append_assoc] at hd
            have hkl : k + q.length ≤ N := by
              have := congrArg List.length hd
              rw [List.length_drop, List.length_append] at this
              have := wf_pos q2
              omega
            have dq : dep e q ≤ 20 := by
              have := dep_lt e q q2 q1
              omega
            obtain ⟨v1, a1, a2, a3⟩ := ih q q1 q2 ((q :: qs).length :: st) (qs.flatten ++ r) D k (m + qs.flatten.length) v hV hd hs (by simp only [List.length_cons]; omega) hD
            have hV1 : RWS rn v1 A := RWS_fr hV a3
            have hd1 := drop_sp hd
            have em : m + (q :: qs).flatten.length = m + qs.flatten.length + q.length := by rw [List.flatten_cons, List.length_append]; omega
            have ek : k + (q :: qs).flatten.length = k + q.length + qs.flatten.length := by rw [List.flatten_cons, List.length_append]; omega
            rw [em, ek, a1]
            have eD : max D ((((q :: qs).length :: st).length) + dep e q) = max D (st.length + (dep e q + 1)) := by simp only [List.length_cons]; omega
            rw [eD]
            cases qs with
            | nil =>
              refine ⟨v1, ?_, a2, a3⟩
              have : depM (dep e) [q] 0 = dep e q + 1 := by
                show (if dep e q < 0 then 0 else dep e q + 1) = _
                rw [if_neg (Nat.not_lt_zero _)]
              rw [this]
              show lx_X2_depthOf_14 n rn (nI i) (m + 0) _ _ _ _ _ = lx_X2_depthOf_14 n rn (nI i) m _ _ _ (nI (k + q.length + 0)) _
              rfl
            | cons q' qs' =>
              have el : lvs ((q :: q' :: qs').length :: st) = (q' :: qs').length :: st := by
                simp only [List.length_cons]
                rw [lvs_s (by omega)]; rfl
              rw [el] at a1 a2 ⊢
              obtain ⟨v2, b1, b2, b3⟩ := ihq (by simp) (by simp only [List.length_cons] at hl7 ⊢; omega) (fun x hx => hq x (List.mem_cons_of_mem _ hx)) (max D (st.length + (dep e q + 1))) (k + q.length) m v1 r hV1 hd1 a2 (by omega) (by omega) (by omega)
              refine ⟨v2, ?_, b2, fun a ha => by rw [b3 a ha, a3 a ha]⟩
              have : depM (dep e) (q :: q' :: qs') 0 = max (dep e q + 1) (depM (dep e) (q' :: qs') 0) := by
                show depM (dep e) (q' :: qs') (if dep e q < 0 then 0 else dep e q + 1) = _
                rw [if_neg (Nat.not_lt_zero _), depM_max]
              rw [b1, this, show max (max D (st.length + (dep e q + 1))) (st.length + depM (dep e) (q' :: qs') 0) = max D (st.length + max (dep e q + 1) (depM (dep e) (q' :: qs') 0)) by omega]
        have hd' : (nth A i).drop (k + 1) = (pts (c :: l)).flatten ++ r := by rw [p3]; exact d3
        obtain ⟨v', g1, g2, g3⟩ := key (pts (c :: l)) (fun q => by rw [q] at p2; exact z p2.symm) (by omega) (fun q hq => ⟨by have := pts_short hw hq; omega, p1 q hq⟩) (max D st.length) (k + 1) m (mu v 3 (st.length + 1) (nI (ar c))) r (RWS_fr hV (fun a ha => mu_ne ha)) hd' (by rw [p2]; exact hs1) (by omega) (by omega) (by omega)
        rw [p3, p2] at g1
        refine ⟨v', ?_, g2, fun a ha => by rw [g3 a ha, mu_ne ha]⟩
        rw [g1, dl, show max (max D st.length) (st.length + depM (dep e) (pts (c :: l)) 0) = max D (st.length + depM (dep e) (pts (c :: l)) 0) by omega, show k + 1 + l.length = k + (l.length + 1) by omega]
theorem fx_depthOf_c {n rn i : Nat} {A : List (List Nat)} {v : Nat → Nat → Int32} (hn : 100000 ≤ n) (hr : rn ≤ 1000) (hV : RWS rn v A) (hi : i < A.length) (hw : wf 1 (nth A i)) :
    ∃ v' : Nat → Nat → Int32, fx_X2_depthOf n rn v (nI i) = some (nI (dep 21 (nth A i)), v') ∧ RWS rn v' A := by
  obtain ⟨_, r2, r3, _⟩ := hV.2.2 i hi
  obtain ⟨v', g1, g2, g3⟩ := lx_depth_c (n := n) hn hr hi rfl r2 r3 21 (nth A i) (by omega) hw [] [] 0 0 (n - (nth A i).length) v hV (by rw [List.append_nil]; rfl) trivial (Nat.le_refl _) (by decide)
  refine ⟨v', ?_, RWS_fr hV g3⟩
  unfold fx_X2_depthOf
  rw [fx_lengthOf_c hr hV hi, xb1_s]
  rw [show n - (nth A i).length + (nth A i).length = n by omega] at g1
  have g1' : lx_X2_depthOf_14 n rn (nI i) n 0 0 (nI (nth A i).length) 0 v = _ := g1
  rw [g1']
  obtain ⟨m', em⟩ : ∃ m', n - (nth A i).length = m' + 1 := ⟨n - (nth A i).length - 1, by omega⟩
  rw [em]
  show bx_X2_depthOf_14 n rn (nI i) (lx_X2_depthOf_14 n rn (nI i) m') _ _ _ _ v' = _
  unfold bx_X2_depthOf_14
  rw [Nat.zero_add, if_pos (Int32.le_refl _), show max 0 (([] : List Nat).length + dep 21 (nth A i)) = dep 21 (nth A i) by simp]
