/-! ===== the class's reader: values, frames ===== -/
def fgd (F : List (Nat × Nat)) (i : Nat) : Nat × Nat := F.getD i (0, 0)
theorem fgd_app1 {F : List (Nat × Nat)} {x : Nat × Nat} {i : Nat} (h : i < F.length) : fgd (F ++ [x]) i = fgd F i := by
  unfold fgd
  rw [List.getD_eq_getElem?_getD, List.getD_eq_getElem?_getD, List.getElem?_append_left h]
theorem fgd_app2 {F : List (Nat × Nat)} {x : Nat × Nat} : fgd (F ++ [x]) F.length = x := by
  unfold fgd
  rw [List.getD_eq_getElem?_getD, List.getElem?_append_right (Nat.le_refl _), Nat.sub_self]; rfl
/-- open brackets and values of the reader -/
def RDS (rd : Nat → Nat → Int32) (N : List (List Nat)) (so : Nat → Nat) (F : List (Nat × Nat)) (V : List (List Nat)) : Prop :=
  rd 0 0 = nI V.length ∧ rd 0 1 = nI F.length ∧ (∀ i : Nat, i < F.length → rd 2 i = nI (fgd F i).1 ∧ rd 3 i = nI (fgd F i).2) ∧ ∀ i : Nat, i < V.length → VAL N so (rd 1 i) (nth V i)
theorem RDS_ext {rd : Nat → Nat → Int32} {N E : List (List Nat)} {so : Nat → Nat} {F : List (Nat × Nat)} {V : List (List Nat)} (h : RDS rd N so F V) : RDS rd (N ++ E) so F V := ⟨h.1, h.2.1, h.2.2.1, fun i hi => VAL_ext (h.2.2.2 i hi)⟩
theorem fx_addValue_c {n : Nat} {rd : Nat → Nat → Int32} {N : List (List Nat)} {so : Nat → Nat} {F : List (Nat × Nat)} {V : List (List Nat)} {r : Int32} {t : List Nat} (h : RDS rd N so F V) (hV : V.length < 400) (hv : VAL N so r t) : ∃ rd' : Nat → Nat → Int32, fx_X1_addValue n rd r = some rd' ∧ RDS rd' N so F (V ++ [t]) := by
  obtain ⟨h1, h2, h3, h4⟩ := h
  have el : (V ++ [t]).length = V.length + 1 := by simp
  refine ⟨mu (mu rd 1 V.length r) 0 0 (nI (V.length + 1)), ?_, by rw [mu0_eq, el], by rw [mu0_ne (by decide), mu_ne (by decide)]; exact h2, fun i hi => ?_, fun i hi => ?_⟩
  · unfold fx_X1_addValue
    rw [h1, if_neg (by rw [show (0 : Int32) = nI 0 from rfl, nI_lt_iff (by omega) (by decide)]; omega), if_neg (by rw [show (400 : Int32) = nI 400 from rfl, nI_le_iff (by decide) (by omega)]; omega), xwp_n hV (by decide), mu_ne (by decide), h1]
    simp only [xl_eq, nI_1]
  · rw [mu_ne (by decide), mu_ne (by decide), mu_ne (by decide), mu_ne (by decide)]
    exact h3 i hi
  · rw [mu_ne (by decide), mu_eq]
    by_cases e : i = V.length
    · rw [e, upd_eq, nth_app2]; exact hv
    · rw [el] at hi
      rw [upd_ne e, nth_app1 (by omega)]
      exact h4 i (by omega)
theorem leaf_ANS {n c : Nat} {ga v : Nat → Nat → Int32} {w : Nat → Nat → Int64} {las : Nat → Bool} {N : List (List Nat)} {so : Nat → Nat} (hn : 100000 ≤ n) (hlb : LB ga las) (h : TB v w las N) (hN : N.length < 1024) (hc : cck c) (hk : cok c) (har : ar c = 0) :
    ANS v las N so [c] (fx_X8_leaf n v w ga (nI (cc c))) := by
  have big : big1 so c = false := by
    unfold big1
    rw [har, decide_eq_false (show ¬ 6 < 0 by decide), Bool.and_false]
  have a := intern_ANS (n := n) (c := c) (qs := []) (so := so) hn hlb h hN (fun j hj => absurd hj (Nat.not_lt_zero _)) hc hk har (by decide) (fun d hd => by
    rw [List.mem_singleton.mp hd]; exact big)
  obtain ⟨r, v', w', E, a1, a2, a3, a4, a5⟩ := a
  refine ⟨r, v', w', E, ?_, a2, a3, a4, a5⟩
  unfold fx_X8_leaf
  have a1' : fx_X8_intern n v w ga (nI (cc c)) 0 = some (r, v', w') := a1
  rw [a1', xb3_s]
/-- the values of a bracket are laid, and it is closed -/
theorem lx_closeLast_c {n op no nv base : Nat} {ga rd : Nat → Nat → Int32} {w : Nat → Nat → Int64} {las : Nat → Bool} {N V0 : List (List Nat)} {so ma : Nat → Nat} {un : Nat → Option Nat} {nmL : Nat → List Nat} {F : List (Nat × Nat)} {P0 : Int32} (hn : 100000 ≤ n) (he : ENV ga las so ma un no nv nmL) (hN : N.length < 1024) (ho : so op ≠ 3) (hb9 : V0.length = base) :
    ∀ (B : List (List Nat)) (A : List (List Nat)) (m : Nat) (v : Nat → Nat → Int32), RDS rd N so F (V0 ++ (A ++ B)) → (V0 ++ (A ++ B)).length ≤ 400 → 1 ≤ (A ++ B).length → B.length < m → TB v w las N → LST v N so un op A → okts so (A ++ B) → (so op ≠ 2 → (A ++ B).length ≤ 6) → (A ++ B).flatten.length < 512 →
      ∃ (rd' v' : Nat → Nat → Int32) (w' : Nat → Nat → Int64) (E : List (List Nat)), lx_X1_closeLast_51 n ga P0 m (nI base) (nI (base + A.length)) rd v w = some (rd', v', w') ∧ RDS rd' (N ++ E) so F (V0 ++ [stand so un op (A ++ B)]) ∧ TB v' w' las (N ++ E) ∧ E.length ≤ 1 ∧ v' 0 1 = v 0 1 := by
  obtain ⟨hop1, hop2, hop3⟩ := ENV_op he ho
  obtain ⟨e1, e2, e3, e4, e5, e6, e7⟩ := he
  intro B
  induction B with
  | nil =>
    intro A m v hr h400 h1 hm hT hl hok h6 hfl
    rw [List.append_nil] at hr h400 h1 hok h6 hfl
    obtain ⟨m, rfl⟩ : ∃ k, m = k + 1 := ⟨m - 1, by omega⟩
    obtain ⟨r1, r2, r3, r4⟩ := hr
    have lA : (V0 ++ A).length = base + A.length := by rw [List.length_append, hb9]
    obtain ⟨r, v', w', E, a1, a2, a3, a4, a5⟩ := close_ANS (n := n) hn e3 e1 e2 hT hN ⟨hop2, ho⟩ (by omega) hl hok (fun _ z => by rw [z] at h1; exact absurd h1 (by decide)) h6 hfl
    have hr1 : RDS (mu rd 0 0 (nI base)) N so F V0 := ⟨by rw [mu0_eq, hb9], by rw [mu0_ne (by decide)]; exact r2, fun i hi => by rw [mu_ne (by decide), mu_ne (by decide)]; exact r3 i hi, fun i hi => by
      rw [mu_ne (by decide)]
      have := r4 i (by rw [List.length_append]; omega)
      rw [nth_app1 hi] at this
      exact this⟩
    obtain ⟨rd', b1, b2⟩ := fx_addValue_c (n := n) (RDS_ext (E := E) hr1) (by omega) a4
    refine ⟨rd', v', w', E, ?_, by rw [List.append_nil]; exact b2, a2, ?_, a5.2.2 1 (by decide)⟩
    · show bx_X1_closeLast_51 n ga P0 (lx_X1_closeLast_51 n ga P0 m) (nI base) (nI (base + A.length)) rd v w = _
      unfold bx_X1_closeLast_51
      rw [r1, lA, if_pos (Int32.le_refl _), xl_eq, a1, xb3_s, b1, xb1_s]
    · rcases a3 with z | ⟨z, _⟩
      · rw [z]; decide
      · rw [z]; exact Nat.le_refl 1
  | cons t B ih =>
    intro A m v hr h400 h1 hm hT hl hok h6 hfl
    simp only [List.length_cons] at hm
    obtain ⟨m, rfl⟩ : ∃ k, m = k + 1 := ⟨m - 1, by omega⟩
    have eAB : A ++ t :: B = (A ++ [t]) ++ B := by simp
    have len : (V0 ++ (A ++ t :: B)).length = base + (A.length + (B.length + 1)) := by simp only [List.length_append, List.length_cons, hb9]
    have h400' := h400
    rw [len] at h400'
    obtain ⟨r1, r2, r3, r4⟩ := hr
    have val := r4 (base + A.length) (by omega)
    have en : nth (V0 ++ (A ++ t :: B)) (base + A.length) = t := by
      unfold nth
      rw [List.getD_eq_getElem?_getD, List.getElem?_append_right (by omega), show base + A.length - V0.length = A.length by omega, List.getElem?_append_right (by omega), Nat.sub_self]; rfl
    rw [en] at val
    obtain ⟨v1, y1, y2, y3⟩ := lay_LST (n := n) hn e2 hT hop2 (by omega) hl val
    rw [eAB] at r1 r4 h400 h1 hok h6 hfl ⊢
    obtain ⟨rd', v', w', E, c1, c2, c3, c4, c5⟩ := ih (A ++ [t]) m v1 ⟨r1, r2, r3, r4⟩ h400 h1 (by omega) (TB_FRL hT y2) y3 hok h6 hfl
    refine ⟨rd', v', w', E, ?_, c2, c3, c4, c5.trans y2.2.2⟩
    rw [← c1]
    show bx_X1_closeLast_51 n ga P0 (lx_X1_closeLast_51 n ga P0 m) (nI base) (nI (base + A.length)) rd v w = _
    unfold bx_X1_closeLast_51
    rw [r1, ← eAB, len, if_neg (by rw [nI_le_iff (by omega) (by omega)]; omega), if_neg (by rw [show (0 : Int32) = nI 0 from rfl, nI_lt_iff (by omega) (by decide)]; omega), if_neg (by rw [show (400 : Int32) = nI 400 from rfl, nI_le_iff (by decide) (by omega)]; omega), xr_n (by omega) (by decide), y1, xb1_s, xl_eq, nI_1, List.length_append]
    rfl
theorem fx_closeLast_c {n op no nv : Nat} {ga rd v : Nat → Nat → Int32} {w : Nat → Nat → Int64} {las : Nat → Bool} {N V0 acc : List (List Nat)} {so ma : Nat → Nat} {un : Nat → Option Nat} {nmL : Nat → List Nat} {F : List (Nat × Nat)} (hn : 100000 ≤ n) (he : ENV ga las so ma un no nv nmL) (hN : N.length < 1024) (ho : so op ≠ 3) (hr : RDS rd N so (F ++ [(op, V0.length)]) (V0 ++ acc)) (h400 : (V0 ++ acc).length ≤ 400) (hF : F.length < 400) (h1 : 1 ≤ acc.length) (hT : TB v w las N) (hok : okts so acc) (h6 : so op ≠ 2 → acc.length ≤ 6) (hfl : acc.flatten.length < 512) :
    ∃ (rd' v' : Nat → Nat → Int32) (w' : Nat → Nat → Int64) (E : List (List Nat)), fx_X1_closeLast n rd ga v w (nI op) = some (rd', v', w') ∧ RDS rd' (N ++ E) so F (V0 ++ [stand so un op acc]) ∧ TB v' w' las (N ++ E) ∧ E.length ≤ 1 ∧ v' 0 1 = v 0 1 := by
  obtain ⟨hop1, hop2, hop3⟩ := ENV_op he ho
  obtain ⟨v1, y1, y2, y3⟩ := begin_LST (n := n) (v := v) (N := N) he.1 he.2.1 (ENV_no he) (show so op ≤ 3 by omega) hop1
  obtain ⟨r1, r2, r3, r4⟩ := hr
  have elF : (F ++ [(op, V0.length)]).length = F.length + 1 := by simp
  rw [elF] at r2 r3
  have l400 : V0.length ≤ 400 := by rw [List.length_append] at h400; omega
  have f3 := (r3 F.length (by omega)).2
  rw [fgd_app2] at f3
  have f3' : rd 3 F.length = nI V0.length := f3
  have hr1 : RDS (mu rd 0 1 (nI F.length)) N so F (V0 ++ ([] ++ acc)) := ⟨by rw [mu0_ne (by decide)]; exact r1, mu0_eq, fun i hi => by
    rw [mu_ne (by decide), mu_ne (by decide)]
    have := r3 i (by omega)
    rw [fgd_app1 hi] at this
    exact this, fun i hi => by rw [mu_ne (by decide)]; exact r4 i hi⟩
  obtain ⟨rd', v', w', E, c1, c2, c3, c4, c5⟩ := lx_closeLast_c (n := n) (P0 := nI op) (base := V0.length) hn he hN ho rfl acc [] n v1 hr1 h400 h1 (by rw [List.length_append] at h400; omega) (TB_FRL hT y2) y3 hok h6 hfl
  refine ⟨rd', v', w', E, ?_, c2, c3, c4, c5.trans y2.2.2⟩
  unfold fx_X1_closeLast
  rw [r2, show nI (F.length + 1) - 1 = nI F.length by rw [show (1 : Int32) = nI 1 from rfl, nI_sub (by omega)]; rfl, xl_eq, xl_eq]
  rw [show (mu rd 0 1 (nI F.length)) 0 1 = nI F.length from mu0_eq, if_neg (by rw [show (0 : Int32) = nI 0 from rfl, nI_lt_iff (by omega) (by decide)]; omega), if_neg (by rw [show (400 : Int32) = nI 400 from rfl, nI_le_iff (by decide) (by omega)]; omega), xr_n hF (by decide), mu_ne (by decide), f3', y1, xb1_s]
  exact c1
