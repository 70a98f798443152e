/-! ===== a term's parts laid on the line ===== -/
def FRL (v v' : Nat → Nat → Int32) : Prop := (∀ a : Nat, a ≠ 0 → a ≠ 8 → v' a = v a) ∧ v' 0 0 = v 0 0 ∧ v' 0 1 = v 0 1
theorem FRL.refl {v : Nat → Nat → Int32} : FRL v v := ⟨fun _ _ _ => rfl, rfl, rfl⟩
theorem FRL.trans {v v' v'' : Nat → Nat → Int32} (h : FRL v v') (h' : FRL v' v'') : FRL v v'' := ⟨fun a x y => (h'.1 a x y).trans (h.1 a x y), h'.2.1.trans h.2.1, h'.2.2.trans h.2.2⟩
theorem TB_FRL {v v' : Nat → Nat → Int32} {w : Nat → Nat → Int64} {las : Nat → Bool} {N : List (List Nat)} (h : TB v w las N) (hf : FRL v v') : TB v' w las N := TB_frame h hf.2.1 (fun a h1 h7 => hf.1 a (by omega) (by omega))
def LNs (v : Nat → Nat → Int32) (N : List (List Nat)) (so : Nat → Nat) (un : Nat → Option Nat) (op : Nat) (ys : List (List Nat)) : Prop :=
  v 0 2 = nI ys.length ∧ ys.length ≤ 6 ∧ LI v N ys ∧ v 0 3 = nI op ∧ v 0 4 = nI (so op) ∧ v 0 5 = (if so op = 2 then ucI (un op) else -1)
theorem LI_wfs {v : Nat → Nat → Int32} {w : Nat → Nat → Int64} {las : Nat → Bool} {N qs : List (List Nat)} (h : TB v w las N) (hq : LI v N qs) : wfs qs := fun q hq9 => by
  obtain ⟨j, j1, j2⟩ := mem_nth hq9
  obtain ⟨p, q1, q2, q3⟩ := hq j j1
  have := (TB_get h q1).1.1
  rw [q2, j2] at this; exact this
theorem nth_app4 {A B : List (List Nat)} {x : List Nat} {i : Nat} : nth (A ++ x :: B) (A.length + 1 + i) = nth B i := by
  unfold nth
  rw [List.getD_eq_getElem?_getD, List.getD_eq_getElem?_getD, List.getElem?_append_right (by omega), show A.length + 1 + i - A.length = i + 1 by omega, List.getElem?_cons_succ]
theorem fx_begin_c {n op no nv : Nat} {ga v : Nat → Nat → Int32} {so ma : Nat → Nat} {un : Nat → Option Nat} {nmL : Nat → List Nat} {N : List (List Nat)} (hg : SGC ga so ma un no nv nmL) (hsv : SV so un ma nv) (hso : ∀ q : Nat, q < no → so q ≠ 3) (hs2 : so op ≤ 3) (ho : op < no) :
    ∃ v' : Nat → Nat → Int32, fx_X8_begin n v ga (nI op) = some v' ∧ FRL v v' ∧ LNs v' N so un op [] ∧ v' 0 6 = 0 := by
  have h3 := hso op ho
  unfold fx_X8_begin
  rw [xl_eq, xl_eq, xl_eq, fx_kindOf_c hg ho, xb1_s, xl_eq, mu_eq, upd_eq]
  have fr : ∀ x : Int32, FRL v (mu (mu (mu (mu (mu v 0 2 0) 0 6 0) 0 3 (nI op)) 0 4 (nI (so op))) 0 5 x) := fun x => ⟨fun a h0 _ => by rw [mu_ne h0, mu_ne h0, mu_ne h0, mu_ne h0, mu_ne h0], by rw [mu_eq, upd_ne (by decide), mu_eq, upd_ne (by decide), mu_eq, upd_ne (by decide), mu_eq, upd_ne (by decide), mu_eq, upd_ne (by decide)], by rw [mu_eq, upd_ne (by decide), mu_eq, upd_ne (by decide), mu_eq, upd_ne (by decide), mu_eq, upd_ne (by decide), mu_eq, upd_ne (by decide)]⟩
  have ln : ∀ x : Int32, x = (if so op = 2 then ucI (un op) else -1) → LNs (mu (mu (mu (mu (mu v 0 2 0) 0 6 0) 0 3 (nI op)) 0 4 (nI (so op))) 0 5 x) N so un op [] ∧ (mu (mu (mu (mu (mu v 0 2 0) 0 6 0) 0 3 (nI op)) 0 4 (nI (so op))) 0 5 x) 0 6 = 0 := fun x hx => ⟨⟨by rw [mu_eq, upd_ne (by decide), mu_eq, upd_ne (by decide), mu_eq, upd_ne (by decide), mu_eq, upd_ne (by decide), mu_eq, upd_eq]; rfl, by decide, fun j hj => absurd hj (Nat.not_lt_zero _), by rw [mu_eq, upd_ne (by decide), mu_eq, upd_ne (by decide), mu_eq, upd_eq], by rw [mu_eq, upd_ne (by decide), mu_eq, upd_eq], by rw [mu_eq, upd_eq, hx]⟩, by rw [mu_eq, upd_ne (by decide), mu_eq, upd_ne (by decide), mu_eq, upd_ne (by decide), mu_eq, upd_eq]⟩
  by_cases q : so op = 2
  · rw [if_pos (by rw [q]; rfl), fx_unitCodeOf_c hg hsv ho, xb1_s, xl_eq]
    obtain ⟨l1, l2⟩ := ln (ucI (un op)) (by rw [if_pos q])
    exact ⟨_, rfl, fr _, l1, l2⟩
  · rw [if_neg (by rw [show (2 : Int32) = nI 2 from rfl, nI_inj (by omega) (by decide)]; exact q), xl_eq]
    obtain ⟨l1, l2⟩ := ln (-1) (by rw [if_neg q])
    exact ⟨_, rfl, fr _, l1, l2⟩
theorem cmp_le0 {p r : List Nat} : cmpL p r ≤ (0 : Int32) ↔ ¬ cmpL p r = 1 := by
  rcases cmpL_vals p r with z | z | z
  · rw [z]; exact ⟨fun _ => by decide, fun _ => by decide⟩
  · rw [z]; exact ⟨fun _ => by decide, fun _ => by decide⟩
  · rw [z]; exact ⟨fun h => absurd h (by decide), fun h => absurd rfl h⟩
theorem leL_of {p r : List Nat} (h : ¬ cmpL p r = 1) : leL p r := by
  rcases cmpL_vals p r with z | z | z
  · exact Or.inl z
  · exact Or.inr z
  · exact absurd z h
theorem leL_swap {p r : List Nat} (h : cmpL p r = 1) : leL r p := by
  refine Or.inl ?_
  rw [cmpL_swap p r, h]
theorem lx_lay148_c {n x op : Nat} {w : Nat → Nat → Int64} {las : Nat → Bool} {N : List (List Nat)} {so : Nat → Nat} {P0 x2 x3 x4 x5 : Int32} {r : List Nat} {k84 : Int32 → Int32 → Int32 → Int32 → (Nat → Nat → Int32) → Option (Nat → Nat → Int32)} (hn : 100000 ≤ n) (hx : x < N.length) (hr : nth N x = r) (hrw : wf 1 r) (hso : so op < 10) :
    ∀ (R Q : List (List Nat)) (m : Nat) (v : Nat → Nat → Int32), R.length < m → TB v w las N → R.length + Q.length ≤ 5 → v 0 2 = nI (R.length + Q.length) → v 0 4 = nI (so op) →
      (∀ j : Nat, j < R.length → ∃ p : Nat, p < N.length ∧ nth N p = nth R.reverse j ∧ v 8 j = nI p) → (∀ j : Nat, j < Q.length → ∃ p : Nat, p < N.length ∧ nth N p = nth Q j ∧ v 8 (R.length + 1 + j) = nI p) → wfs (R.reverse ++ Q) →
      (so op ≠ 0 → (R.reverse ++ Q).Pairwise leL ∧ ∀ q ∈ Q, cmpL q r = 1) → (so op = 0 → Q = []) →
      ∃ (P' Q' : List (List Nat)) (v' : Nat → Nat → Int32), R.reverse ++ Q = P' ++ Q' ∧ lx_X8_lay_148 n P0 k84 m x2 x3 x4 x5 (nI x) (nI R.length) v = k84 x2 x3 x4 (x5 + 1) v' ∧ FRL v v' ∧ v' 0 2 = nI (R.length + Q.length + 1) ∧ (∀ j : Nat, j ≠ 2 → v' 0 j = v 0 j) ∧ LI v' N (P' ++ r :: Q') ∧ (so op = 0 → Q' = []) ∧ (so op ≠ 0 → (P' ++ r :: Q').Pairwise leL) := by
  have stop : ∀ (R Q : List (List Nat)) (v : Nat → Nat → Int32), R.length + Q.length ≤ 5 → v 0 2 = nI (R.length + Q.length) →
      (∀ j : Nat, j < R.length → ∃ p : Nat, p < N.length ∧ nth N p = nth R.reverse j ∧ v 8 j = nI p) → (∀ j : Nat, j < Q.length → ∃ p : Nat, p < N.length ∧ nth N p = nth Q j ∧ v 8 (R.length + 1 + j) = nI p) →
      ∃ v' : Nat → Nat → Int32, jx_X8_lay_200 n P0 k84 x2 x3 x4 x5 (nI x) (nI R.length) v = k84 x2 x3 x4 (x5 + 1) v' ∧ FRL v v' ∧ v' 0 2 = nI (R.length + Q.length + 1) ∧ (∀ j : Nat, j ≠ 2 → v' 0 j = v 0 j) ∧ LI v' N (R.reverse ++ r :: Q) := fun R Q v h5 h2 hR hQ => by
    refine ⟨mu (mu v 8 R.length (nI x)) 0 2 (nI (R.length + Q.length + 1)), ?_, ⟨fun a a0 a8 => by rw [mu_ne a0, mu_ne a8], by rw [mu_eq, upd_ne (by decide), mu_ne (by decide)], by rw [mu_eq, upd_ne (by decide), mu_ne (by decide)]⟩, by rw [mu_eq, upd_eq], fun j hj => by rw [mu_eq, upd_ne hj, mu_ne (by decide)], fun j hj => ?_⟩
    · unfold jx_X8_lay_200
      rw [xwp_n (by omega) (by decide), xl_eq, mu_ne (by decide), h2, nI_1, xl_eq, xl_eq]
    · rw [mu_ne (by decide), mu_eq]
      rw [List.length_append, List.length_cons, List.length_reverse] at hj
      by_cases q1 : j < R.length
      · obtain ⟨p, p1, p2, p3⟩ := hR j q1
        exact ⟨p, p1, by rw [nth_app1 (by rw [List.length_reverse]; exact q1)]; exact p2, by rw [upd_ne (by omega)]; exact p3⟩
      · by_cases q2 : j = R.length
        · subst q2
          refine ⟨x, hx, ?_, upd_eq _ _ _⟩
          rw [← List.length_reverse (as := R), nth_app3, hr]
        · obtain ⟨p, p1, p2, p3⟩ := hQ (j - R.length - 1) (by omega)
          refine ⟨p, p1, ?_, by rw [upd_ne q2, show j = R.length + 1 + (j - R.length - 1) by omega]; exact p3⟩
          have e := nth_app4 (A := R.reverse) (B := Q) (x := r) (i := j - R.length - 1)
          rw [List.length_reverse, show R.length + 1 + (j - R.length - 1) = j by omega] at e
          rw [e]; exact p2
  intro R
  induction R with
  | nil =>
    intro Q m v hm hT h5 h2 h4 hR hQ hw hs hf
    cases m with
    | zero => exact absurd hm (Nat.not_lt_zero _)
    | succ m =>
      obtain ⟨v', y1, y2, y3, y4, y5⟩ := stop [] Q v h5 h2 hR hQ
      refine ⟨[], Q, v', rfl, ?_, y2, y3, y4, y5, hf, fun z => ?_⟩
      · rw [← y1]
        show bx_X8_lay_148 n P0 k84 (lx_X8_lay_148 n P0 k84 m) x2 x3 x4 x5 (nI x) (nI 0) v = _
        unfold bx_X8_lay_148
        rw [if_pos (by decide)]; rfl
      · obtain ⟨a, b⟩ := hs z
        refine List.Pairwise.cons (fun q hq => leL_swap (b q hq)) a
  | cons p R0 ih =>
    intro Q m v hm hT h5 h2 h4 hR hQ hw hs hf
    cases m with
    | zero => exact absurd hm (Nat.not_lt_zero _)
    | succ m =>
      simp only [List.length_cons] at hm h5 hR hQ h2 ⊢
      obtain ⟨pp, pp1, pp2, pp3⟩ := hR R0.length (by omega)
      have ep : nth (p :: R0).reverse R0.length = p := by
        rw [List.reverse_cons, ← List.length_reverse (as := R0)]; exact nth_app2
      rw [ep] at pp2
      have hT1 := hT.1
      have sp := stop (p :: R0) Q v (by simpa using h5) (by simpa using h2) (by simpa using hR) (by simpa using hQ)
      simp only [List.length_cons] at sp
      obtain ⟨v', y1, y2, y3, y4, y5⟩ := sp
      have hshow : lx_X8_lay_148 n P0 k84 (m + 1) x2 x3 x4 x5 (nI x) (nI (R0.length + 1)) v = bx_X8_lay_148 n P0 k84 (lx_X8_lay_148 n P0 k84 m) x2 x3 x4 x5 (nI x) (nI (R0.length + 1)) v := rfl
      rw [hshow]
      unfold bx_X8_lay_148
      rw [if_neg (by rw [show (0 : Int32) = nI 0 from rfl, nI_le_iff (by omega) (by decide)]; omega), h4]
      by_cases z : so op = 0
      · rw [if_pos (by rw [z]; rfl)]
        exact ⟨(p :: R0).reverse, Q, v', rfl, y1, y2, y3, y4, y5, hf, fun y => absurd z y⟩
      · obtain ⟨srt9, gt9⟩ := hs z
        have cp := fx_compare8_c (n := n) hn hT pp1 hx
        rw [pp2, hr] at cp
        rw [if_neg (by rw [show (0 : Int32) = nI 0 from rfl, nI_inj (by omega) (by decide)]; exact z), xl_eq, i1, nI_sub (by omega), show R0.length + 1 - 1 = R0.length by omega, xr_n (by omega) (by decide), pp3, cp, xb1_s]
        by_cases y : cmpL p r = 1
        · rw [if_neg (fun q => (cmp_le0.mp q) y), xl_eq, xr_n (by omega) (by decide), pp3, xwp_n (by omega) (by decide), xl_eq]
          have hT' : TB (mu v 8 (R0.length + 1) (nI pp)) w las N := TB_frame hT (by rw [mu_ne (by decide)]) (fun a _ h7 => mu_ne (by omega))
          have el : (R0.reverse ++ p :: Q) = (p :: R0).reverse ++ Q := by simp
          obtain ⟨P', Q', v2, u1, u2, u3, u4, u5, u6, u7, u8⟩ := ih (p :: Q) m (mu v 8 (R0.length + 1) (nI pp)) (by omega) hT' (by simp only [List.length_cons]; omega) (by rw [mu_ne (by decide), h2, List.length_cons]; exact congrArg nI (by omega)) (by rw [mu_ne (by decide)]; exact h4) (fun j hj => by
            obtain ⟨s, s1, s2, s3⟩ := hR j (by omega)
            refine ⟨s, s1, ?_, by rw [mu_eq, upd_ne (by omega)]; exact s3⟩
            rw [s2, List.reverse_cons, nth_app1 (by rw [List.length_reverse]; exact hj)]) (fun j hj => by
            cases j with
            | zero => exact ⟨pp, pp1, pp2, by rw [mu_eq, Nat.add_zero, upd_eq]⟩
            | succ j =>
              obtain ⟨s, s1, s2, s3⟩ := hQ j (by simpa using hj)
              exact ⟨s, s1, s2, by rw [mu_eq, upd_ne (by omega), show R0.length + 1 + (j + 1) = R0.length + 1 + 1 + j by omega]; exact s3⟩) (by rw [el]; exact hw) (fun _ => ⟨by rw [el]; exact srt9, fun q hq => by
              rcases List.mem_cons.mp hq with g | g
              · rw [g]; exact y
              · exact gt9 q g⟩) (fun q => absurd q z)
          have e1 : nI 1 = (1 : Int32) := rfl
          refine ⟨P', Q', v2, by rw [← el]; exact u1, ?_, ⟨fun a a0 a8 => by rw [u3.1 a a0 a8, mu_ne a8], by rw [u3.2.1, mu_ne (by decide)], by rw [u3.2.2, mu_ne (by decide)]⟩, ?_, fun j hj => by rw [u5 j hj, mu_ne (by decide)], u6, u7, u8⟩
          · rw [e1] at *
            rw [← u2, nI_less (by omega), show R0.length + 1 - 1 = R0.length by omega]
          · rw [u4, List.length_cons]
            exact congrArg nI (by omega)
        · rw [if_pos (cmp_le0.mpr y)]
          refine ⟨(p :: R0).reverse, Q, v', rfl, y1, y2, y3, y4, y5, hf, fun _ => ?_⟩
          have pr : leL p r := leL_of y
          have hpw : wf 1 p := hw p (by simp)
          rw [List.pairwise_append] at srt9 ⊢
          obtain ⟨s1, s2, s3⟩ := srt9
          have hall : ∀ a ∈ (p :: R0).reverse, leL a r := fun a ha => by
            rw [List.reverse_cons] at ha s1
            rw [List.pairwise_append] at s1
            rcases List.mem_append.mp ha with g | g
            · exact leL_trans (hw a (by simp; exact Or.inl (by simpa using g))) hpw hrw (s1.2.2 a g p (by simp)) pr
            · rw [List.mem_singleton.mp g]; exact pr
          refine ⟨s1, List.Pairwise.cons (fun q hq => leL_swap (gt9 q hq)) s2, fun a ha b hb9 => ?_⟩
          rcases List.mem_cons.mp hb9 with g | g
          · rw [g]; exact hall a ha
          · exact s3 a ha b g
