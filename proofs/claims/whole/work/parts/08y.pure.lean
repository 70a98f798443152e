/-! ===== a node's row written ===== -/
def FRS (v v' : Nat → Nat → Int32) (held : Nat) : Prop := (∀ a : Nat, a ≠ 0 → a ≠ 9 → v' a = v a) ∧ (∀ j : Nat, j ≠ 1 → v' 0 j = v 0 j) ∧ ∀ j : Nat, j < held → v' 9 j = v 9 j
theorem FRS.refl {v : Nat → Nat → Int32} {held : Nat} : FRS v v held := ⟨fun _ _ _ => rfl, fun _ _ => rfl, fun _ _ => rfl⟩
theorem FRS.trans {v v' v'' : Nat → Nat → Int32} {held : Nat} (h : FRS v v' held) (h' : FRS v' v'' held) : FRS v v'' held := ⟨fun a x y => (h'.1 a x y).trans (h.1 a x y), fun j x => (h'.2.1 j x).trans (h.2.1 j x), fun j x => (h'.2.2 j x).trans (h.2.2 j x)⟩
theorem TB_FRS {v v' : Nat → Nat → Int32} {w : Nat → Nat → Int64} {las : Nat → Bool} {N : List (List Nat)} {held : Nat} (h : TB v w las N) (hf : FRS v v' held) : TB v' w las N := TB_frame h (hf.2.1 0 (by decide)) (fun a h1 h7 => hf.1 a (by omega) (by omega))
theorem SKN_push {n held p : Nat} {v : Nat → Nat → Int32} {N S : List (List Nat)} {t : List Nat} (h : SKN v N held S) (hp : p < N.length) (ht : nth N p = t) (hb9 : held + S.length < 120) :
    ∃ v' : Nat → Nat → Int32, fx_X8_push n v (nI p) = some v' ∧ SKN v' N held (t :: S) ∧ FRS v v' held := by
  obtain ⟨s1, s2⟩ := h
  refine ⟨_, fx_push_c s1 hb9, ⟨by rw [mu_eq, upd_eq, List.length_cons, Nat.add_assoc], fun j hj => ?_⟩, fun a a0 a9 => by rw [mu_ne a0, mu_ne a9], fun j hj => by rw [mu_eq, upd_ne hj, mu_ne (by decide)], fun j hj => by rw [mu_ne (by decide), mu_eq, upd_ne (by omega)]⟩
  rw [List.length_cons] at hj
  rw [mu_ne (by decide), mu_eq, List.length_cons]
  cases j with
  | zero => exact ⟨p, hp, ht, by rw [show held + (S.length + 1 - 1 - 0) = held + S.length by omega, upd_eq]⟩
  | succ j =>
    obtain ⟨q, q1, q2, q3⟩ := s2 j (by omega)
    exact ⟨q, q1, q2, by rw [show held + (S.length + 1 - 1 - (j + 1)) = held + (S.length - 1 - j) by omega, upd_ne (by omega)]; exact q3⟩
theorem SKN_pop {n held : Nat} {v : Nat → Nat → Int32} {N S : List (List Nat)} {t : List Nat} (h : SKN v N held (t :: S)) (hb9 : held + S.length < 120) :
    ∃ (p : Nat) (v' : Nat → Nat → Int32), fx_X8_pop n v = some (nI p, v') ∧ p < N.length ∧ nth N p = t ∧ SKN v' N held S ∧ FRS v v' held := by
  obtain ⟨s1, s2⟩ := h
  obtain ⟨p, p1, p2, p3⟩ := s2 0 (by simp)
  rw [List.length_cons] at s1 p3
  rw [show held + (S.length + 1) = held + S.length + 1 by omega] at s1
  rw [show held + (S.length + 1 - 1 - 0) = held + S.length by omega] at p3
  have pp := fx_pop_c (n := n) s1 hb9
  rw [p3] at pp
  refine ⟨p, _, pp, p1, p2, ⟨by rw [mu_eq, upd_eq], fun j hj => ?_⟩, fun a a0 _ => by rw [mu_ne a0], fun j hj => by rw [mu_eq, upd_ne hj], fun j _ => by rw [mu_ne (by decide)]⟩
  obtain ⟨q, q1, q2, q3⟩ := s2 (j + 1) (by simpa using hj)
  rw [List.length_cons] at q3
  exact ⟨q, q1, q2, by rw [mu_ne (by decide), ← q3]; exact congrArg (v 9) (by omega)⟩
theorem drop_nth {qs : List (List Nat)} {j : Nat} (h : j < qs.length) : qs.drop j = nth qs j :: qs.drop (j + 1) := by
  rw [List.drop_eq_getElem_cons h]
  unfold nth
  rw [List.getD_eq_getElem?_getD, List.getElem?_eq_getElem h]; rfl
theorem lx_wr65_c {n held x rn : Nat} {w : Nat → Nat → Int64} {las : Nat → Bool} {N rest : List (List Nat)} {P0 x3 x4 x6 : Int32} {ra : Nat → Nat → Int32} {k21 : Int32 → Int32 → (Nat → Nat → Int32) → (Nat → Nat → Int32) → Option ((Nat → Nat → Int32) × (Nat → Nat → Int32))} (hx : x < N.length) (hb9 : held + (pts (nth N x)).length + rest.length < 120) :
    ∀ (j m : Nat) (v : Nat → Nat → Int32), j ≤ (pts (nth N x)).length → j < m → TB v w las N → SKN v N held ((pts (nth N x)).drop j ++ rest) →
      ∃ v' : Nat → Nat → Int32, lx_X8_write_65 n rn P0 k21 m x3 x4 (nI x) x6 (nI j - 1) v ra = k21 x3 (x4 + 1) v' ra ∧ SKN v' N held (pts (nth N x) ++ rest) ∧ FRS v v' held
  | 0, m + 1, v, _, _, hT, hS => by
    rw [List.drop_zero] at hS
    refine ⟨v, ?_, hS, FRS.refl⟩
    show bx_X8_write_65 n rn P0 k21 (lx_X8_write_65 n rn P0 k21 m) x3 x4 (nI x) x6 (nI 0 - 1) v ra = _
    unfold bx_X8_write_65
    rw [if_pos (by decide), xl_eq]
  | j + 1, m + 1, v, hj, hm, hT, hS => by
    have hw := (TB_get hT hx).1.1
    obtain ⟨p, p1, p2, p3⟩ := fx_partOf_c (n := n) hT hx (j := j) (by rw [← pts_len hw]; omega)
    obtain ⟨v1, y1, y2, y3⟩ := SKN_push (n := n) hS (show p < N.length by omega) p2 (by rw [List.length_append, List.length_drop]; omega)
    rw [← List.cons_append, ← drop_nth (by omega)] at y2
    obtain ⟨v', z1, z2, z3⟩ := lx_wr65_c (n := n) (rn := rn) (P0 := P0) (x3 := x3) (x4 := x4) (x6 := x6) (ra := ra) (k21 := k21) hx hb9 j m v1 (by omega) (by omega) (TB_FRS hT y3) y2
    refine ⟨v', ?_, z2, y3.trans z3⟩
    rw [← z1]
    show bx_X8_write_65 n rn P0 k21 (lx_X8_write_65 n rn P0 k21 m) x3 x4 (nI x) x6 (nI (j + 1) - 1) v ra = _
    unfold bx_X8_write_65
    have h1 := hT.1
    have h20 := (TB_get hT hx).1.2.2.2.2
    have hpl := pts_len hw
    rw [i1, nI_sub (by omega), show j + 1 - 1 = j by omega, if_neg (by rw [show (0 : Int32) = nI 0 from rfl, nI_lt_iff (by omega) (by decide)]; omega), p3, xb1_s, y1, xb1_s, xl_eq]
    rw [← i1, Int32.sub_eq_add_neg]
theorem lx_wr21_c {n held rn : Nat} {w : Nat → Nat → Int64} {las : Nat → Bool} {N A : List (List Nat)} {P0 : Int32} {t : List Nat} (hn : 100000 ≤ n) (hr : rn ≤ 1000) (hh : held ≤ 90) (ht : t.length ≤ 20) :
    ∀ (d m : Nat) (r0 : List Nat) (S : List (List Nat)) (v ra : Nat → Nat → Int32), r0.length + d = 20 → d < m → r0 ++ S.flatten = t → wfs S → TB v w las N → SKN v N held S → RWS rn ra (A ++ [r0]) →
      ∃ v' ra' : Nat → Nat → Int32, lx_X8_write_21 n rn P0 m (nI held) (nI r0.length) v ra = some (v', ra') ∧ RWS rn ra' (A ++ [t]) ∧ FRS v v' held ∧ v' 0 1 = nI held := by
  intro d
  have fin : ∀ (r0 : List Nat) (S : List (List Nat)) (v ra : Nat → Nat → Int32), S = [] → r0 ++ S.flatten = t → RWS rn ra (A ++ [r0]) → RWS rn ra (A ++ [t]) ∧ FRS v (mu v 0 1 (nI held)) held ∧ (mu v 0 1 (nI held)) 0 1 = nI held := fun r0 S v ra hS he hR => by
    rw [hS, List.flatten_nil, List.append_nil] at he
    rw [← he]
    exact ⟨hR, ⟨fun a a0 _ => by rw [mu_ne a0], fun j hj => by rw [mu_eq, upd_ne hj], fun j _ => by rw [mu_ne (by decide)]⟩, by rw [mu_eq, upd_eq]⟩
  induction d with
  | zero =>
    intro m r0 S v ra hd hm he hw hT hS hR
    cases m with
    | zero => exact absurd hm (Nat.not_lt_zero _)
    | succ m =>
      have hl := congrArg List.length he
      rw [List.length_append] at hl
      have hS0 : S = [] := by
        have := wf_len (wf_flat hw)
        exact List.length_eq_zero_iff.mp (by omega)
      obtain ⟨f1, f2, f3⟩ := fin r0 S v ra hS0 he hR
      refine ⟨_, _, ?_, f1, f2, f3⟩
      show bx_X8_write_21 n rn P0 (lx_X8_write_21 n rn P0 m) (nI held) (nI r0.length) v ra = _
      unfold bx_X8_write_21
      rw [if_pos (by rw [show (20 : Int32) = nI 20 from rfl, nI_le_iff (by decide) (by omega)]; omega), xl_eq]
  | succ d ih =>
    intro m r0 S v ra hd hm he hw hT hS hR
    cases m with
    | zero => exact absurd hm (Nat.not_lt_zero _)
    | succ m =>
      have hl := congrArg List.length he
      rw [List.length_append] at hl
      have hSl := wf_len (wf_flat hw)
      have hsh : lx_X8_write_21 n rn P0 (m + 1) (nI held) (nI r0.length) v ra = bx_X8_write_21 n rn P0 (lx_X8_write_21 n rn P0 m) (nI held) (nI r0.length) v ra := rfl
      rw [hsh]
      unfold bx_X8_write_21
      rw [if_neg (by rw [show (20 : Int32) = nI 20 from rfl, nI_le_iff (by decide) (by omega)]; omega), hS.1]
      cases S with
      | nil =>
        obtain ⟨f1, f2, f3⟩ := fin r0 [] v ra rfl he hR
        rw [if_pos (by rw [nI_le_iff (by simp; omega) (by omega)]; simp), xl_eq]
        exact ⟨_, _, rfl, f1, f2, f3⟩
      | cons q S =>
        simp only [List.length_cons] at hSl
        obtain ⟨p, v1, y1, y2, y3, y4, y5⟩ := SKN_pop (n := n) hS (by omega)
        have hT1 := TB_FRS hT y5
        have nd := (TB_get hT1 y2).1
        rw [y3] at nd
        have hc : cck (hd0 q) := nd.2.1 _ (hd0_mem nd.1)
        have co := fx_codeOf_c (n := n) hT1 y2
        rw [y3] at co
        rw [if_neg (by rw [nI_le_iff (by simp; omega) (by omega), List.length_cons]; omega), y1, xb2_s, co, xb1_s]
        obtain ⟨ra1, p1, p2⟩ := fx_put_c (n := n) (c := hd0 q) hr hR (by omega) hc
        have hpl := pts_len nd.1
        have hqr := row_pts nd.1
        have hql : q.length = 1 + (pts q).flatten.length := by
          have := congrArg List.length hqr
          rw [List.length_cons] at this; omega
        have hwp : wfs (pts q) := by
          cases hq : q with
          | nil => rw [hq] at nd; exact absurd nd.1.symm (by decide)
          | cons c l => rw [hq] at nd; exact (pts_of nd.1).1
        have hpf := wf_len (wf_flat hwp)
        rw [List.flatten_cons, List.length_append] at hl
        have hSl2 : S.length ≤ S.flatten.length := wf_len (wf_flat (fun a ha => hw a (List.mem_cons_of_mem _ ha)))
        obtain ⟨v2, z1, z2, z3⟩ := lx_wr65_c (n := n) (rn := rn) (P0 := P0) (x3 := nI held) (x4 := nI r0.length) (x6 := nI (cc (hd0 q))) (ra := ra1) (k21 := lx_X8_write_21 n rn P0 m) (rest := S) (held := held) y2 (by rw [y3]; omega) (ar (hd0 q)) n v1 (by rw [y3]; omega) (by omega) hT1 (by rw [y3, ← hpl, List.drop_length]; exact y4)
        rw [y3] at z2
        rw [p1, xb1_s, fx_partsIn_c hc, xb1_s, xl_eq, z1, nI_1]
        obtain ⟨v', ra', g1, g2, g3, g4⟩ := ih m (r0 ++ [hd0 q]) (pts q ++ S) v2 ra1 (by rw [List.length_append, List.length_singleton]; omega) (by omega) (by
            rw [← he, List.flatten_append, List.flatten_cons, List.append_assoc]
            conv => rhs; rw [hqr]
            simp) (fun a ha => by
              rcases List.mem_append.mp ha with g | g
              · exact hwp a g
              · exact hw a (List.mem_cons_of_mem _ g)) (TB_FRS hT1 z3) z2 p2
        rw [List.length_append, List.length_singleton] at g1
        exact ⟨v', ra', g1, g2, (y5.trans z3).trans g3, g4⟩
theorem fx_write_c {n held rn x : Nat} {v ra : Nat → Nat → Int32} {w : Nat → Nat → Int64} {las : Nat → Bool} {N A : List (List Nat)} (hn : 100000 ≤ n) (hr : rn ≤ 1000) (hh : held ≤ 90) (hR : RWS rn ra A) (hA : A.length < rn) (hT : TB v w las N) (hx : x < N.length) (hs : v 0 1 = nI held) :
    ∃ v' ra' : Nat → Nat → Int32, fx_X8_write n v rn ra (nI x) = some (v', ra') ∧ RWS rn ra' (A ++ [nth N x]) ∧ FRS v v' held ∧ v' 0 1 = nI held := by
  obtain ⟨ra1, s1, s2⟩ := fx_start_c (n := n) hr hR hA
  have nd := (TB_get hT hx).1
  obtain ⟨v1, y1, y2, y3⟩ := SKN_push (n := n) (S := []) (N := N) ⟨hs, fun j hj => absurd hj (Nat.not_lt_zero _)⟩ hx rfl (show held + 0 < 120 by omega)
  obtain ⟨v', ra', g1, g2, g3, g4⟩ := lx_wr21_c (n := n) (P0 := nI x) hn hr hh nd.2.2.2.1 20 n [] [nth N x] v1 ra1 rfl (by omega) (by simp) (fun a ha => by rw [List.mem_singleton.mp ha]; exact nd.1) (TB_FRS hT y3) y2 s2
  refine ⟨v', ra', ?_, g2, y3.trans g3, g4⟩
  unfold fx_X8_write
  rw [s1, xb2_s, if_neg (by decide), y1, xb1_s, hs]
  exact g1
