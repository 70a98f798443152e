/-! ===== the stepper: the places of a term ===== -/
def off (s : List Nat) (j : Nat) : Nat := ((pts s).take j).flatten.length
def PTH (w : List Nat) (k p j : Nat) : Prop := p < k ∧ p < w.length ∧ j < (pts (sbt w p)).length ∧ k = p + 1 + off (sbt w p) j
theorem off_0 {s : List Nat} : off s 0 = 0 := rfl
theorem nth_split {ps : List (List Nat)} {j : Nat} (h : j < ps.length) : ps = ps.take j ++ (nth ps j :: ps.drop (j + 1)) := by
  have e : nth ps j = ps[j] := by unfold nth; rw [List.getD_eq_getElem?_getD, List.getElem?_eq_getElem h]; rfl
  rw [e, List.getElem_cons_drop, List.take_append_drop]
theorem off_s {s : List Nat} {j : Nat} (h : j < (pts s).length) : off s (j + 1) = off s j + (nth (pts s) j).length := by
  unfold off
  have e : nth (pts s) j = (pts s)[j] := by unfold nth; rw [List.getD_eq_getElem?_getD, List.getElem?_eq_getElem h]; rfl
  rw [List.take_succ_eq_append_getElem h, List.flatten_append, List.length_append, e]
  simp
theorem off_full {s : List Nat} (h : wf 1 s) : off s (pts s).length + 1 = s.length := by
  unfold off
  rw [List.take_length]
  have := congrArg List.length (row_pts h)
  rw [List.length_cons] at this
  omega
theorem sbt_tokl {so ma : Nat → Nat} {un : Nat → Option Nat} {nv : Nat} {w : List Nat} {p : Nat} (h : tok so un ma nv w) (hp : p < w.length) : tok so un ma nv (sbt w p) ∧ p + (sbt w p).length ≤ w.length := by
  obtain ⟨A, s, B, e1, e2, e3⟩ := sub_nok h.1 hp
  have es : sbt w p = s := by rw [e1, ← e2]; exact sbt_app e3.1.1
  rw [es]
  refine ⟨subrow_tok (Nat.le_refl _) h e1 e3.1.1, ?_⟩
  rw [e1, List.length_append, List.length_append]; omega
theorem sbt_0 {so ma : Nat → Nat} {un : Nat → Option Nat} {nv : Nat} {w : List Nat} (h : tok so un ma nv w) : sbt w 0 = w := by
  have := sbt_app (A := []) (B := []) h.1.1.1
  rw [List.append_nil, List.nil_append] at this
  exact this
theorem sbt_part {so ma : Nat → Nat} {un : Nat → Option Nat} {nv : Nat} {w : List Nat} {p j : Nat} (h : tok so un ma nv w) (hp : p < w.length) (hj : j < (pts (sbt w p)).length) : sbt w (p + 1 + off (sbt w p) j) = nth (pts (sbt w p)) j ∧ p + 1 + off (sbt w p) j < w.length := by
  obtain ⟨A, s, B, e1, e2, e3⟩ := sub_nok h.1 hp
  have es : sbt w p = s := by rw [e1, ← e2]; exact sbt_app e3.1.1
  have tp := (sbt_tokl h hp).1
  rw [es] at hj tp ⊢
  have tq := tok_pts tp _ (nth_mem hj)
  have e4 : w = (A ++ (hd0 s :: ((pts s).take j).flatten)) ++ (nth (pts s) j ++ (((pts s).drop (j + 1)).flatten ++ B)) := by
    rw [e1]
    have r := row_pts e3.1.1
    have sp := congrArg List.flatten (nth_split hj)
    rw [List.flatten_append, List.flatten_cons] at sp
    rw [sp] at r
    calc A ++ (s ++ B) = A ++ ((hd0 s :: (((pts s).take j).flatten ++ (nth (pts s) j ++ ((pts s).drop (j + 1)).flatten))) ++ B) := by rw [← r]
      _ = _ := by simp
  have el : (A ++ (hd0 s :: ((pts s).take j).flatten)).length = p + 1 + off s j := by
    unfold off
    rw [List.length_append, List.length_cons, e2]; omega
  have hq := wf_pos tq.1.1.1
  constructor
  · rw [← el]
    have := sbt_app (A := A ++ (hd0 s :: ((pts s).take j).flatten)) (B := ((pts s).drop (j + 1)).flatten ++ B) tq.1.1.1
    rw [← e4] at this
    exact this
  · have l := congrArg List.length e4
    rw [List.length_append, el, List.length_append] at l
    omega
/-- places laid -/
def PND (u : Nat → Nat → Int32) (N : List (List Nat)) (w : List Nat) (K : Nat) : Prop :=
  ∀ k : Nat, k < K → (∃ y : Nat, y < N.length ∧ nth N y = sbt w k ∧ u 6 k = nI y) ∧ ((k = 0 ∧ u 7 0 = -1) ∨ ∃ p j : Nat, PTH w k p j ∧ u 7 k = nI p ∧ u 8 k = nI j)
def CHA (u : Nat → Nat → Int32) (w : List Nat) : Nat → Nat → Prop
  | 0, a => a = 0 ∧ u 7 0 = -1
  | d + 1, a => (a = 0 ∧ u 7 0 = -1) ∨ ∃ p j : Nat, PTH w a p j ∧ u 7 a = nI p ∧ u 9 p = nI (j + 1) ∧ CHA u w d p
theorem CHA_frame {u u' : Nat → Nat → Int32} {w : List Nat} : ∀ {d a : Nat}, (∀ i : Nat, i ≤ a → u' 7 i = u 7 i) → (∀ i : Nat, i < a → u' 9 i = u 9 i) → CHA u w d a → CHA u' w d a
  | 0, a, h7, _, h => ⟨h.1, by rw [h7 0 (Nat.zero_le _)]; exact h.2⟩
  | d + 1, a, h7, h9, h => by
    rcases h with h | ⟨p, j, b1, b2, b3, b4⟩
    · exact Or.inl ⟨h.1, by rw [h7 0 (Nat.zero_le _)]; exact h.2⟩
    · have := b1.1
      exact Or.inr ⟨p, j, b1, by rw [h7 a (Nat.le_refl _)]; exact b2, by rw [h9 p b1.1]; exact b3, CHA_frame (fun i hi => h7 i (by omega)) (fun i hi => h9 i (by omega)) b4⟩
theorem lx_await_c {n K : Nat} {u vt : Nat → Nat → Int32} {w8 : Nat → Nat → Int64} {las : Nat → Bool} {N : List (List Nat)} {so ma : Nat → Nat} {un : Nat → Option Nat} {nv : Nat} {w : List Nat} {P0 : Int32} (hw : tok so un ma nv w) (hT : TB vt w8 las N) (hP : PND u N w K) (hK : K ≤ 20) (hKw : K ≤ w.length) :
    ∀ (d a m up s : Nat), CHA u w d a → a < K → u 9 a = nI s → s ≤ (pts (sbt w a)).length → K = a + 1 + off (sbt w a) s → up + a + 1 ≤ 20 → a + 2 < m →
      (∃ p s' d' : Nat, lx_X7_awaiting_4 n u vt P0 m (nI a) (nI up) = some (nI p) ∧ CHA u w d' p ∧ u 9 p = nI s' ∧ PTH w K p s') ∨ (lx_X7_awaiting_4 n u vt P0 m (nI a) (nI up) = some (-1) ∧ K = w.length)
  | d, a, 0, _, _, _, _, _, _, _, _, hm => absurd hm (Nat.not_lt_zero _)
  | d, a, m + 1, up, s, hC, ha, h9, hs, hk, hu, hm => by
    have haw : a < w.length := by omega
    obtain ⟨ts, hsl⟩ := sbt_tokl hw haw
    obtain ⟨⟨y, y1, y2, y3⟩, _⟩ := hP a ha
    have co := fx_codeOf_c (n := n) hT y1
    have nd := (TB_get hT y1).1
    have hc := nd.2.1 _ (hd0_mem nd.1)
    rw [y2] at co hc
    have pl := pts_len ts.1.1.1
    have al : ar (hd0 (sbt w a)) ≤ 6 := by have := nd.2.2.2.2; rw [y2] at this; exact this
    have hsh : lx_X7_awaiting_4 n u vt P0 (m + 1) (nI a) (nI up) = bx_X7_awaiting_4 n u vt P0 (lx_X7_awaiting_4 n u vt P0 m) (nI a) (nI up) := rfl
    have e20 : (20 : Int32) = nI 20 := rfl
    have e1 : bx_X7_awaiting_4 n u vt P0 (lx_X7_awaiting_4 n u vt P0 m) (nI a) (nI up) = (if nI (ar (hd0 (sbt w a))) ≤ nI s then lx_X7_awaiting_4 n u vt P0 m (u 7 a) (nI (up + 1)) else some (nI a)) := by
      unfold bx_X7_awaiting_4
      rw [if_neg (by rw [e20, nI_le_iff (by decide) (by omega)]; omega), if_neg (by rw [show (0 : Int32) = nI 0 from rfl, nI_lt_iff (by omega) (by decide)]; omega), if_neg (by rw [e20, nI_le_iff (by decide) (by omega)]; omega), xr_n (by omega) (by decide), xr_n (by omega) (by decide), y3, co, xb1_s, fx_partsIn_c hc, xb1_s, h9, xr_n (by omega) (by decide)]
      simp only [xl_eq, nI_1]
    rw [hsh, e1]
    by_cases q : ar (hd0 (sbt w a)) ≤ s
    · rw [if_pos (by rw [nI_le_iff (by omega) (by omega)]; exact q)]
      have es : s = (pts (sbt w a)).length := by omega
      have hfull := off_full ts.1.1.1
      rw [es] at hk
      have stop : a = 0 → u 7 0 = -1 → lx_X7_awaiting_4 n u vt P0 m (u 7 a) (nI (up + 1)) = some (-1) ∧ K = w.length := fun e0 e7 => by
        rw [e0] at hk hfull
        rw [sbt_0 hw] at hk hfull
        refine ⟨?_, by omega⟩
        rw [e0, e7]
        cases m with
        | zero => omega
        | succ m =>
          show bx_X7_awaiting_4 n u vt P0 (lx_X7_awaiting_4 n u vt P0 m) (-1) (nI (up + 1)) = _
          unfold bx_X7_awaiting_4
          rw [if_pos (show (-1 : Int32) < 0 by decide)]
          split <;> rfl
      cases d with
      | zero => exact Or.inr (stop hC.1 hC.2)
      | succ d =>
        rcases hC with h | ⟨p, j, b1, b2, b3, b4⟩
        · exact Or.inr (stop h.1 h.2)
        · rw [b2]
          obtain ⟨c1, c2, c3, c4⟩ := b1
          obtain ⟨g1, g2⟩ := sbt_part hw c2 c3
          rw [← c4] at g1
          rw [g1] at hfull hk
          have := off_s c3
          exact lx_await_c hw hT hP hK hKw d p m (up + 1) (j + 1) b4 (by omega) b3 (by omega) (by omega) (by omega) (by omega)
    · rw [if_neg (by rw [nI_le_iff (by omega) (by omega)]; exact q)]
      exact Or.inl ⟨a, s, d, rfl, hC, h9, by omega, haw, by omega, hk⟩
/-- what laying places leaves -/
def FSP (u u' : Nat → Nat → Int32) : Prop := (∀ a : Nat, a ≠ 0 → a ≠ 6 → a ≠ 7 → a ≠ 8 → a ≠ 9 → u' a = u a) ∧ ∀ i : Nat, i ≠ 2 → u' 0 i = u 0 i
theorem FSP.trans {u u' u'' : Nat → Nat → Int32} (h : FSP u u') (h' : FSP u' u'') : FSP u u'' := ⟨fun a x0 x6 x7 x8 x9 => (h'.1 a x0 x6 x7 x8 x9).trans (h.1 a x0 x6 x7 x8 x9), fun i hi => (h'.2 i hi).trans (h.2 i hi)⟩
theorem lx_lay_c {n most ro : Nat} {vt : Nat → Nat → Int32} {w8 : Nat → Nat → Int64} {las : Nat → Bool} {N : List (List Nat)} {so ma : Nat → Nat} {un : Nat → Option Nat} {nv : Nat} {w : List Nat} (hn : 100000 ≤ n) (hw : tok so un ma nv w) (hT : TB vt w8 las N) (hro : ro < N.length) (hro2 : nth N ro = w) (hm20 : most ≤ 20) :
    ∀ (r k m : Nat) (x3 : Int32) (u : Nat → Nat → Int32), k + r = 20 → r < m → k ≤ w.length → k ≤ most → PND u N w k → ((k = 0 ∧ x3 = -1) ∨ ∃ k' d : Nat, k = k' + 1 ∧ x3 = nI k' ∧ u 9 k' = nI 0 ∧ CHA u w d k') → u 0 2 = nI k →
      ∃ (u' : Nat → Nat → Int32) (K : Nat), lx_X7_layPlaces_10 n vt (nI ro) (nI most) m x3 (nI k) u = some u' ∧ PND u' N w K ∧ u' 0 2 = nI K ∧ K ≤ w.length ∧ K ≤ most ∧ (K = w.length ∨ K = most) ∧ FSP u u'
  | 0, k, m + 1, x3, u, hkr, _, hkw, hkm, hP, _, h2 => by
    have ek : k = 20 := by omega
    refine ⟨u, k, ?_, hP, h2, hkw, hkm, Or.inr (by omega), ⟨fun _ _ _ _ _ _ => rfl, fun _ _ => rfl⟩⟩
    show bx_X7_layPlaces_10 n vt (nI ro) (nI most) (lx_X7_layPlaces_10 n vt (nI ro) (nI most) m) x3 (nI k) u = _
    unfold bx_X7_layPlaces_10
    rw [if_pos (by rw [nI_le_iff (by omega) (by omega)]; omega)]
  | r + 1, k, m + 1, x3, u, hkr, hm, hkw, hkm, hP, hx, h2 => by
    have w20 := tok_len hw
    have wp := wf_pos hw.1.1.1
    have hsh : lx_X7_layPlaces_10 n vt (nI ro) (nI most) (m + 1) x3 (nI k) u = bx_X7_layPlaces_10 n vt (nI ro) (nI most) (lx_X7_layPlaces_10 n vt (nI ro) (nI most) m) x3 (nI k) u := rfl
    rw [hsh]
    unfold bx_X7_layPlaces_10
    by_cases q : most ≤ k
    · rw [if_pos (by rw [nI_le_iff (by omega) (by omega)]; exact q)]
      exact ⟨u, k, rfl, hP, h2, hkw, hkm, Or.inr (by omega), ⟨fun _ _ _ _ _ _ => rfl, fun _ _ => rfl⟩⟩
    · rw [if_neg (by rw [nI_le_iff (by omega) (by omega)]; exact q), if_neg (by rw [show (20 : Int32) = nI 20 from rfl, nI_le_iff (by decide) (by omega)]; omega)]
      rcases hx with ⟨k0, x0⟩ | ⟨k', d, e1, e2, e3, e4⟩
      · subst k0
        have aw : fx_X7_awaiting n u vt x3 = some (-1) := by
          unfold fx_X7_awaiting
          obtain ⟨n', rfl⟩ : ∃ n' : Nat, n = n' + 1 := ⟨n - 1, by omega⟩
          show bx_X7_awaiting_4 (n' + 1) u vt x3 _ x3 0 = _
          unfold bx_X7_awaiting_4
          rw [if_neg (by decide), x0, if_pos (by decide)]
        rw [aw, xb1_s, if_pos (by decide), if_pos (by decide)]
        unfold jx_X7_layPlaces_66
        rw [xwp_n (by decide) (by decide), if_pos (by decide)]
        unfold jx_X7_layPlaces_102
        rw [xwp_n (by decide) (by decide), xwp_n (by decide) (by decide), xwp_n (by decide) (by decide), if_pos (by decide), xl_eq, xl_eq, xl_eq, nI_1]
        generalize hu1 : mu (mu (mu (mu (mu u 8 0 0) 6 0 (nI ro)) 7 0 (-1)) 9 0 0) 0 2 (nI (0 + 1)) = u1
        have fs : FSP u u1 := by
          refine ⟨fun a x0 x6 x7 x8 x9 => ?_, fun i hi => ?_⟩
          · rw [← hu1, mu_ne x0, mu_ne x9, mu_ne x7, mu_ne x6, mu_ne x8]
          · rw [← hu1, mu_eq, upd_ne hi, mu_ne (by decide), mu_ne (by decide), mu_ne (by decide), mu_ne (by decide)]
        have a7 : u1 7 0 = -1 := by rw [← hu1, mu_ne (by decide), mu_ne (by decide), mu_eq, upd_eq]
        obtain ⟨u', K, g1, g2, g3, g4, g5, g6, g7⟩ := lx_lay_c hn hw hT hro hro2 hm20 r 1 m (nI 0) u1 (by omega) (by omega) (by omega) (by omega) (fun i hi => by
          have : i = 0 := by omega
          subst this
          exact ⟨⟨ro, hro, by rw [sbt_0 hw]; exact hro2, by rw [← hu1, mu_ne (by decide), mu_ne (by decide), mu_ne (by decide), mu_eq, upd_eq]⟩, Or.inl ⟨rfl, a7⟩⟩) (Or.inr ⟨0, 0, rfl, rfl, by rw [← hu1, mu_ne (by decide), mu_eq, upd_eq]; rfl, rfl, a7⟩) (by rw [← hu1, mu_eq, upd_eq])
        exact ⟨u', K, g1, g2, g3, g4, g5, g6, FSP.trans fs g7⟩
      · subst e1
        have aw := lx_await_c (n := n) (K := k' + 1) (P0 := x3) hw hT hP (by omega) hkw d k' n 0 0 e4 (by omega) e3 (Nat.zero_le _) (by rw [off_0]) (by omega) (by omega)
        have e0 : fx_X7_awaiting n u vt x3 = lx_X7_awaiting_4 n u vt x3 n (nI k') (nI 0) := by
          unfold fx_X7_awaiting
          rw [e2]; rfl
        have pos : ¬ nI (k' + 1) ≤ (0 : Int32) := by rw [show (0 : Int32) = nI 0 from rfl, nI_le_iff (by omega) (by decide)]; omega
        rcases aw with ⟨p, s', d', b1, b2, b3, b4⟩ | ⟨b1, b2⟩
        · obtain ⟨c1, c2, c3, c4⟩ := b4
          obtain ⟨s1, s2⟩ := sbt_part hw c2 c3
          rw [← c4] at s1 s2
          obtain ⟨⟨y, y1, y2, y3⟩, _⟩ := hP p c1
          have tsp := (sbt_tokl hw c2).1
          have plp := pts_len tsp.1.1.1
          obtain ⟨z, z1, z2, z3⟩ := fx_partOf_c (n := n) hT y1 (j := s') (by rw [y2, ← plp]; exact c3)
          rw [y2, ← s1] at z2
          have h6 := (TB_get hT y1).1.2.2.2.2
          rw [y2, ← plp] at h6
          rw [e0, b1, xb1_s, if_neg pos, if_neg (by rw [show (0 : Int32) = nI 0 from rfl, nI_lt_iff (by omega) (by decide)]; omega), if_pos (by rw [nI_lt_iff (by omega) (by omega)]; exact c1), if_neg pos, xr_n (by omega) (by decide), b3]
          unfold jx_X7_layPlaces_66
          rw [xwp_n (by omega) (by decide), if_neg pos, xr_n (by omega) (by decide), xr_n (by omega) (by decide), mu_ne (by decide), y3, mu_eq, upd_eq, z3, xb1_s]
          unfold jx_X7_layPlaces_102
          rw [xwp_n (by omega) (by decide), xwp_n (by omega) (by decide), xwp_n (by omega) (by decide), if_neg pos, xr_n (by omega) (by decide), mu_eq, upd_ne (by omega), mu_ne (by decide), mu_ne (by decide), mu_ne (by decide), b3, xl_eq, nI_1, xwp_n (by omega) (by decide), xl_eq, nI_1, xl_eq, xl_eq]
          generalize hu1 : mu (mu (mu (mu (mu (mu u 8 (k' + 1) (nI s')) 6 (k' + 1) (nI z)) 7 (k' + 1) (nI p)) 9 (k' + 1) 0) 9 p (nI (s' + 1))) 0 2 (nI (k' + 1 + 1)) = u1
          have a6 : ∀ i : Nat, u1 6 i = if i = k' + 1 then nI z else u 6 i := fun i => by
            rw [← hu1, mu_ne (by decide), mu_ne (by decide), mu_ne (by decide), mu_ne (by decide), mu_eq]
            by_cases e : i = k' + 1
            · rw [if_pos e, e, upd_eq]
            · rw [if_neg e, upd_ne e, mu_ne (by decide)]
          have a7 : ∀ i : Nat, u1 7 i = if i = k' + 1 then nI p else u 7 i := fun i => by
            rw [← hu1, mu_ne (by decide), mu_ne (by decide), mu_ne (by decide), mu_eq]
            by_cases e : i = k' + 1
            · rw [if_pos e, e, upd_eq]
            · rw [if_neg e, upd_ne e, mu_ne (by decide), mu_ne (by decide)]
          have a8 : ∀ i : Nat, u1 8 i = if i = k' + 1 then nI s' else u 8 i := fun i => by
            rw [← hu1, mu_ne (by decide), mu_ne (by decide), mu_ne (by decide), mu_ne (by decide), mu_ne (by decide), mu_eq]
            by_cases e : i = k' + 1
            · rw [if_pos e, e, upd_eq]
            · rw [if_neg e, upd_ne e]
          have a9 : ∀ i : Nat, u1 9 i = if i = p then nI (s' + 1) else if i = k' + 1 then 0 else u 9 i := fun i => by
            rw [← hu1, mu_ne (by decide), mu_eq]
            by_cases e : i = p
            · rw [if_pos e, e, upd_eq]
            · rw [if_neg e, upd_ne e, mu_eq]
              by_cases e' : i = k' + 1
              · rw [if_pos e', e', upd_eq]
              · rw [if_neg e', upd_ne e', mu_ne (by decide), mu_ne (by decide), mu_ne (by decide)]
          have fs : FSP u u1 := by
            refine ⟨fun a x0 x6 x7 x8 x9 => ?_, fun i hi => ?_⟩
            · rw [← hu1, mu_ne x0, mu_ne x9, mu_ne x9, mu_ne x7, mu_ne x6, mu_ne x8]
            · rw [← hu1, mu_eq, upd_ne hi, mu_ne (by decide), mu_ne (by decide), mu_ne (by decide), mu_ne (by decide), mu_ne (by decide)]
          have pth : PTH w (k' + 1) p s' := ⟨c1, c2, c3, c4⟩
          obtain ⟨u', K, g1, g2, g3, g4, g5, g6, g7⟩ := lx_lay_c hn hw hT hro hro2 hm20 r (k' + 1 + 1) m (nI (k' + 1)) u1 (by omega) (by omega) (by omega) (by omega) (fun i hi => by
            by_cases e : i = k' + 1
            · subst e
              exact ⟨⟨z, by omega, z2, by rw [a6, if_pos rfl]⟩, Or.inr ⟨p, s', pth, by rw [a7, if_pos rfl], by rw [a8, if_pos rfl]⟩⟩
            · obtain ⟨⟨y', v1, v2, v3⟩, hh⟩ := hP i (by omega)
              refine ⟨⟨y', v1, v2, by rw [a6, if_neg e]; exact v3⟩, ?_⟩
              rcases hh with ⟨f1, f2⟩ | ⟨p2, j2, f1, f2, f3⟩
              · exact Or.inl ⟨f1, by rw [a7, if_neg (by omega)]; exact f2⟩
              · exact Or.inr ⟨p2, j2, f1, by rw [a7, if_neg e]; exact f2, by rw [a8, if_neg e]; exact f3⟩) (Or.inr ⟨k' + 1, d' + 1, rfl, rfl, by rw [a9, if_neg (by omega), if_pos rfl]; rfl, Or.inr ⟨p, s', pth, by rw [a7, if_pos rfl], by rw [a9, if_pos rfl], CHA_frame (fun i hi => by rw [a7, if_neg (by omega)]) (fun i hi => by rw [a9, if_neg (by omega), if_neg (by omega)]) b2⟩⟩) (by rw [← hu1, mu_eq, upd_eq])
          exact ⟨u', K, g1, g2, g3, g4, g5, g6, FSP.trans fs g7⟩
        · rw [e0, b1, xb1_s, if_neg pos, if_pos (by decide)]
          exact ⟨u, k' + 1, rfl, hP, h2, hkw, hkm, Or.inl b2, ⟨fun _ _ _ _ _ _ => rfl, fun _ _ => rfl⟩⟩
theorem fx_layPlaces_c {n most ro : Nat} {u vt : Nat → Nat → Int32} {w8 : Nat → Nat → Int64} {las : Nat → Bool} {N : List (List Nat)} {so ma : Nat → Nat} {un : Nat → Option Nat} {nv : Nat} {w : List Nat} (hn : 100000 ≤ n) (hw : tok so un ma nv w) (hT : TB vt w8 las N) (hro : ro < N.length) (hro2 : nth N ro = w) (hm20 : most ≤ 20) :
    ∃ (u' : Nat → Nat → Int32) (K : Nat), fx_X7_layPlaces n u vt (nI ro) (nI most) = some u' ∧ PND u' N w K ∧ u' 0 2 = nI K ∧ K ≤ w.length ∧ K ≤ most ∧ (K = w.length ∨ K = most) ∧ FSP u u' := by
  obtain ⟨u', K, g1, g2, g3, g4, g5, g6, g7⟩ := lx_lay_c (n := n) hn hw hT hro hro2 hm20 20 0 n (-1) (mu u 0 2 0) rfl (by omega) (Nat.zero_le _) (Nat.zero_le _) (fun k hk => absurd hk (Nat.not_lt_zero k)) (Or.inl ⟨rfl, rfl⟩) (by rw [mu_eq, upd_eq]; rfl)
  refine ⟨u', K, ?_, g2, g3, g4, g5, g6, FSP.trans ⟨fun a x0 _ _ _ _ => by rw [mu_ne x0], fun i hi => by rw [mu_eq, upd_ne hi]⟩ g7⟩
  unfold fx_X7_layPlaces
  rw [xl_eq]
  exact g1
