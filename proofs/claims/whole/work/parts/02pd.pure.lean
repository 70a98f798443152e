/-! ===== records, whole ===== -/
theorem klt_trans : ∀ {a b c : List Nat}, a.length = b.length → b.length = c.length → klt a b → klt b c → klt a c
  | [], b, c, _, _, h, _ => absurd h (by unfold klt cmpL; decide)
  | x :: a, [], c, h, _, _, _ => by simp at h
  | x :: a, y :: b, [], _, h, _, _ => by simp at h
  | x :: a, y :: b, z :: c, h1, h2, h, h' => by
    simp only [List.length_cons, Nat.add_right_cancel_iff] at h1 h2
    unfold klt cmpL at h h' ⊢
    by_cases q : x = y
    · subst q
      rw [if_pos rfl] at h
      by_cases q2 : x = z
      · subst q2
        rw [if_pos rfl] at h' ⊢
        exact klt_trans h1 h2 h h'
      · rw [if_neg q2] at h' ⊢; exact h'
    · rw [if_neg q] at h
      have hxy : x < y := by
        rcases Nat.lt_or_ge x y with g | g
        · exact g
        · rw [if_neg (by omega)] at h; exact absurd h (by decide)
      by_cases q2 : y = z
      · subst q2
        rw [if_neg q, if_pos hxy]
      · rw [if_neg q2] at h'
        have hyz : y < z := by
          rcases Nat.lt_or_ge y z with g | g
          · exact g
          · rw [if_neg (by omega)] at h'; exact absurd h' (by decide)
        rw [if_neg (by omega), if_pos (by omega)]
theorem klt_irrefl {a : List Nat} : ¬ klt a a := by
  intro h
  unfold klt at h
  rw [(cmpL_eq2 (l := a) (r := a) rfl).mpr rfl] at h
  exact absurd h (by decide)
theorem lx_records_121_ok {n : Nat} {fp fb f : Nat → Int32} {pv tm fm : Int32} {L : Nat} {k : List Nat} (hL : L ≤ 300) (hn : 100000 ≤ n) (hk : kok k) (hkl : la f (105 * L) k) : ∀ (R B : List (List Nat)) (m : Nat), (∀ q ∈ R, kok q) → la f 0 (R.reverse ++ B).flatten → R.length ≤ L → (∀ b ∈ B, cmpL b k = 1) → R.length < m →
    ∃ R' B' : List (List Nat), R'.reverse ++ B' = R.reverse ++ B ∧ (∀ b ∈ B', cmpL b k = 1) ∧ (∀ (y : List Nat) (r : List (List Nat)), R' = y :: r → cmpL y k ≠ 1) ∧ (∀ q ∈ R', kok q) ∧ R'.length ≤ L ∧ lx_records_121 n fp fb pv m (nI L) (nI R.length) fm f tm = jx_records_142 n fp fb pv (nI L) (nI R'.length) fm f tm
  | [], B, m + 1, _, _, _, hB, _ => by
    refine ⟨[], B, rfl, hB, fun _ _ h => by simp at h, fun _ h => absurd h List.not_mem_nil, Nat.zero_le _, ?_⟩
    show bx_records_121 n fp fb pv (lx_records_121 n fp fb pv m) _ _ _ _ _ = _
    unfold bx_records_121
    rw [if_pos (show nI ([] : List (List Nat)).length ≤ (0 : Int32) by decide)]
  | y :: R, B, m + 1, hR, hl, hRL, hB, hm => by
    simp only [List.length_cons] at hRL hm
    have hR2 : ∀ q ∈ R.reverse, kok q := fun q hq => hR q (List.mem_cons_of_mem _ (List.mem_reverse.mp hq))
    have e1 : (y :: R).reverse ++ B = R.reverse ++ y :: B := by simp
    have hy := hR y (List.mem_cons_self ..)
    have hya : la f (105 * R.length) y := by
      have := kat (f := f) (A := R.reverse) (B := B) (k := y) hR2 (by rw [← e1]; exact hl)
      rw [List.length_reverse] at this; exact this
    have eL : lx_records_121 n fp fb pv (m + 1) (nI L) (nI (R.length + 1)) fm f tm = bx_records_121 n fp fb pv (lx_records_121 n fp fb pv m) (nI L) (nI (R.length + 1)) fm f tm := rfl
    by_cases q : cmpL y k = 1
    · obtain ⟨R', B', g1, g2, g3, g4, g5, g6⟩ := lx_records_121_ok (fp := fp) (fb := fb) (pv := pv) (tm := tm) (fm := fm) hL hn hk hkl R (y :: B) m (fun z hz => hR z (List.mem_cons_of_mem _ hz)) (by rw [← e1]; exact hl) (by omega) (fun b hb' => by
          rcases List.mem_cons.mp hb' with g | g
          · rw [g]; exact q
          · exact hB b g) (by omega)
      refine ⟨R', B', by rw [g1, e1], g2, g3, g4, g5, ?_⟩
      rw [List.length_cons, eL]
      unfold bx_records_121
      rw [if_neg (nI_nle (by omega) (by omega)), xl_eq, nI_pred, fx_comparesFound_ok (by omega) (by omega) hy hk hya hkl hn, xb1_s, if_neg (by rw [q]; decide), xl_eq, nI_dec]
      exact g6
    · refine ⟨y :: R, B, rfl, hB, fun z r h => by rw [← (List.cons.inj h).1]; exact q, hR, by simp only [List.length_cons]; omega, ?_⟩
      rw [List.length_cons, eL]
      unfold bx_records_121
      rw [if_neg (nI_nle (by omega) (by omega)), xl_eq, nI_pred, fx_comparesFound_ok (by omega) (by omega) hy hk hya hkl hn, xb1_s, if_pos (by
        rcases cmpL_vals y k with g | g | g
        · rw [g]; decide
        · rw [g]; decide
        · exact absurd g q)]
theorem jx_records_142_ins {n : Nat} {fp fb f : Nat → Int32} {pv tm : Int32} {A B : List (List Nat)} {k : List Nat} (hk : kok k) (hAB : ∀ q ∈ A ++ B, kok q) (hkl : la f (105 * (A ++ B).length) k) (hl : la f 0 (A ++ B).flatten) (hL : (A ++ B).length < 300) (hn : 100000 ≤ n) :
    ∃ f' : Nat → Int32, lx_records_173 n fp fb pv n (nI (A ++ B).length) (nI A.length) 0 (nI (A ++ B).length) f tm = some (nI ((A ++ B).length + 1), f', tm) ∧ la f' 0 (A ++ k :: B).flatten := by
  have hA : ∀ q ∈ A, kok q := fun q hq => hAB q (List.mem_append_left _ hq)
  have hB : ∀ q ∈ B, kok q := fun q hq => hAB q (List.mem_append_right _ hq)
  have hAl := KS_flat_len hA
  have hBl := KS_flat_len hB
  have hlen : (A ++ B).length = A.length + B.length := List.length_append
  obtain ⟨f1, g1, g2, g3⟩ := lx_records_173_ok (n := n) (fp := fp) (fb := fb) (pv := pv) (tm := tm) (fm := nI (A ++ B).length) (x2 := nI A.length) (L := (A ++ B).length) (by omega) 105 0 n f (by omega) (by omega)
  obtain ⟨f2, k1, k2, k3⟩ := lx_records_222_ok (n := n) (fp := fp) (fb := fb) (pv := pv) (tm := tm) (fm := nI (A ++ B).length) (x1 := nI (A ++ B).length) (at_ := A.length) (by omega) (105 * B.length) (105 * (A ++ B).length) n f1 (by omega) (by omega) (by omega)
  obtain ⟨f3, m1, m2, m3⟩ := lx_records_255_ok (n := n) (fp := fp) (fb := fb) (pv := pv) (x1 := nI (A ++ B).length) (tm := tm) (fm := (A ++ B).length) (at_ := A.length) (by omega) 105 0 n f2 (by omega) (by omega)
  refine ⟨f3, (g1.trans (k1.trans m1)), ?_⟩
  rw [List.flatten_append] at hl
  obtain ⟨l1, l2⟩ := la_app.mp hl
  rw [List.flatten_append, List.flatten_cons]
  refine la_app.mpr ⟨?_, la_app.mpr ⟨?_, ?_⟩⟩
  · refine la_congr (fun i hi => ?_) l1
    rw [m3 _ (by omega), k3 _ (by omega), g3 _ (by omega)]
  · refine la_congr (fun i hi => ?_) hkl
    have hk1 := hk.1
    rw [m2 _ (by omega) (by omega), k3 _ (by omega), g2 _ (by omega) (by omega)]; exact congrArg f (by omega)
  · refine la_congr (fun i hi => ?_) l2
    have hk1 := hk.1
    rw [m3 _ (by omega), k2 _ (by omega) (by omega), g3 _ (by omega)]; exact congrArg f (by omega)
theorem fx_records_ok {n : Nat} {fp fb ff : Nat → Int32} {so : Nat → Nat} {pv tm : Int32} {sg : Nat → List Nat} {T : Nat} {F : List (List Nat)} (hn : 100000 ≤ n) (hT : T ≤ 60000) (hbd : ∀ v : Nat, v < 5 → hb pv v = true → bok fp fb so T v (sg v)) (hF : KS F) (hM : F.length ≤ 300) (hl : la ff 0 F.flatten) :
    ∃ (ff' : Nat → Int32) (fm' tm' : Int32), fx_records n fp fb (nI F.length) pv ff tm = some (fm', ff', tm') ∧
      ((key pv sg ∈ F ∧ fm' = nI F.length ∧ tm' = tm ∧ la ff' 0 F.flatten) ∨ (key pv sg ∉ F ∧ F.length = 300 ∧ tm' = 1) ∨
       (key pv sg ∉ F ∧ tm' = tm ∧ ∃ F' : List (List Nat), KS F' ∧ F'.length = F.length + 1 ∧ F'.length ≤ 300 ∧ fm' = nI F'.length ∧ la ff' 0 F'.flatten ∧ ∀ x : List Nat, x ∈ F' ↔ x ∈ F ∨ x = key pv sg)) := by
  have hk : kok (key pv sg) := ⟨by
      have := keyF_len (pv := pv) (sg := sg) (fun v hv q => by obtain ⟨a, _, _, _, b4, _⟩ := hbd v hv q; exact b4) 5 0 (by omega)
      exact this, keyF_ok (pv := pv) (sg := sg) (fun v hv q => by obtain ⟨a, _, _, b3, _⟩ := hbd v hv q; exact b3.2.1) 5 0 (by omega)⟩
  have hFl := KS_flat_len hF.1
  obtain ⟨f1, g1, g2, g3⟩ := lx_records_7_ok (n := n) (fp := fp) (fb := fb) (pv := pv) (tm := tm) (fm := nI F.length) hM 105 0 n ff (by omega) (by omega)
  obtain ⟨f2, k1, k2, k3⟩ := lx_records_35_ok (tm := tm) (fm := nI F.length) hM hn hT hbd 5 0 n f1 (by omega) (fun j h1 h2 => g2 j (by omega) h2) (by omega)
  have hl2 : la f2 0 F.flatten := la_congr (fun i hi => by rw [k3 _ (by omega), g3 _ (by omega)]) hl
  have hkl : la f2 (105 * F.length) (key pv sg) := k2
  obtain ⟨R, B, m1, m2, m3, m4, m5, m6⟩ := lx_records_121_ok (fp := fp) (fb := fb) (pv := pv) (tm := tm) (fm := nI F.length) hM hn hk hkl F.reverse [] n (fun q hq => hF.1 q (List.mem_reverse.mp hq)) (by rw [List.reverse_reverse, List.append_nil]; exact hl2) (by rw [List.length_reverse]; omega) (fun b hb' => absurd hb' List.not_mem_nil) (by rw [List.length_reverse]; omega)
  rw [List.reverse_reverse, List.append_nil] at m1
  rw [List.length_reverse] at m6
  have e0 : fx_records n fp fb (nI F.length) pv ff tm = jx_records_142 n fp fb pv (nI F.length) (nI R.length) (nI F.length) f2 tm := by
    unfold fx_records
    exact g1.trans (k1.trans m6)
  rw [e0]
  have hins : (∀ y ∈ R, klt y (key pv sg)) → ∃ (ff' : Nat → Int32) (fm' tm' : Int32), (if nI F.length = (300 : Int32) then some (nI F.length, f2, (1 : Int32)) else lx_records_173 n fp fb pv n (nI F.length) (nI R.length) 0 (nI F.length) f2 tm) = some (fm', ff', tm') ∧
      ((key pv sg ∈ F ∧ fm' = nI F.length ∧ tm' = tm ∧ la ff' 0 F.flatten) ∨ (key pv sg ∉ F ∧ F.length = 300 ∧ tm' = 1) ∨
       (key pv sg ∉ F ∧ tm' = tm ∧ ∃ F' : List (List Nat), KS F' ∧ F'.length = F.length + 1 ∧ F'.length ≤ 300 ∧ fm' = nI F'.length ∧ la ff' 0 F'.flatten ∧ ∀ x : List Nat, x ∈ F' ↔ x ∈ F ∨ x = key pv sg)) := by
    intro hlt
    have hBk : ∀ b ∈ B, klt (key pv sg) b := fun b hb' => by
      unfold klt; rw [cmpL_swap b (key pv sg), m2 b hb']
    have hnot : key pv sg ∉ F := by
      rw [← m1]
      intro h
      rcases List.mem_append.mp h with g | g
      · exact klt_irrefl (hlt _ (List.mem_reverse.mp g))
      · exact klt_irrefl (hBk _ g)
    by_cases q : F.length = 300
    · rw [if_pos (by rw [q]; rfl)]
      exact ⟨_, _, _, rfl, Or.inr (Or.inl ⟨hnot, q, rfl⟩)⟩
    · rw [if_neg (by rw [show (300 : Int32) = nI 300 from rfl, nI_inj (by omega) (by decide)]; exact q)]
      have hlr : R.reverse.length = R.length := List.length_reverse
      have hsub := hF
      rw [← m1] at hsub hkl hl2 hM
      obtain ⟨f', r1, r2⟩ := jx_records_142_ins (n := n) (fp := fp) (fb := fb) (pv := pv) (tm := tm) (A := R.reverse) (B := B) hk hsub.1 hkl hl2 (by rw [m1] at hM ⊢; omega) hn
      rw [m1, hlr] at r1
      refine ⟨f', _, _, r1, Or.inr (Or.inr ⟨hnot, rfl, R.reverse ++ key pv sg :: B, ⟨?_, ?_⟩, ?_, ?_, ?_, r2, ?_⟩)⟩
      · intro z hz
        rcases List.mem_append.mp hz with g | g
        · exact hsub.1 z (List.mem_append_left _ g)
        · rcases List.mem_cons.mp g with g | g
          · rw [g]; exact hk
          · exact hsub.1 z (List.mem_append_right _ g)
      · have hp := List.pairwise_append.mp hsub.2
        refine List.pairwise_append.mpr ⟨hp.1, List.pairwise_cons.mpr ⟨hBk, hp.2.1⟩, ?_⟩
        intro x hx y hy
        rcases List.mem_cons.mp hy with g | g
        · rw [g]; exact hlt x (List.mem_reverse.mp hx)
        · exact hp.2.2 x hx y g
      · rw [← m1]; simp; omega
      · rw [← m1] at q; simp only [List.length_append, List.length_cons] at q hM ⊢; omega
      · congr 1; rw [← m1]; simp; omega
      · intro x
        rw [← m1]
        simp only [List.mem_append, List.mem_cons]
        constructor
        · rintro (h | h | h)
          · exact Or.inl (Or.inl h)
          · exact Or.inr h
          · exact Or.inl (Or.inr h)
        · rintro ((h | h) | h)
          · exact Or.inl h
          · exact Or.inr (Or.inr h)
          · exact Or.inr (Or.inl h)
  unfold jx_records_142
  cases R with
  | nil =>
    rw [if_pos (show nI ([] : List (List Nat)).length ≤ (0 : Int32) by decide)]
    exact hins (fun y hy => absurd hy List.not_mem_nil)
  | cons y R =>
    have hy := m4 y (List.mem_cons_self ..)
    have hR2 : ∀ q ∈ R.reverse, kok q := fun q hq => m4 q (List.mem_cons_of_mem _ (List.mem_reverse.mp hq))
    have e1 : (y :: R).reverse ++ B = R.reverse ++ y :: B := by simp
    have hya : la f2 (105 * R.length) y := by
      have := kat (f := f2) (A := R.reverse) (B := B) (k := y) hR2 (by rw [← e1, m1]; exact hl2)
      rw [List.length_reverse] at this; exact this
    have hm5 := m5
    simp only [List.length_cons] at hm5
    have hyk : cmpL y (key pv sg) ≠ 1 := m3 y R rfl
    rw [List.length_cons, if_neg (nI_nle (by omega) (by omega)), xl_eq, nI_pred, fx_comparesFound_ok (by omega) (by omega) hy hk hya hkl hn, xb1_s]
    by_cases q : cmpL y (key pv sg) = 0
    · rw [if_pos q]
      have e : y = key pv sg := (cmpL_eq2 (by rw [hy.1, hk.1])).mp q
      exact ⟨_, _, _, rfl, Or.inl ⟨by rw [← e, ← m1, e1]; exact List.mem_append_right _ (List.mem_cons_self ..), rfl, rfl, hl2⟩⟩
    · rw [if_neg q]
      have hylt : klt y (key pv sg) := by
        rcases cmpL_vals y (key pv sg) with g | g | g
        · exact g
        · exact absurd g q
        · exact absurd g hyk
      refine hins (fun z hz => ?_)
      rcases List.mem_cons.mp hz with g | g
      · rw [g]; exact hylt
      · have hs := hF.2
        rw [← m1, e1] at hs
        have hzy := (List.pairwise_append.mp hs).2.2 z (List.mem_reverse.mpr g) y (List.mem_cons_self ..)
        have hz1 := m4 z (List.mem_cons_of_mem _ g)
        exact klt_trans (by rw [hz1.1, hy.1]) (by rw [hy.1, hk.1]) hzy hylt
