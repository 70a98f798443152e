/-! ===== shares, whole ===== -/
theorem fx_goesOn_ok {slf : SLF} {n : Nat} {fs fu : Nat → Int32} {so : Nat → Nat} {un : Nat → Option Nat} {pv : Int32} {d op k h base to W n0 T : Nat} {ps xs : List (Nat × List Nat)} {t : List Nat} {G : List Goal} {be : Nat → Option (List Nat)} (hcx : CXS slf n fs fu so un pv d op k h base to W n0 T ps xs t G be) {A : List Nat} {fp fgp fgt fb fw ff : Nat → Int32} {fm tm : Int32} {E : List Nat → Prop} (hl : A.length = xs.length) (haK : ∀ a ∈ A, a < k) (hdy : DYN so un k base to T ps xs G be A fp fgp fgt fb fw) (he : EXS E fm ff tm) :
    PO n0 fp T fgp fgt fb fw W (fun q => E q ∨ SolA so un pv G be op (ps.map Prod.snd) (flat1 so un op t) A q) (fx_goesOn slf n fs fu fp (nI T) fgp fgt fb fw (nI W) fm pv ff tm (nI n0) (nI op) (nI base) (nI k) (nI h)) := by
  obtain ⟨⟨c1, c2', c3, c4⟩, ⟨d1, d2, d3, d4, d5⟩, ⟨e1, e2, e3, e4, e5, e6⟩, f1, ⟨g1, g2, g3, g4⟩, hcov⟩ := hcx
  obtain ⟨y1, y2, y3, y4, y5, y6, y7, y8, y9⟩ := hdy
  unfold fx_goesOn
  rw [xl_eq, nI_add, xl_eq, nI_add, ← e1, show (0 : Int32) = nI 0 from rfl]
  exact lx_goesOn_12_ok c1 c2' c3 c4 d1 d2 d3 d4 d5 e1 e2 e3 y9 y8 (fun a ha => by have := haK a ha; omega) hl e4 y1 y6 he g4 e5 e6 y7 y2 f1 y3 y4 y5 g1 g2 g3 (hcov A) k 0 n (by omega) (fun i' hi' => absurd hi' (Nat.not_lt_zero i')) (by omega)
theorem last_get {f : Nat → Int32} {L : List Nat} {a x : Nat} (h : la f a (L ++ [x])) : f (a + L.length) = nI x := (la_app.mp h).2.1
theorem fx_shares_ok {slf : SLF} {n : Nat} {fs fu : Nat → Int32} {so : Nat → Nat} {un : Nat → Option Nat} {pv : Int32} {d op k h base to W n0 T : Nat} {ps xs : List (Nat × List Nat)} {t : List Nat} {G : List Goal} {be : Nat → Option (List Nat)} (hcx : CXS slf n fs fu so un pv d op k h base to W n0 T ps xs t G be) : ∀ e : Nat, SHOK (fx_shares slf e) n fs fu so un pv op k h base to W n0 T ps xs t G be e
  | 0 => fun A0 X1 X2 fp fgp fgt fb fw fm ff tm E _ _ he => absurd he (Nat.not_lt_zero _)
  | e + 1 => fun A0 X1 X2 fp fgp fgt fb fw fm ff tm E hxs hA he haK hV hdy hex => by
    have ih := fx_shares_ok hcx e
    have hcx0 := hcx
    obtain ⟨⟨c1, c2', c3, c4⟩, ⟨d1, d2, d3, d4, d5⟩, ⟨e1, e2, e3, e4, e5, e6⟩, f1, ⟨g1, g2, g3, g4⟩, hcov⟩ := hcx
    have hdy0 := hdy
    obtain ⟨y1, y2, y3, y4, y5, y6, y7, y8, y9⟩ := hdy
    have hfl := flat1_len (so := so) (un := un) (op := op) d3.1.1
    have hhl : (flat1 so un op t).length = h := by rw [← d5, List.length_map]; exact e4
    have hh : X1.length + X2.length = h := by rw [← e4, hxs]; simp
    show PS n0 fp T fgp fgt fb fw W _ _ (gx_shares (fx_shares slf e) slf n fs fu fp (nI T) fgp fgt fb fw (nI W) fm pv ff tm (nI n0) (nI op) (nI base) (nI k) (nI h) (nI A0.length))
    unfold gx_shares
    by_cases qt : tm = 0
    · rw [if_pos qt]
      cases X2 with
      | nil =>
        simp only [List.length_nil, Nat.add_zero, List.append_nil] at hh hxs
        rw [if_pos (by rw [hA, hh])]
        subst hxs
        have hH : xs.map Prod.snd = flat1 so un op t := d5
        obtain ⟨fp', fgp', fgt', fb', fw', fm', ff', tm', r1, r2, r3, r4, r5, r6⟩ := fx_goesOn_ok hcx0 hA haK hdy0 hex
        rw [r1, xb10_s]
        refine ⟨fp', fgp', fgt', fb', fw', fm', ff', tm', rfl, r2, r3, r4, fun i hi => r5 i (by omega), EXS_iff (fun q => or_congr Iff.rfl ⟨?_, ?_⟩) r6⟩
        · intro hs
          refine ⟨[], by simp; omega, ?_, by rw [List.append_nil]; exact hs⟩
          rw [List.append_nil, ← hH]; exact hV
        · rintro ⟨B, b1, b2, b3⟩
          have : B = [] := List.length_eq_zero_iff.mp (by rw [List.length_append] at b1; omega)
          rw [this, List.append_nil] at b3; exact b3
      | cons x X2 =>
        simp only [List.length_cons] at hh he
        obtain ⟨z1, z2⟩ := y1 x (by rw [hxs]; simp)
        have hxa : fw (base + k + A0.length) = nI x.1 := by
          have h8 := y8
          rw [hxs, show adr (X1 ++ x :: X2) = adr X1 ++ x.1 :: adr X2 by simp [adr]] at h8
          have h9 := (la_app.mp h8).2.1
          rw [show (adr X1).length = A0.length by simp [adr, hA]] at h9; exact h9
        have start : ∀ (first : Nat) (x9 : Int32), (∀ (i0 : Nat) (h0 : List Nat), A0.reverse.head? = some i0 → (X1.map Prod.snd).reverse.head? = some h0 → h0 = x.2 → i0 ≤ first) → (∀ i' : Nat, i' < first → ∃ (i0 : Nat) (h0 : List Nat), A0.reverse.head? = some i0 ∧ (X1.map Prod.snd).reverse.head? = some h0 ∧ h0 = x.2 ∧ i' < i0) → first ≤ k →
            PS n0 fp T fgp fgt fb fw W (to + A0.length) (fun q => E q ∨ SX so un pv G be op ps (flat1 so un op t) A0 q) (lx_shares_100 (fx_shares slf e) slf n fs fu pv (nI n0) (nI op) (nI base) (nI k) (nI h) (nI A0.length) n (nI x.1) (nI to) x9 (nI first) fp (nI T) fgp fgt fb fw (nI W) fm ff tm) := by
          intro first x9 hf1 hf2 hfk
          refine lx_shares_100_ok hcx0 ih hxs hA (by omega) haK hV hf1 (k - first) first n fp fgp fgt fb fw fm ff tm (by omega) (Nat.le_refl _) hdy0 (EXS_iff (fun q => ⟨Or.inl, ?_⟩) hex) (by omega)
          rintro (g | ⟨i', a, b⟩)
          · exact g
          · exfalso
            obtain ⟨i0, h0, w1, w2, w3, w4⟩ := hf2 i' a
            have hH : flat1 so un op t = X1.map Prod.snd ++ x.2 :: X2.map Prod.snd := by rw [← d5, hxs]; simp
            rw [hH] at b
            have := (SX_ok (by simp [hA]) b).2.2.1 i0 h0 w1 w2 w3
            omega
        rw [if_neg (by rw [nI_inj (by omega) (by omega)]; omega), xl_eq, nI_add, xl_eq, nI_add, xr_n (by omega) (by decide), hxa, xl_eq, xl_eq, nI_add, ← e1]
        by_cases qj : A0.length = 0
        · rw [if_pos (by rw [qj]; decide), show (0 : Int32) = nI 0 from rfl]
          have hA0 : A0 = [] := List.length_eq_zero_iff.mp qj
          exact start 0 _ (fun i0 h0 w => by rw [hA0] at w; simp at w) (fun i' hi' => absurd hi' (Nat.not_lt_zero i')) (Nat.zero_le _)
        · rw [if_neg (nI_nle (by omega) (by omega)), xl_eq, xl_eq, xl_eq]
          obtain ⟨A1, a, hAa⟩ : ∃ A1 a, A0 = A1 ++ [a] := ⟨A0.dropLast, A0.getLast (fun q => qj (by rw [q]; rfl)), (List.dropLast_concat_getLast _).symm⟩
          obtain ⟨Y1, y, hYy⟩ : ∃ Y1 y, X1 = Y1 ++ [y] := by
            have hne : X1 ≠ [] := fun q => qj (by rw [hA, q]; rfl)
            exact ⟨X1.dropLast, X1.getLast hne, (List.dropLast_concat_getLast _).symm⟩
          have hl1 : A1.length + 1 = A0.length := by rw [hAa]; simp
          have hl2 : Y1.length = A1.length := by rw [hYy, hAa] at hA; simpa using hA.symm
          have hya : fw (base + k + A1.length) = nI y.1 := by
            have h8 := y8
            rw [hxs, hYy, show adr (Y1 ++ [y] ++ x :: X2) = adr Y1 ++ y.1 :: (x.1 :: adr X2) by simp [adr]] at h8
            have h9 := (la_app.mp h8).2.1
            rw [show (adr Y1).length = A1.length by simp [adr, hl2]] at h9; exact h9
          have haa : fw (to + A1.length) = nI a := by
            have h9 := y9
            rw [hAa] at h9; exact last_get h9
          obtain ⟨v1, v2⟩ := y1 y (by rw [hxs, hYy]; simp)
          have hka := haK a (by rw [hAa]; simp)
          rw [nI_add, show nI (base + k + A0.length) - 1 = nI (base + k + A1.length) by rw [show base + k + A0.length = base + k + A1.length + 1 by omega, nI_pred], xr_n (by omega) (by decide), hya, fx_areAlike_ok v1.1 v1.2.1 v1.2.2.1 v1.2.2.2 z1.1 z1.2.1 z1.2.2.1 z1.2.2.2 c2', xb1_s]
          have hhd1 : A0.reverse.head? = some a := by rw [hAa]; simp
          have hhd2 : (X1.map Prod.snd).reverse.head? = some y.2 := by rw [hYy]; simp
          by_cases qe : y.2 = x.2
          · rw [if_pos qe, if_neg (by decide), xl_eq, nI_add, xl_eq, show nI (to + A0.length) - 1 = nI (to + A1.length) by rw [show to + A0.length = to + A1.length + 1 by omega, nI_pred], xr_n (by omega) (by decide), haa]
            refine start a _ (fun i0 h0 w1 w2 w3 => ?_) (fun i' hi' => ⟨a, y.2, hhd1, hhd2, qe, hi'⟩) (by omega)
            rw [hhd1] at w1
            rw [← Option.some.inj w1]; exact Nat.le_refl _
          · rw [if_neg qe, if_pos rfl, show (0 : Int32) = nI 0 from rfl]
            refine start 0 _ (fun i0 h0 w1 w2 w3 => ?_) (fun i' hi' => absurd hi' (Nat.not_lt_zero i')) (Nat.zero_le _)
            rw [hhd2] at w2
            exact absurd (by rw [Option.some.inj w2]; exact w3) qe
    · rw [if_neg qt]
      exact PS_same (EXS_more qt (fun q hq => Or.inl hq) hex)
