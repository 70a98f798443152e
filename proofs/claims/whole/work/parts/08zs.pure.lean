/-! ===== the matcher: what was found ===== -/
abbrev Sbs := Nat → List Nat
def fnt (Fs : List Sbs) (j : Nat) : Sbs := Fs.getD j (fun _ => [])
/-- a row of what was found -/
def FR (u : Nat → Nat → Int32) (N : List (List Nat)) (pv : Int32) (s : Nat) (sg : Sbs) : Prop :=
  ∀ v : Nat, v < 5 → (hb pv v = true ∧ ∃ y : Nat, y < N.length ∧ nth N y = sg v ∧ u 12 (5 * s + v) = nI y) ∨ (hb pv v = false ∧ u 12 (5 * s + v) = -1)
def FND (u : Nat → Nat → Int32) (N : List (List Nat)) (pv : Int32) (Fs : List Sbs) : Prop :=
  u 0 5 = nI Fs.length ∧ Fs.length ≤ 300 ∧ (Fs.map (key pv)).Pairwise klt ∧ ∀ j : Nat, j < Fs.length → ∃ s : Nat, s < Fs.length ∧ u 13 j = nI s ∧ FR u N pv s (fnt Fs j)
theorem FR_ext {u : Nat → Nat → Int32} {N E : List (List Nat)} {pv : Int32} {s : Nat} {sg : Sbs} (h : FR u N pv s sg) : FR u (N ++ E) pv s sg := fun v hv => by
  rcases h v hv with ⟨a, y, b, c, d⟩ | g
  · exact Or.inl ⟨a, y, (nth_pre b).1, by rw [(nth_pre b).2]; exact c, d⟩
  · exact Or.inr g
theorem FND_ext {u : Nat → Nat → Int32} {N E : List (List Nat)} {pv : Int32} {Fs : List Sbs} (h : FND u N pv Fs) : FND u (N ++ E) pv Fs := ⟨h.1, h.2.1, h.2.2.1, fun j hj => by
  obtain ⟨s, a, b, c⟩ := h.2.2.2 j hj
  exact ⟨s, a, b, FR_ext c⟩⟩
theorem FND_frame {u u' : Nat → Nat → Int32} {N : List (List Nat)} {pv : Int32} {Fs : List Sbs} (h : FND u N pv Fs) (h5 : u' 0 5 = u 0 5) (h12 : u' 12 = u 12) (h13 : u' 13 = u 13) : FND u' N pv Fs := by
  unfold FND FR
  rw [h5, h12, h13]
  exact h
theorem lx_cmpF_c {n s1 s2 : Nat} {u vt : Nat → Nat → Int32} {w : Nat → Nat → Int64} {las : Nat → Bool} {N : List (List Nat)} {pv : Int32} {g1 g2 : Sbs} (hn : 100000 ≤ n) (hT : TB vt w las N) (h1 : s1 ≤ 300) (h2 : s2 ≤ 300) (r1 : FR u N pv s1 g1) (r2 : FR u N pv s2 g2) :
    ∀ (k v m : Nat), v + k = 5 → k < m → lx_X0_compareFound_2 n u vt (nI s1) (nI s2) m (nI v) = some (cmpL (keyF pv g1 k v) (keyF pv g2 k v))
  | 0, v, m + 1, hv, _ => by
    have ev : v = 5 := by omega
    subst ev
    show bx_X0_compareFound_2 n u vt (nI s1) (nI s2) (lx_X0_compareFound_2 n u vt (nI s1) (nI s2) m) (nI 5) = _
    unfold bx_X0_compareFound_2
    rw [if_pos (by decide)]; rfl
  | k + 1, v, m + 1, hv, hm => by
    have ih := lx_cmpF_c hn hT h1 h2 r1 r2 k (v + 1) m (by omega) (by omega)
    have hN := hT.1
    show bx_X0_compareFound_2 n u vt (nI s1) (nI s2) (lx_X0_compareFound_2 n u vt (nI s1) (nI s2) m) (nI v) = some (cmpL (pad (if hb pv v then g1 v else []) ++ keyF pv g1 k (v + 1)) (pad (if hb pv v then g2 v else []) ++ keyF pv g2 k (v + 1)))
    unfold bx_X0_compareFound_2
    have e5 : (5 : Int32) = nI 5 := rfl
    rw [if_neg (by rw [e5, nI_le_iff (by decide) (by omega)]; omega), xl_eq, e5, nI_mul (by omega) (by omega) (by decide), xl_eq, nI_add, xl_eq, nI_mul (by omega) (by omega) (by decide), xl_eq, nI_add, if_neg (by rw [show (0 : Int32) = nI 0 from rfl, nI_lt_iff (by omega) (by decide)]; omega), if_neg (by rw [show (0 : Int32) = nI 0 from rfl, nI_lt_iff (by omega) (by decide)]; omega), if_neg (by rw [show (1505 : Int32) = nI 1505 from rfl, nI_le_iff (by decide) (by omega)]; omega), if_neg (by rw [show (1505 : Int32) = nI 1505 from rfl, nI_le_iff (by decide) (by omega)]; omega), xr_n (by omega) (by decide), xr_n (by omega) (by decide), show s1 * 5 + v = 5 * s1 + v by omega, show s2 * 5 + v = 5 * s2 + v by omega]
    rcases r1 v (by omega) with ⟨a, y1, b1, c1, d1⟩ | ⟨a, d1⟩
    · rcases r2 v (by omega) with ⟨_, y2, b2, c2, d2⟩ | ⟨a2, _⟩
      · rw [d1, d2, if_pos a, if_pos a]
        by_cases q : y1 = y2
        · rw [if_pos (by rw [q]), xl_eq, nI_1, ih]
          have : g1 v = g2 v := by rw [← c1, ← c2, q]
          rw [this, cmpL_pre]
        · rw [if_neg (by rw [nI_inj (by omega) (by omega)]; exact q), xr_n (by omega) (by decide), xr_n (by omega) (by decide), d1, d2, fx_compare8_c hn hT b1 b2, xb1_s, c1, c2]
          have w1 := (TB_get hT b1).1.1
          have w2 := (TB_get hT b2).1.1
          rw [c1] at w1
          rw [c2] at w2
          have hne : g1 v ≠ g2 v := fun e => q (nth_inj hT.2.2.1 b1 b2 (by rw [c1, c2, e]))
          unfold pad
          rw [List.append_assoc, List.append_assoc, cmpL_app w1 w2 hne]
      · rw [a] at a2; exact nomatch a2
    · rcases r2 v (by omega) with ⟨a2, _⟩ | ⟨_, d2⟩
      · rw [a] at a2; exact nomatch a2
      · have an : ¬ hb pv v = true := by rw [a]; decide
        rw [d1, d2, if_pos rfl, xl_eq, nI_1, ih, if_neg an, if_neg an, cmpL_pre]
theorem fnt_map {Fs : List Sbs} {pv : Int32} {j : Nat} (h : j < Fs.length) : nth (Fs.map (key pv)) j = key pv (fnt Fs j) := by
  unfold nth fnt
  rw [List.getD_eq_getElem?_getD, List.getD_eq_getElem?_getD, List.getElem?_map, List.getElem?_eq_getElem h]; rfl
theorem klt_of1 {a b : List Nat} (h : cmpL a b = 1) : klt b a := by
  unfold klt
  rw [cmpL_swap a b, h]
theorem lx_rec68_c {n : Nat} {u vt : Nat → Nat → Int32} {w : Nat → Nat → Int64} {las : Nat → Bool} {N : List (List Nat)} {pv : Int32} {Fs : List Sbs} {sg : Sbs} (hn : 100000 ≤ n) (hT : TB vt w las N) (hF : FND u N pv Fs) (hr : FR u N pv Fs.length sg) (hkl : ∀ j : Nat, j < Fs.length → (key pv (fnt Fs j)).length = (key pv sg).length) :
    ∀ (d low high m : Nat), high - low ≤ d → d < m → low ≤ high → high ≤ Fs.length → (∀ j : Nat, j < low → klt (key pv (fnt Fs j)) (key pv sg)) → (∀ j : Nat, high ≤ j → j < Fs.length → klt (key pv sg) (key pv (fnt Fs j))) →
      (∃ j : Nat, j < Fs.length ∧ key pv (fnt Fs j) = key pv sg ∧ lx_X0_record_68 n vt m (nI Fs.length) (nI low) (nI high) u = some u) ∨
      ∃ at_ : Nat, at_ ≤ Fs.length ∧ (∀ j : Nat, j < at_ → klt (key pv (fnt Fs j)) (key pv sg)) ∧ (∀ j : Nat, at_ ≤ j → j < Fs.length → klt (key pv sg) (key pv (fnt Fs j))) ∧
        lx_X0_record_68 n vt m (nI Fs.length) (nI low) (nI high) u = (if u 0 5 < (300 : Int32) then (xl (nI at_ + ((1 : Int32))) fun y_3 => xl ((u 0 5) - nI at_) fun y_4 => xcp 301 301 (u 13) u 13 (nI at_) y_3 y_4 fun v_ma_5 => xwp 301 v_ma_5 13 (nI at_) (nI Fs.length) fun v_ma_6 => xl ((v_ma_6 0 5) + ((1 : Int32))) fun y_7 => xl (mu v_ma_6 0 5 y_7) fun v_ma_8 => some (v_ma_8)) else (xl (mu u 0 5 ((301 : Int32))) fun v_ma_9 => some (v_ma_9)))
  | 0, low, high, m + 1, hd, _, hlh, hh, hlo, hhi => by
    have e : high = low := by omega
    subst e
    refine Or.inr ⟨high, hh, hlo, hhi, ?_⟩
    show bx_X0_record_68 n vt (lx_X0_record_68 n vt m) (nI Fs.length) (nI high) (nI high) u = _
    unfold bx_X0_record_68
    rw [if_pos (Int32.le_refl _)]
  | d + 1, low, high, m + 1, hd, hm, hlh, hh, hlo, hhi => by
    have h300 := hF.2.1
    have hsh : lx_X0_record_68 n vt (m + 1) (nI Fs.length) (nI low) (nI high) u = bx_X0_record_68 n vt (lx_X0_record_68 n vt m) (nI Fs.length) (nI low) (nI high) u := rfl
    rw [hsh]
    unfold bx_X0_record_68
    by_cases q : high ≤ low
    · have e : high = low := by omega
      subst e
      exact Or.inr ⟨high, hh, hlo, hhi, by rw [if_pos (Int32.le_refl _)]⟩
    · have hmid : ((nI (low + high)).toUInt32 >>> (((1 : Int32)).toUInt32 &&& Int32.toUInt32 31)).toInt32 = nI ((low + high) / 2) := by
        have : ∀ x : Fin 1024, ((nI x.val).toUInt32 >>> (((1 : Int32)).toUInt32 &&& Int32.toUInt32 31)).toInt32 = nI (x.val / 2) := by decide +kernel
        exact this ⟨low + high, by omega⟩
      have hml : (low + high) / 2 < Fs.length := by omega
      obtain ⟨s, s1, s2, s3⟩ := hF.2.2.2 _ hml
      have cp := lx_cmpF_c (n := n) (u := u) (s1 := Fs.length) (s2 := s) hn hT h300 (by omega) hr s3 5 0 n rfl (by omega)
      have cp' : fx_X0_compareFound n u vt (nI Fs.length) (nI s) = some (cmpL (key pv sg) (key pv (fnt Fs ((low + high) / 2)))) := cp
      have hpw := hF.2.2.1
      have mono : ∀ i j : Nat, i < j → j < Fs.length → klt (key pv (fnt Fs i)) (key pv (fnt Fs j)) := fun i j hij hj => by
        have hp := List.pairwise_iff_getElem.mp hpw i j (by rw [List.length_map]; omega) (by rw [List.length_map]; omega) hij
        have e1 := fnt_map (pv := pv) (show i < Fs.length by omega)
        have e2 := fnt_map (pv := pv) hj
        unfold nth at e1 e2
        rw [List.getD_eq_getElem?_getD, List.getElem?_eq_getElem (by rw [List.length_map]; omega)] at e1 e2
        have e1' : (Fs.map (key pv))[i]'(by rw [List.length_map]; omega) = key pv (fnt Fs i) := e1
        have e2' : (Fs.map (key pv))[j]'(by rw [List.length_map]; omega) = key pv (fnt Fs j) := e2
        rw [e1', e2'] at hp
        exact hp
      rw [if_neg (by rw [nI_le_iff (by omega) (by omega)]; exact q), xl_eq, nI_add, xl_eq, hmid, xr_n (by omega) (by decide), s2, cp', xb1_s]
      rcases cmpL_vals (key pv sg) (key pv (fnt Fs ((low + high) / 2))) with z | z | z
      · rw [z, if_neg (by decide), if_neg (by decide)]
        refine lx_rec68_c hn hT hF hr hkl d low ((low + high) / 2) m (by omega) (by omega) (by omega) (by omega) hlo (fun j h1 h2 => ?_)
        by_cases e : j = (low + high) / 2
        · rw [e]; exact z
        · exact klt_trans (hkl _ hml).symm ((hkl _ hml).trans (hkl j h2).symm) z (mono _ _ (by omega) h2)
      · refine Or.inl ⟨(low + high) / 2, hml, ?_, by rw [z, if_pos rfl]⟩
        exact ((cmpL_eq2 (hkl _ hml).symm).mp z).symm
      · rw [z, if_neg (by decide), if_pos (by decide), xl_eq, nI_1]
        have z' := klt_of1 z
        refine lx_rec68_c hn hT hF hr hkl d ((low + high) / 2 + 1) high m (by omega) (by omega) (by omega) hh (fun j h1 => ?_) hhi
        by_cases e : j = (low + high) / 2
        · rw [e]; exact z'
        · exact klt_trans ((hkl j (by omega)).trans (hkl _ hml).symm) (hkl _ hml) (mono _ _ (by omega) hml) z'
