/-! ===== shares, its loop ===== -/
theorem lx_shares_100_ok {sl2 : SHF} {slf : SLF} {n : Nat} {fs fu : Nat → Int32} {so : Nat → Nat} {un : Nat → Option Nat} {pv : Int32} {d op k h base to W n0 T e first : Nat} {ps xs : List (Nat × List Nat)} {t : List Nat} {G : List Goal} {be : Nat → Option (List Nat)} (hcx : CXS slf n fs fu so un pv d op k h base to W n0 T ps xs t G be) (hsl : SHOK sl2 n fs fu so un pv op k h base to W n0 T ps xs t G be e)
    {A0 : List Nat} {X1 X2 : List (Nat × List Nat)} {x : Nat × List Nat} {x9 : Int32} {E : List Nat → Prop} (hxs : xs = X1 ++ x :: X2) (hA : A0.length = X1.length) (he : X2.length < e) (haK : ∀ a ∈ A0, a < k) (hV : Vr ps.length (oneF so un ps) (hopF ps) A0.reverse (X1.map Prod.snd).reverse) (hfi : ∀ (i0 : Nat) (h0 : List Nat), A0.reverse.head? = some i0 → (X1.map Prod.snd).reverse.head? = some h0 → h0 = x.2 → i0 ≤ first) :
    ∀ (c i m : Nat) (fp fgp fgt fb fw : Nat → Int32) (fm : Int32) (ff : Nat → Int32) (tm : Int32), i + c = k → first ≤ i → DYN so un k base to T ps xs G be A0 fp fgp fgt fb fw → EXS (fun q => E q ∨ ∃ i' : Nat, i' < i ∧ SX so un pv G be op ps (flat1 so un op t) (A0 ++ [i']) q) fm ff tm → c < m →
      PS n0 fp T fgp fgt fb fw W (to + A0.length) (fun q => E q ∨ SX so un pv G be op ps (flat1 so un op t) A0 q) (lx_shares_100 sl2 slf n fs fu pv (nI n0) (nI op) (nI base) (nI k) (nI h) (nI A0.length) m (nI x.1) (nI to) x9 (nI i) fp (nI T) fgp fgt fb fw (nI W) fm ff tm) := by
  obtain ⟨⟨c1, c2', c3, c4⟩, ⟨d1, d2, d3, d4, d5⟩, ⟨e1, e2, e3, e4, e5, e6⟩, f1, ⟨g1, g2, g3, g4⟩, hcov⟩ := hcx
  have hH : flat1 so un op t = X1.map Prod.snd ++ x.2 :: X2.map Prod.snd := by rw [← d5, hxs]; simp
  have hA' : A0.length = (X1.map Prod.snd).length := by simp [hA]
  have hh : X1.length + (X2.length + 1) = h := by rw [← e4, hxs]; simp
  have hfl := flat1_len (so := so) (un := un) (op := op) d3.1.1
  have hhl : h ≤ 20 := by have : (flat1 so un op t).length = h := by rw [← d5, List.length_map]; exact e4
                          omega
  intro c
  induction c with
  | zero =>
    intro i m fp fgp fgt fb fw fm ff tm hi hfirst hdy hex hm
    cases m with
    | zero => omega
    | succ m =>
      show PS n0 fp T fgp fgt fb fw W _ _ (bx_shares_100 sl2 slf n fs fu pv (nI n0) (nI op) (nI base) (nI k) (nI h) (nI A0.length) (lx_shares_100 sl2 slf n fs fu pv (nI n0) (nI op) (nI base) (nI k) (nI h) (nI A0.length) m) (nI x.1) (nI to) x9 (nI i) fp (nI T) fgp fgt fb fw (nI W) fm ff tm)
      unfold bx_shares_100
      have hik : i = k := by omega
      rw [hik, if_pos (Int32.le_refl _)]
      refine PS_iff (fun q => or_congr Iff.rfl ?_) (PS_same hex)
      rw [hH, SX_step hA', e5, hik]
  | succ c ih =>
    intro i m fp fgp fgt fb fw fm ff tm hi hfirst hdy hex hm
    cases m with
    | zero => omega
    | succ m =>
      have hdy0 := hdy
      obtain ⟨y1, y2, y3, y4, y5, y6, y7, y8, y9⟩ := hdy
      obtain ⟨p, hpm, hp2, hp3⟩ := nth_map (ps := ps) (i := i) (by omega)
      obtain ⟨p1, p2, p3, p4, p5⟩ := y2 p hpm
      have hwp : fw (base + i) = nI p.1 := by
        have hia : i < (adr ps).length := by simp [adr]; omega
        have hg := la_get y7 i hia
        rw [hg]
        congr 1
        have : (adr ps)[i]? = some p.1 := by simp [adr, hp3]
        rw [List.getElem?_eq_getElem hia] at this
        exact Option.some.inj this
      have hpp := wf_pos p2.1.1
      obtain ⟨r, r1, r2⟩ := fx_isOne_ok (n := n) (un := un) c3 p1 p2.1 (by omega)
      obtain ⟨z1, z2⟩ := y1 x (by rw [hxs]; simp)
      have hxp := wf_pos z1.2.1
      have hct := ct_le (i := i) (A := A0)
      show PS n0 fp T fgp fgt fb fw W _ _ (bx_shares_100 sl2 slf n fs fu pv (nI n0) (nI op) (nI base) (nI k) (nI h) (nI A0.length) (lx_shares_100 sl2 slf n fs fu pv (nI n0) (nI op) (nI base) (nI k) (nI h) (nI A0.length) m) (nI x.1) (nI to) x9 (nI i) fp (nI T) fgp fgt fb fw (nI W) fm ff tm)
      -- this one is not for it
      have skip : (∀ q : List Nat, ¬ SX so un pv G be op ps (flat1 so un op t) (A0 ++ [i]) q) → PS n0 fp T fgp fgt fb fw W (to + A0.length) (fun q => E q ∨ SX so un pv G be op ps (flat1 so un op t) A0 q) (lx_shares_100 sl2 slf n fs fu pv (nI n0) (nI op) (nI base) (nI k) (nI h) (nI A0.length) m (nI x.1) (nI to) x9 (nI (i + 1)) fp (nI T) fgp fgt fb fw (nI W) fm ff tm) := fun hno =>
        ih (i + 1) m fp fgp fgt fb fw fm ff tm (by omega) (by omega) hdy0 (EXS_iff (fun q => or_congr Iff.rfl ⟨fun ⟨i', a, b⟩ => ⟨i', by omega, b⟩, fun ⟨i', a, b⟩ => by
          by_cases w : i' = i
          · rw [w] at b; exact absurd b (hno q)
          · exact ⟨i', by omega, b⟩⟩) hex) (by omega)
      -- it goes there
      have goon : (isOneP so un (nth (ps.map Prod.snd) i) → opI (hd0 x.2) = opI (hd0 (nth (ps.map Prod.snd) i)) ∧ i ∉ A0) → PS n0 fp T fgp fgt fb fw W (to + A0.length) (fun q => E q ∨ SX so un pv G be op ps (flat1 so un op t) A0 q) (jx_shares_158 sl2 slf n fs fu pv (nI n0) (nI op) (nI base) (nI k) (nI h) (nI A0.length) (lx_shares_100 sl2 slf n fs fu pv (nI n0) (nI op) (nI base) (nI k) (nI h) (nI A0.length) m) (nI x.1) (nI to) x9 (nI i) (nI p.1) fp (nI T) fgp fgt fb fw (nI W) fm ff tm) := fun hone => by
        have hV2 : Vr ps.length (oneF so un ps) (hopF ps) (A0 ++ [i]).reverse ((X1 ++ [x]).map Prod.snd).reverse := by
          have ea : (A0 ++ [i]).reverse = i :: A0.reverse := by simp
          have eb : ((X1 ++ [x]).map Prod.snd).reverse = x.2 :: (X1.map Prod.snd).reverse := by simp
          rw [ea, eb]
          refine ⟨hV, by omega, fun i0 h0 q1 q2 q3 => by have := hfi i0 h0 q1 q2 q3; omega, fun ho => ?_⟩
          obtain ⟨o1, o2⟩ := hone ho
          exact ⟨o1, fun hm' => o2 (List.mem_reverse.mp hm')⟩
        have hle : (A0 ++ [i]).length = A0.length + 1 := by simp
        have hdy2 : DYN so un k base to T ps xs G be (A0 ++ [i]) fp fgp fgt fb (upd fw (to + A0.length) (nI i)) :=
          ⟨y1, y2, y3, y4, y5, y6, la_upd (Or.inr (by simp [adr]; omega)) y7, la_upd (Or.inr (by simp [adr]; omega)) y8, la_snoc (la_upd (Or.inr (by omega)) y9) (upd_eq _ _ _)⟩
        obtain ⟨fp', fgp', fgt', fb', fw', fm', ff', tm', s1, s2, s3, s4, s5, s6⟩ := hsl (A0 ++ [i]) (X1 ++ [x]) X2 fp fgp fgt fb (upd fw (to + A0.length) (nI i)) fm ff tm _ (by rw [hxs]; simp) (by simp [hA]) he (fun a ha => by
            rcases List.mem_append.mp ha with w | w
            · exact haK a w
            · rw [List.mem_singleton.mp w]; omega) hV2 hdy2 hex
        rw [hle] at s1 s5
        have hold : ∀ j : Nat, j < to + A0.length → fw' j = fw j := fun j hj => by rw [s5 j (by omega), upd_ne (by omega)]
        have hdy3 := DYN_same e1 e5 e4 g4 s2 s3 s4 hold hdy0
        have := ih (i + 1) m fp' fgp' fgt' fb' fw' fm' ff' tm' (by omega) (by omega) hdy3 (EXS_iff (fun q => by
            rw [or_assoc]
            refine or_congr Iff.rfl ⟨?_, ?_⟩
            · rintro (⟨i', a, b⟩ | b)
              · exact ⟨i', by omega, b⟩
              · exact ⟨i, by omega, b⟩
            · rintro ⟨i', a, b⟩
              by_cases w : i' = i
              · rw [w] at b; exact Or.inr b
              · exact Or.inl ⟨i', by omega, b⟩) s6) (by omega)
        unfold jx_shares_158
        rw [xl_eq, nI_add, xw_n (by omega) (by decide), xl_eq, nI_1, s1, xb10_s, xl_eq, nI_1]
        exact PS_tr s2 s3 s4 hold (Nat.le_refl _) this
      unfold bx_shares_100
      rw [if_neg (by rw [nI_le_iff (by omega) (by omega)]; omega), xl_eq, nI_add, xr_n (by omega) (by decide), hwp, r1, xb1_s]
      by_cases q0 : r = 0
      · rw [if_pos q0]
        exact goon (fun ho => absurd (by rw [hp2]; exact ho) (r2.mp q0))
      · have hone : isOneP so un (nth (ps.map Prod.snd) i) := by rw [← hp2]; exact Classical.byContradiction (fun w => q0 (r2.mpr w))
        rw [if_neg q0]
        cases hx2 : x.2 with
        | nil => rw [hx2] at hxp; simp at hxp
        | cons cx lx =>
          cases hpx : p.2 with
          | nil => rw [hpx] at p2; exact absurd (wf_pos p2.1.1) (by simp)
          | cons cp lp =>
            have z1' := z1
            unfold okp at z1'
            rw [hx2] at z1'
            have p1' := p1
            rw [hpx] at p1'
            have hcx' := cok_lt (col_cons.mp z1'.2.2.1).1
            have hcp' : cp < 5632 := by have := p2.1.2.1; rw [hpx] at this; exact cok_lt (col_cons.mp this).1
            rw [fx_operatorAt_ok z1'.1.1 hcx' (by omega), xb1_s, fx_operatorAt_ok p1'.1 hcp' (by omega), xb1_s]
            have hop1 : opI (hd0 x.2) = opI cx := by rw [hx2]; rfl
            have hop2 : opI (hd0 (nth (ps.map Prod.snd) i)) = opI cp := by rw [← hp2, hpx]; rfl
            by_cases q1 : opI cx = opI cp
            · have hmt := fx_manyTo_ok (n := n) (fw := fw) (to := to) (i := i) y9 (fun a ha => by have := haK a ha; omega) (by omega) (by omega) c2'
              rw [if_pos q1, hmt, xb1_s]
              by_cases q2 : ct i A0 = 0
              · rw [if_pos (by rw [q2]; decide)]
                exact goon (fun _ => ⟨by rw [hop1, hop2]; exact q1, ct_zero.mp q2⟩)
              · rw [if_neg (nI_nle (by omega) (by omega)), xl_eq, nI_1]
                refine skip (fun q hq => ?_)
                rw [hH] at hq
                exact q2 (ct_zero.mpr (fun hm' => ((SX_ok hA' hq).2.2.2 hone).2 (List.mem_reverse.mpr hm')))
            · rw [if_neg q1, xl_eq, nI_1]
              refine skip (fun q hq => ?_)
              rw [hH] at hq
              have := ((SX_ok hA' hq).2.2.2 hone).1
              have h9 : opI (hd0 x.2) = opI (hd0 (nth (ps.map Prod.snd) i)) := this
              rw [hop1, hop2] at h9
              exact q1 h9
