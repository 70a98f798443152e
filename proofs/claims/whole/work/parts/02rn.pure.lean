/-! ===== term ===== -/
/-- a signature, as the reference has it -/
def SIG (nm nmm fs fm9 fu : Nat → Int32) (so ma : Nat → Nat) (un : Nat → Option Nat) (no nv : Nat) (nmL : Nat → List Nat) : Prop := SG fs fu so un ∧ SV so un ma nv ∧ NMs so nv nm nmm nmL ∧ (no ≤ 10 ∧ ∀ q : Nat, q < no → so q ≠ 3) ∧ MA so ma no fm9
theorem nok_leaf {so : Nat → Nat} {un : Nat → Option Nat} {c : Nat} (h1 : cok c) (h2 : ar c = 0) (h3 : 512 ≤ c → so (c / 512 - 1) ≠ 3 ∧ so (c / 512 - 1) ≠ 2) : nok so un [c] := by
  refine ⟨⟨⟨by decide, by show 1 - 1 + ar c = 0; rw [h2]⟩, fun d hd => by rw [List.mem_singleton.mp hd]; exact h1, fun d hd h5 => ?_⟩, nf_leaf h2⟩
  rw [List.mem_singleton.mp hd] at h5 ⊢
  exact ⟨(h3 h5).1, fun q => absurd q (h3 h5).2⟩
theorem SIG_nm {nm nmm fs fm9 fu : Nat → Int32} {so ma : Nat → Nat} {un : Nat → Option Nat} {no nv : Nat} {nmL : Nat → List Nat} (h : SIG nm nmm fs fm9 fu so ma un no nv nmL) : ∀ i : Nat, nmv no nv i = true → nmm i = nI (nmL i).length ∧ la nm (6 * i) (nmL i) ∧ (nmL i).length ≤ 6 ∧ ∀ c ∈ nmL i, 97 ≤ c ∧ c ≤ 122 := fun i hi => by
  have h10 := h.2.2.2.1.1
  refine h.2.2.1 i ?_
  unfold nmv at hi
  rcases Bool.or_eq_true_iff.mp hi with g | g
  · rw [decide_eq_true_eq] at g
    exact Or.inl ⟨by omega, h.2.2.2.1.2 i g⟩
  · rw [Bool.and_eq_true, decide_eq_true_eq, decide_eq_true_eq] at g
    exact Or.inr (by omega)
theorem fx_readsTerm_ok {n : Nat} {f nm nmm fs fm9 fu : Nat → Int32} {so ma : Nat → Nat} {un : Nat → Option Nat} {no nv : Nat} {nmL : Nat → List Nat} {L : List Nat} (hn : 100000 ≤ n) (hs : SIG nm nmm fs fm9 fu so ma un no nv nmL) (hL : TPE f L) : ∀ d : Nat, RTF (fx_readsTerm d) (ptm so ma un nmL no nv L d) n f nm nmm fs fm9 fu so ma un no nv L d
  | 0 => fun p T b0 fp fsp hp hd hT => by omega
  | d + 1 => fun p T b0 fp fsp hp hd hT => by
    have ih := fx_readsTerm_ok hn hs hL d
    have hL4 := hL.1
    have hnm := SIG_nm hs
    obtain ⟨hsg, hsv, _, hno, hma⟩ := hs
    have hb1 := bk_le (L := L) (p := p) hp
    have hb2 := bk_ge (L := L) (p := p)
    have hw1 := wd_le (L := L) (p := bk L p) hb1
    have hw2 := wd_ge (L := L) (p := bk L p)
    have hk1 := bk_le (L := L) (p := wd L (bk L p)) hw1
    have hk2 := bk_ge (L := L) (p := wd L (bk L p))
    have e40 : nI 40 = (40 : Int32) := rfl
    show ∃ (r : Int32) (fp' : Nat → Int32) (top' : Int32) (fsp' : Nat → Int32), gx_readsTerm (fx_readsTerm d) n f (nI L.length) (nI p) b0 nm nmm fs fm9 fu (nI no) (nI nv) fp (nI T) fsp = _ ∧ _
    have hpt : ptm so ma un nmL no nv L (d + 1) p = (if wd L (bk L p) ≤ bk L p then (none, wd L (bk L p), bk L p) else
      match naw nmL no nv L (bk L p) (wd L (bk L p)) with
      | none => (none, wd L (bk L p), bk L p)
      | some k => if 10 ≤ k then (some [k - 10], wd L (bk L p), bk L p)
        else if so k = 0 ∧ ma k = 0 then (some [cdo k 0], wd L (bk L p), bk L p)
        else if isG L (wd L (bk L p)) 40 then plp so un L (ptm so ma un nmL no nv L d) k (ma k) (if so k = 2 then 9 else ma k) 10 1 [] (bk L (wd L (bk L p)) + 1)
        else (none, bk L (wd L (bk L p)), bk L (wd L (bk L p)))) := rfl
    rw [hpt]
    unfold gx_readsTerm
    rw [fx_word_ok hn hL hp, xb3_s]
    by_cases hw : wd L (bk L p) ≤ bk L p
    · simp only [if_pos hw]
      rw [if_pos trivial]
      exact ⟨_, _, _, _, rfl, by (try dsimp only); omega, by (try dsimp only); omega, by (try dsimp only); omega, fun i _ => rfl, Or.inl ⟨rfl, rfl⟩⟩
    · simp only [if_neg hw]
      rw [if_neg (by decide), fx_named_ok hn hL hw2 hw1 wd_let hno.1 hsv.1 hnm, xb1_s]
      cases hnw : naw nmL no nv L (bk L p) (wd L (bk L p)) with
      | none =>
        dsimp only
        rw [if_pos (show oI none = -1 from rfl)]
        exact ⟨_, _, _, _, rfl, by (try dsimp only); omega, by (try dsimp only); omega, by (try dsimp only); omega, fun i _ => rfl, Or.inl ⟨rfl, rfl⟩⟩
      | some k =>
        obtain ⟨v1, _, v3⟩ := nam_v hnw
        dsimp only
        show ∃ (r : Int32) (fp' : Nat → Int32) (top' : Int32) (fsp' : Nat → Int32), (if nI k = (-1 : Int32) then _ else _) = _ ∧ _
        have hkm : ¬ nI k = (-1 : Int32) := by
          intro h
          have h2 := congrArg Int32.toInt h
          rw [nI_toInt (by omega)] at h2
          have e : (-1 : Int32).toInt = -1 := rfl
          omega
        rw [if_neg hkm]
        show ∃ (r : Int32) (fp' : Nat → Int32) (top' : Int32) (fsp' : Nat → Int32), (if nI k < (10 : Int32) then _ else _) = _ ∧ _
        by_cases k10 : 10 ≤ k
        · have hkv : k - 10 < nv := by
            unfold nmv at v1
            rcases Bool.or_eq_true_iff.mp v1 with g | g
            · rw [decide_eq_true_eq] at g; have := hno.1; omega
            · rw [Bool.and_eq_true, decide_eq_true_eq, decide_eq_true_eq] at g; exact g.2
          have hv5 := hsv.1
          rw [if_neg (by rw [show (10 : Int32) = nI 10 from rfl, nI_lt_iff (by omega) (by decide)]; omega)]
          simp only [if_pos k10]
          show ∃ (r : Int32) (fp' : Nat → Int32) (top' : Int32) (fsp' : Nat → Int32), (xl (nI k - ((10 : Int32))) fun y_115 => xw 60000 fp (nI T) y_115 fun f_116 => xl (nI T + ((1 : Int32))) fun y_117 => some ((1 : Int32), nI (wd L (bk L p)), nI (bk L p), f_116, y_117, fsp)) = _ ∧ _
          rw [xl_eq, show (10 : Int32) = nI 10 from rfl, nI_sub k10, xw_n (by omega) (by decide), xl_eq, nI_1]
          refine ⟨_, _, _, _, rfl, by (try dsimp only); omega, by (try dsimp only); omega, by (try dsimp only); omega, fun i hi => upd_ne (by omega), Or.inr ⟨_, rfl, rfl, rfl, ⟨upd_eq _ _ _, trivial⟩, nok_leaf (Or.inl (by omega)) (by unfold ar; rw [if_pos (by omega)]) (fun h5 => by omega), fun c hc => ?_, by (try dsimp only); simp only [List.length_singleton]; omega⟩⟩
          rw [List.mem_singleton.mp hc]; exact Or.inl hkv
        · have hkn : k < no := by
            unfold nmv at v1
            rcases Bool.or_eq_true_iff.mp v1 with g | g
            · rw [decide_eq_true_eq] at g; exact g
            · rw [Bool.and_eq_true, decide_eq_true_eq, decide_eq_true_eq] at g; omega
          have hk3 := hno.2 k hkn
          have hk10 : k < 10 := by omega
          obtain ⟨s1, s2, s3, s4⟩ := hsg k ⟨hk10, hk3⟩
          obtain ⟨m1, m2⟩ := hma k hkn
          have hma9 : ma k ≤ 9 := by
            have h3 : so k = 0 ∨ so k = 1 ∨ so k = 2 := by omega
            rcases h3 with h3 | h3 | h3
            · have := hsv.2.2.1 k h3; omega
            · have := hsv.2.1 k h3; omega
            · have := m2 h3; omega
          rw [if_pos (by rw [show (10 : Int32) = nI 10 from rfl, nI_lt_iff (by omega) (by decide)]; omega)]
          simp only [if_neg k10]
          have jx : ¬ (so k = 0 ∧ ma k = 0) → ∃ (r : Int32) (fp' : Nat → Int32) (top' : Int32) (fsp' : Nat → Int32), jx_readsTerm_101 (fx_readsTerm d) n f (nI L.length) nm nmm fs fm9 fu (nI no) (nI nv) (nI k) (nI T) (nI (wd L (bk L p))) (nI (bk L p)) fp (nI T) fsp = some (r, nI (if isG L (wd L (bk L p)) 40 then plp so un L (ptm so ma un nmL no nv L d) k (ma k) (if so k = 2 then 9 else ma k) 10 1 [] (bk L (wd L (bk L p)) + 1) else (none, bk L (wd L (bk L p)), bk L (wd L (bk L p)))).2.1, nI (if isG L (wd L (bk L p)) 40 then plp so un L (ptm so ma un nmL no nv L d) k (ma k) (if so k = 2 then 9 else ma k) 10 1 [] (bk L (wd L (bk L p)) + 1) else (none, bk L (wd L (bk L p)), bk L (wd L (bk L p)))).2.2, fp', top', fsp') ∧ RTO so ma un nv L fp T p p (if isG L (wd L (bk L p)) 40 then plp so un L (ptm so ma un nmL no nv L d) k (ma k) (if so k = 2 then 9 else ma k) 10 1 [] (bk L (wd L (bk L p)) + 1) else (none, bk L (wd L (bk L p)), bk L (wd L (bk L p)))) r fp' top' := fun hz => by
            have hma1 : 1 ≤ ma k := by
              have h3 : so k = 0 ∨ so k = 1 ∨ so k = 2 := by omega
              rcases h3 with h3 | h3 | h3
              · have : ma k ≠ 0 := fun q => hz ⟨h3, q⟩
                omega
              · have := hsv.2.1 k h3; omega
              · have := m2 h3; omega
            have tt := fx_takes_ok (n := n) (p := wd L (bk L p)) (c := 40) (b := nI (bk L p)) hn hL hw1 (by decide)
            rw [e40] at tt
            unfold jx_readsTerm_101
            rw [tt, xb3_s]
            by_cases hG : isG L (wd L (bk L p)) 40 = true
            · have hlt := (isb_lt (show isb L (bk L (wd L (bk L p))) 40 40 = true from hG)).1
              simp only [if_pos hG]
              rw [if_neg (by decide), xr_n hk10 (by decide), m1, xr_n hk10 (by decide), s1]
              have lp := fun (most : Nat) (h1 : ma k ≤ most) (h2 : most ≤ 9) (h3 : so k ≠ 2 → ma k = ma k ∧ most = ma k) => lx_readsTerm_ok (T0 := T) (ps := bk L (wd L (bk L p)) + 1) (least := ma k) (most := most) hn hsg hsv hL ih ⟨hk10, hk3⟩ h1 h2 hma1 h3 (by omega) (by omega) (by omega) 10 1 n (bk L (wd L (bk L p)) + 1) [] (nI (bk L (wd L (bk L p)))) fp fsp (by omega) (by omega) (by omega) rfl (by omega) trivial (fun t ht => absurd ht List.not_mem_nil) (fun t ht => absurd ht List.not_mem_nil) (by simp)
              have fin : ∀ (o : PR) (r : Int32) (fp' : Nat → Int32) (top' : Int32), RTO so ma un nv L fp T (bk L (wd L (bk L p)) + 1) (bk L (wd L (bk L p)) + 1 - 1) o r fp' top' → RTO so ma un nv L fp T p p o r fp' top' := fun o r fp' top' ⟨w1, w2, w3, w4, w5⟩ => by
                refine ⟨by omega, w2, w3, w4, ?_⟩
                rcases w5 with w5 | ⟨t, t1, t2, t3, t4, t5, t6, t7⟩
                · exact Or.inl w5
                · exact Or.inr ⟨t, t1, t2, t3, t4, t5, t6, by omega⟩
              by_cases h2 : so k = 2
              · rw [if_pos (by rw [h2]; rfl)]
                simp only [if_pos h2]
                obtain ⟨r, fp', top', fsp', z1, z2⟩ := lp 9 hma9 (by decide) (fun q => absurd h2 q)
                exact ⟨r, fp', top', fsp', z1, fin _ _ _ _ z2⟩
              · rw [if_neg (by rw [show (2 : Int32) = nI 2 from rfl, nI_inj (by omega) (by decide)]; exact h2), xr_n hk10 (by decide), m1]
                simp only [if_neg h2]
                obtain ⟨r, fp', top', fsp', z1, z2⟩ := lp (ma k) (Nat.le_refl _) hma9 (fun _ => ⟨rfl, rfl⟩)
                exact ⟨r, fp', top', fsp', z1, fin _ _ _ _ z2⟩
            · simp only [if_neg hG]
              rw [if_pos (by decide)]
              exact ⟨_, _, _, _, rfl, by (try dsimp only); omega, by (try dsimp only); omega, by (try dsimp only); omega, fun i _ => rfl, Or.inl ⟨rfl, rfl⟩⟩
          show ∃ (r : Int32) (fp' : Nat → Int32) (top' : Int32) (fsp' : Nat → Int32), (xr 10 fs (nI k) fun y_105 => if y_105 = (0 : Int32) then (xr 10 fm9 (nI k) fun y_107 => if y_107 = (0 : Int32) then (xb1 (fx_codeOf n (nI k) ((0 : Int32))) fun r_111 => xw 60000 fp (nI T) r_111 fun f_113 => xl (nI T + ((1 : Int32))) fun y_114 => some ((1 : Int32), nI (wd L (bk L p)), nI (bk L p), f_113, y_114, fsp)) else (jx_readsTerm_101 (fx_readsTerm d) n f (nI L.length) nm nmm fs fm9 fu (nI no) (nI nv) (nI k) (nI T) (nI (wd L (bk L p))) (nI (bk L p)) fp (nI T) fsp)) else (jx_readsTerm_101 (fx_readsTerm d) n f (nI L.length) nm nmm fs fm9 fu (nI no) (nI nv) (nI k) (nI T) (nI (wd L (bk L p))) (nI (bk L p)) fp (nI T) fsp)) = _ ∧ _
          rw [xr_n hk10 (by decide), s1]
          by_cases h0 : so k = 0
          · rw [if_pos (by rw [h0]; rfl), xr_n hk10 (by decide), m1]
            by_cases h00 : ma k = 0
            · have cd := fx_codeOf_ok (n := n) (op := k) (k := 0) hk10 (by decide)
              rw [show nI 0 = (0 : Int32) from rfl] at cd
              have hcd : (cdo k 0) / 512 - 1 = k := by unfold cdo; omega
              simp only [if_pos (And.intro h0 h00)]
              rw [if_pos (by rw [h00]; rfl), cd, xb1_s, xw_n (by omega) (by decide), xl_eq, nI_1]
              refine ⟨_, _, _, _, rfl, by (try dsimp only); omega, by (try dsimp only); omega, by (try dsimp only); omega, fun i hi => upd_ne (by omega), Or.inr ⟨_, rfl, rfl, rfl, ⟨upd_eq _ _ _, trivial⟩, nok_leaf (cok_code hk10 (by decide)) (ar_code (by decide)) (fun _ => by rw [hcd]; exact ⟨hk3, by omega⟩), fun c hc => ?_, by (try dsimp only); simp only [List.length_singleton]; omega⟩⟩
              rw [List.mem_singleton.mp hc]
              refine Or.inr ⟨by unfold cdo; omega, by rw [hcd]; exact hk10, by rw [hcd]; exact hk3, fun _ => ?_⟩
              rw [hcd, ar_code (by decide), h00]
            · rw [if_neg (by rw [show (0 : Int32) = nI 0 from rfl, nI_inj (by omega) (by decide)]; exact h00)]
              simp only [if_neg (show ¬ (so k = 0 ∧ ma k = 0) from fun q => h00 q.2)]
              exact jx (fun q => h00 q.2)
          · rw [if_neg (by rw [show (0 : Int32) = nI 0 from rfl, nI_inj (by omega) (by decide)]; exact h0)]
            simp only [if_neg (show ¬ (so k = 0 ∧ ma k = 0) from fun q => h0 q.1)]
            exact jx (fun q => h0 q.1)
