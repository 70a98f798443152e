/-! ===== goesOn: its check, and all of it ===== -/
def SolA (so : Nat → Nat) (un : Nat → Option Nat) (pv : Int32) (G : List Goal) (be : Nat → Option (List Nat)) (op : Nat) (ps H : List (List Nat)) (A : List Nat) (k : List Nat) : Prop :=
  ∃ sg : Nat → List Nat, (∀ v : Nat, v < 5 → ∀ r : List Nat, be v = some r → sg v = r) ∧ ((∀ g ∈ G, von so un sg g.2.1 ∧ fil so un sg g.2.1 = g.2.2.2) ∧ ∀ i : Nat, i < ps.length → von so un sg (nth ps i) ∧ fil so un sg (nth ps i) = mkt so un op (gf i A H)) ∧ k = key pv sg
theorem sol_gls2 {so : Nat → Nat} {un : Nat → Option Nat} {pv : Int32} {G : List Goal} {be : Nat → Option (List Nat)} {op T : Nat} {ps : List (Nat × List Nat)} {H : List (List Nat)} {A k : List Nat} : Sol so un pv (gls2 so un op A H 0 ps T G) be k ↔ SolA so un pv G be op (ps.map Prod.snd) H A k := by
  unfold Sol SolA
  refine exists_congr (fun sg => and_congr Iff.rfl (and_congr ?_ Iff.rfl))
  rw [gls2_all (P := fun p t => von so un sg p ∧ fil so un sg p = t), List.length_map]
  simp only [Nat.zero_add]
theorem nth_map {ps : List (Nat × List Nat)} {i : Nat} (h : i < ps.length) : ∃ x ∈ ps, x.2 = nth (ps.map Prod.snd) i ∧ ps[i]? = some x := by
  refine ⟨ps[i], List.getElem_mem h, ?_, List.getElem?_eq_getElem h⟩
  unfold nth
  rw [List.getD_eq_getElem?_getD, List.getElem?_map, List.getElem?_eq_getElem h]; rfl
theorem lx_goesOn_12_ok {slf : SLF} {n : Nat} {fs fu : Nat → Int32} {so : Nat → Nat} {un : Nat → Option Nat} {pv : Int32} {d : Nat} (hslf : SOK slf n fs fu so un pv d) (hn : 100000 ≤ n) (hsg : SG fs fu so un) (hsu : SU so un) {fp fb fw ff fgp fgt : Nat → Int32} {T n0 op base k h to W : Nat} {fm tm : Int32} {be : Nat → Option (List Nat)} {E : List Nat → Prop} {A : List Nat} {xs ps : List (Nat × List Nat)} {t : List Nat} {G : List Goal}
    (ho : op < 10 ∧ so op ≠ 3) (h2 : so op = 2) (ht : nok so un t) (htl : t.length ≤ 20) (hxt : xs.map Prod.snd = flat1 so un op t) (hto : to = base + k + h) (hWe : W = to + h) (hW : W + 70 * d ≤ 4000) (hA : la fw to A) (hx : la fw (base + k) (adr xs)) (ha : ∀ a ∈ A, a < 1000) (hl : A.length = xs.length) (hxh : xs.length = h) (hok : ∀ x ∈ xs, okp fp x ∧ x.1 + x.2.length ≤ T) (hbn : bnd so un fp fb T be) (he : EXS E fm ff tm) (hG : G.length = n0)
    (hpk : ps.length = k) (hk : k ≤ 20) (hpa : la fw base (adr ps)) (hps : ∀ p ∈ ps, la fp p.1 p.2 ∧ nok so un p.2 ∧ c2 so p.2 ∧ p.2.length ≤ 20 ∧ p.1 + p.2.length ≤ T) (hpl : ∀ p ∈ ps, plain so un op p.2) (hGo : ∀ g ∈ G, gok so un fp T g) (hgp : la fgp 0 (G.map (fun g => g.1)).reverse) (hgt : la fgt 0 (G.map (fun g => g.2.2.1)).reverse) (hT : T + 21 * k + 500 * d ≤ 59000) (hp : plen G + (ps.map Prod.snd).flatten.length < d) (hp2 : plen G + (ps.map Prod.snd).flatten.length ≤ 20) (hcv : ∀ top : Nat, cov pv be (gls2 so un op A (flat1 so un op t) 0 ps top G)) :
    ∀ (j i m : Nat), i + j = k → (∀ i' : Nat, i' < i → ct i' A = 0 → un op ≠ none) → j < m →
      PO n0 fp T fgp fgt fb fw W (fun q => E q ∨ SolA so un pv G be op (ps.map Prod.snd) (flat1 so un op t) A q) (lx_goesOn_12 slf n fs fu pv (nI n0) (nI op) (nI base) (nI k) (nI h) m (nI to) (nI i) fp (nI T) fgp fgt fb fw (nI W) fm ff tm)
  | 0, i, m + 1, hi, hc, _ => by
    have eL : lx_goesOn_12 slf n fs fu pv (nI n0) (nI op) (nI base) (nI k) (nI h) (m + 1) (nI to) (nI i) fp (nI T) fgp fgt fb fw (nI W) fm ff tm = bx_goesOn_12 slf n fs fu pv (nI n0) (nI op) (nI base) (nI k) (nI h) (lx_goesOn_12 slf n fs fu pv (nI n0) (nI op) (nI base) (nI k) (nI h) m) (nI to) (nI i) fp (nI T) fgp fgt fb fw (nI W) fm ff tm := rfl
    rw [eL]
    unfold bx_goesOn_12
    have hik : i = k := by omega
    rw [hik, if_pos (Int32.le_refl _), show (0 : Int32) = nI 0 from rfl]
    have := lx_goesOn_101_ok (G := G) (n0 := n0) hslf hn hsg hsu ho h2 ht htl hxt hto hWe hW hk hA hx ha hl hxh hok hbn he (fun i' hi' => hc i' (by omega)) hG ps 0 T G fp fgp fgt n (by omega) hpa hps (by omega) hGo hgp hgt (fun _ _ => rfl) (Nat.le_refl _) (by omega) hp hp2 (hcv T) (by omega)
    exact PO_iff (fun q => or_congr Iff.rfl sol_gls2) this
  | j + 1, i, m + 1, hi, hc, hm => by
    have eL : lx_goesOn_12 slf n fs fu pv (nI n0) (nI op) (nI base) (nI k) (nI h) (m + 1) (nI to) (nI i) fp (nI T) fgp fgt fb fw (nI W) fm ff tm = bx_goesOn_12 slf n fs fu pv (nI n0) (nI op) (nI base) (nI k) (nI h) (lx_goesOn_12 slf n fs fu pv (nI n0) (nI op) (nI base) (nI k) (nI h) m) (nI to) (nI i) fp (nI T) fgp fgt fb fw (nI W) fm ff tm := rfl
    have hAH : A.length = (flat1 so un op t).length := by rw [← hxt, List.length_map]; exact hl
    have hfl := flat1_len (so := so) (un := un) (op := op) ht.1.1
    have hcl := ct_le (i := i) (A := A)
    have hlh : (flat1 so un op t).length = h := by rw [← hxt, List.length_map]; exact hxh
    obtain ⟨x, hxm, hx2, hx3⟩ := nth_map (ps := ps) (i := i) (by omega)
    obtain ⟨p1, p2, p3, p4, p5⟩ := hps x hxm
    have hwx : fw (base + i) = nI x.1 := by
      have hia : i < (adr ps).length := by simp [adr]; omega
      have := la_get hpa i hia
      rw [this]
      congr 1
      have : (adr ps)[i]? = some x.1 := by simp [adr, hx3]
      rw [List.getElem?_eq_getElem hia] at this
      exact Option.some.inj this
    have hmt := fx_manyTo_ok (n := n) (fw := fw) (to := to) (i := i) hA ha (by omega) (by omega) hn
    rw [hl, hxh] at hmt
    have next : (ct i A = 0 → un op ≠ none) → PO n0 fp T fgp fgt fb fw W (fun q => E q ∨ SolA so un pv G be op (ps.map Prod.snd) (flat1 so un op t) A q) (lx_goesOn_12 slf n fs fu pv (nI n0) (nI op) (nI base) (nI k) (nI h) m (nI to) (nI (i + 1)) fp (nI T) fgp fgt fb fw (nI W) fm ff tm) := fun hci =>
      lx_goesOn_12_ok hslf hn hsg hsu ho h2 ht htl hxt hto hWe hW hA hx ha hl hxh hok hbn he hG hpk hk hpa hps hpl hGo hgp hgt hT hp hp2 hcv j (i + 1) m (by omega) (fun i' hi' hct => by
        by_cases q : i' = i
        · rw [q] at hct; exact hci hct
        · exact hc i' (by omega) hct) (by omega)
    have none' : (∀ sg : Nat → List Nat, von so un sg (nth (ps.map Prod.snd) i) → fil so un sg (nth (ps.map Prod.snd) i) ≠ mkt so un op (gf i A (flat1 so un op t))) → PO n0 fp T fgp fgt fb fw W (fun q => E q ∨ SolA so un pv G be op (ps.map Prod.snd) (flat1 so un op t) A q) (some (fp, nI T, fgp, fgt, fb, fw, nI W, fm, ff, tm)) := fun hno => by
      refine PO_iff (fun q => ⟨Or.inl, ?_⟩) (PO_same he)
      rintro (g | ⟨sg, _, ⟨_, s2⟩, _⟩)
      · exact g
      · obtain ⟨s3, s4⟩ := s2 i (by simp; omega)
        exact absurd s4 (hno sg s3)
    rw [← hx2] at none'
    rw [eL]
    unfold bx_goesOn_12
    rw [if_neg (by rw [nI_le_iff (by omega) (by omega)]; omega), hmt, xb1_s]
    by_cases q0 : ct i A = 0
    · rw [if_pos (by rw [q0]; rfl), xr_n ho.1 (by decide)]
      have hgf : gf i A (flat1 so un op t) = [] := (ct_pos_gf hAH).mpr q0
      cases hu : un op with
      | none =>
        rw [(hsg op ho).2.2.1 hu, if_pos rfl]
        refine none' (fun sg hv e => ?_)
        rw [hgf] at e
        have hz : mkt so un op [] = [] := by unfold mkt; rw [if_pos h2, hu]
        rw [hz] at e
        have hk2 := (fil_nok hsu 21 x.2 p2.1 (by omega) (by omega) hv).1.1
        have hk3 : wf 1 (fil so un sg x.2) := hk2
        rw [e] at hk3
        exact absurd (wf_pos hk3) (by simp)
      | some u =>
        obtain ⟨u1, u2⟩ := (hsg op ho).2.2.2 u hu
        obtain ⟨r, r1, r2⟩ := fx_isOne_ok (n := n) (un := un) hsg p1 p2.1 (by omega)
        rw [u1, if_neg (nI_m1 (by omega)), xl_eq, nI_add, xr_n (by omega) (by decide), hwx, r1, xb1_s]
        by_cases q1 : r = 0
        · rw [if_pos q1, xl_eq, nI_1]; exact next (fun _ => by rw [hu]; simp)
        · have hone : isOneP so un x.2 := Classical.byContradiction (fun g => q1 (r2.mpr g))
          cases hxr : x.2 with
          | nil => rw [hxr] at p2; exact absurd (wf_pos p2.1.1) (by simp)
          | cons c l =>
            have p1' := p1
            rw [hxr] at p1'
            have hcc : c < 5632 := by have := p2.1.2.1; rw [hxr] at this; exact cok_lt (col_cons.mp this).1
            have hxl : x.1 < 60000 := by have := wf_pos p2.1.1; omega
            rw [if_neg q1, xl_eq, xr_n (by omega) (by decide), hwx, xr_n hxl (by decide), p1'.1, xr_n ho.1 (by decide), u1, show (0 : Int32) = nI 0 from rfl, fx_codeOf_ok u2 (by decide), xb1_s]
            have hne : c ≠ cdo u 0 := by
              intro e
              have hp' := hpl x hxm
              rw [hxr] at hp'
              have hun : isun un op (c :: l) = true := by unfold isun; rw [hu]; simp [e]
              have hni : ¬ isop op (c :: l) = true := fun q => by
                have := (isop_head q).2
                obtain ⟨_, u4⟩ := hsu op u ho hu
                rw [e] at this
                have : u = op := by unfold cdo at this; omega
                rw [this] at u4; omega
              unfold plain flat1 at hp'
              rw [if_pos h2, if_neg hni, if_pos hun] at hp'
              simp at hp'
            rw [if_neg (by rw [nI_inj (by omega) (by unfold cdo; omega)]; exact hne)]
            refine none' (fun sg hv e => ?_)
            obtain ⟨o1, _⟩ := one_plain hsu ho h2 p2.1 p4 hv (hpl x hxm) hone
            rw [e, hgf, mkt_nil h2 hu] at o1
            have := flat1_mkt (ys := []) hsu ho h2 (fun q hq => absurd hq List.not_mem_nil) (fun q hq => absurd hq List.not_mem_nil) (by simp) (fun _ => by rw [hu]; simp)
            rw [mkt_nil h2 hu] at this
            unfold plain at o1
            rw [this] at o1
            simp at o1
    · rw [if_neg (by rw [show (0 : Int32) = nI 0 from rfl, nI_inj (by omega) (by decide)]; exact q0), xl_eq, nI_1]
      exact next (fun g => absurd g q0)
