/-! ===== rank ===== -/
/-- how many rows are ahead of one -/
def ahd (us : List (List Nat)) (t : List Nat) : Nat := (us.filter (fun u => decide (cmpL u t = -1))).length
theorem ahd_cons {u t : List Nat} {us : List (List Nat)} : ahd (u :: us) t = (if cmpL u t = -1 then 1 else 0) + ahd us t := by
  unfold ahd
  rw [List.filter_cons]
  by_cases q : cmpL u t = -1
  · rw [if_pos q, if_pos (by simpa using q), List.length_cons]; omega
  · rw [if_neg q, if_neg (by simpa using q)]; omega
theorem ahd_le {us : List (List Nat)} {t : List Nat} : ahd us t ≤ us.length := List.length_filter_le _ _
/-- the first row that has so many ahead -/
def rkF (Tm : List (List Nat)) (p : Int32) : Nat → Nat → Int32
  | 0, _ => -1
  | d + 1, a => if nI (ahd Tm (nth Tm a)) = p then nI a else rkF Tm p d (a + 1)
theorem nth_app3 {A : List (List Nat)} {u : List Nat} {us : List (List Nat)} : nth (A ++ u :: us) A.length = u := by
  unfold nth
  rw [List.getD_eq_getElem?_getD, List.getElem?_append_right (Nat.le_refl _), Nat.sub_self]; rfl
theorem cmp_ge0 {u t : List Nat} : (0 : Int32) ≤ cmpL u t ↔ ¬ cmpL u t = -1 := by
  rcases cmpL_vals u t with h | h | h <;> rw [h] <;> decide
theorem lx_rank_27_ok {so : Nat → Nat} {un : Nat → Option Nat} {ma : Nat → Nat} {nv n : Nat} {fk : Nat → Int32} {Tm : List (List Nat)} {p th tm : Int32} {a : Nat} {t : List Nat} {k7 : Int32 → Int32 → (Nat → Int32) → Int32 → Int32 → Option (Int32 × Int32 × (Nat → Int32) × Int32 × Int32)} (hn : 100000 ≤ n) (h : KT so un ma nv fk Tm) (ht : tok so un ma nv t) :
    ∀ (us : List (List Nat)) (A : List (List Nat)) (c T m : Nat) (fp : Nat → Int32), Tm = A ++ us → la fp 0 t → t.length ≤ T → T + 20 * us.length ≤ 40000 → c ≤ A.length → us.length < m →
      ∃ (fp' : Nat → Int32) (T' : Nat), lx_rank_27 n fk (nI Tm.length) p k7 m (nI a) (nI 0) (nI c) (nI A.length) th fp (nI T) tm = if nI (c + ahd us t) = p then some (nI a, th, fp', nI T', tm) else k7 (nI (a + 1)) th fp' (nI T') tm
  | [], A, c, T, m + 1, fp, hA, hl, hT, hT2, hc, hm => by
    refine ⟨fp, T, ?_⟩
    show bx_rank_27 n fk (nI Tm.length) p k7 (lx_rank_27 n fk (nI Tm.length) p k7 m) _ _ _ _ _ _ _ _ = _
    unfold bx_rank_27
    rw [hA, List.append_nil, if_pos (Int32.le_refl _), xl_eq, nI_1]; rfl
  | u :: us, A, c, T, m + 1, fp, hA, hl, hT, hT2, hc, hm => by
    simp only [List.length_cons] at hT2 hm
    have hk := h.1
    have hlen : Tm.length = A.length + (us.length + 1) := by rw [hA]; simp
    have hnu : nth Tm A.length = u := by rw [hA]; exact nth_app3
    obtain ⟨k1, k2, k3, k4⟩ := KT_get h (i := A.length) (by omega)
    have hco := comes_term (fp := fp) (top := T) hn h (i := A.length) (by omega) (by omega)
    rw [hnu] at k1 k2 k3 hco
    have htl := tok_len ht
    have hl2 : la (put fp T u) 0 t := la_put (Or.inl (by omega)) hl
    have hcm := fx_compares_ok (n := n) (f := put fp T u) (a := T) (b := 0) (l := u) (r := t) put_la k1.1.1.1 k1.1.1.2.1 (by omega) hl2 ht.1.1.1 ht.1.1.2.1 (by omega) hn
    have hA2 : Tm = (A ++ [u]) ++ us := by rw [hA]; simp
    have hAl : (A ++ [u]).length = A.length + 1 := by simp
    obtain ⟨fp', T', ih⟩ := lx_rank_27_ok (k7 := k7) (p := p) (th := th) (tm := tm) (a := a) hn h ht us (A ++ [u]) (c + (if cmpL u t = -1 then 1 else 0)) (T + u.length) m (put fp T u) hA2 hl2 (by omega) (by omega) (by rw [hAl]; split <;> omega) (by omega)
    rw [hAl] at ih
    refine ⟨fp', T', ?_⟩
    rw [ahd_cons, ← Nat.add_assoc]
    show bx_rank_27 n fk (nI Tm.length) p k7 (lx_rank_27 n fk (nI Tm.length) p k7 m) _ _ _ _ _ _ _ _ = _
    unfold bx_rank_27 fx_rowOfTerm
    rw [if_neg (by rw [nI_le_iff (by omega) (by omega)]; omega), xb1_s, hco, xb3_s, show (nI 0 : Int32) = nI 0 from rfl, hcm, xb1_s]
    by_cases q : cmpL u t = -1
    · rw [if_pos q] at ih
      rw [if_neg (fun h9 => (cmp_ge0.mp h9) q), xl_eq, nI_1, xl_eq, nI_1, if_pos q]
      exact ih
    · rw [if_neg q] at ih
      rw [if_pos (cmp_ge0.mpr q), xl_eq, show nI c + 0 = nI (c + 0) by rw [show (0 : Int32) = nI 0 from rfl, nI_add], xl_eq, nI_1, if_neg q]
      exact ih
theorem lx_rank_7_ok {so : Nat → Nat} {un : Nat → Option Nat} {ma : Nat → Nat} {nv n : Nat} {fk : Nat → Int32} {Tm : List (List Nat)} {p th : Int32} (hn : 100000 ≤ n) (h : KT so un ma nv fk Tm) :
    ∀ (d a m : Nat) (fp : Nat → Int32) (top tm : Int32), a + d = Tm.length → d < m → ∃ (fp' : Nat → Int32) (top' tm' : Int32), lx_rank_7 n fk (nI Tm.length) p m (nI a) th fp top tm = some (rkF Tm p d a, th, fp', top', tm')
  | 0, a, m + 1, fp, top, tm, ha, hm => by
    refine ⟨fp, top, tm, ?_⟩
    show bx_rank_7 n fk (nI Tm.length) p (lx_rank_7 n fk (nI Tm.length) p m) _ _ _ _ _ = _
    unfold bx_rank_7
    rw [show a = Tm.length by omega, if_pos (Int32.le_refl _)]; rfl
  | d + 1, a, m + 1, fp, top, tm, ha, hm => by
    have hk := h.1
    obtain ⟨k1, k2, k3, k4⟩ := KT_get h (i := a) (by omega)
    obtain ⟨fp1, T1, e1⟩ := lx_rank_27_ok (k7 := lx_rank_7 n fk (nI Tm.length) p m) (p := p) (th := th) (tm := 0) (a := a) hn h k1 Tm [] 0 (nth Tm a).length n (put fp 0 (nth Tm a)) rfl put_la (Nat.le_refl _) (by omega) (Nat.le_refl _) (by omega)
    rw [Nat.zero_add] at e1
    have st : lx_rank_7 n fk (nI Tm.length) p (m + 1) (nI a) th fp top tm = if nI (ahd Tm (nth Tm a)) = p then some (nI a, th, fp1, nI T1, 0) else lx_rank_7 n fk (nI Tm.length) p m (nI (a + 1)) th fp1 (nI T1) 0 := by
      show bx_rank_7 n fk (nI Tm.length) p (lx_rank_7 n fk (nI Tm.length) p m) _ _ _ _ _ = _
      unfold bx_rank_7
      rw [if_neg (by rw [nI_le_iff (by omega) (by omega)]; omega), fx_termAt_ok hn h (by omega), xb4_s]
      exact e1
    rw [st]
    show ∃ (fp' : Nat → Int32) (top' tm' : Int32), _ = some (if nI (ahd Tm (nth Tm a)) = p then nI a else rkF Tm p d (a + 1), th, fp', top', tm')
    by_cases q : nI (ahd Tm (nth Tm a)) = p
    · rw [if_pos q, if_pos q]; exact ⟨_, _, _, rfl⟩
    · rw [if_neg q, if_neg q]
      exact lx_rank_7_ok hn h d (a + 1) m fp1 (nI T1) 0 (by omega) (by omega)
theorem fx_rank_ok {so : Nat → Nat} {un : Nat → Option Nat} {ma : Nat → Nat} {nv n : Nat} {fk fp : Nat → Int32} {Tm : List (List Nat)} {p th top tm : Int32} (hn : 100000 ≤ n) (h : KT so un ma nv fk Tm) : ∃ (fp' : Nat → Int32) (top' tm' : Int32), fx_rank n th fp top fk (nI Tm.length) tm p = some (rkF Tm p Tm.length 0, 0, fp', top', tm') := by
  have hk := h.1
  exact lx_rank_7_ok hn h Tm.length 0 n fp top tm (by omega) (by omega)
/-! ===== matches, bound ===== -/
/-- a pattern's and a term's matches, all of them, in order -/
def MatL (so : Nat → Nat) (un : Nat → Option Nat) (p t : List Nat) (pv : Int32) (F : List (List Nat)) : Prop := pvs pv p ∧ KS F ∧ F.length ≤ 300 ∧ ∀ k : List Nat, k ∈ F ↔ Mat so un pv p t k
theorem two_terms {so : Nat → Nat} {un : Nat → Option Nat} {ma : Nat → Nat} {nv n i j : Nat} {fk fp : Nat → Int32} {Tm : List (List Nat)} (hn : 100000 ≤ n) (hsv : SV so un ma nv) (h : KT so un ma nv fk Tm) (hi : i < Tm.length) (hj : j < Tm.length) :
    fx_comes n (put fp 0 (nth Tm i)) (nI (nth Tm i).length) fk (nI j) = some (nI (nth Tm i).length, put (put fp 0 (nth Tm i)) (nth Tm i).length (nth Tm j), nI ((nth Tm i).length + (nth Tm j).length)) ∧ gok so un (put (put fp 0 (nth Tm i)) (nth Tm i).length (nth Tm j)) ((nth Tm i).length + (nth Tm j).length) (0, nth Tm i, (nth Tm i).length, nth Tm j) := by
  obtain ⟨a1, a2, a3, a4⟩ := KT_get h hi
  obtain ⟨b1, b2, b3, b4⟩ := KT_get h hj
  refine ⟨comes_term hn h hj (by omega), ⟨la_put (Or.inl (by show 0 + (nth Tm i).length ≤ _; omega)) put_la, a1.1, sS_c2 hsv a1.2.2, a3, by show 0 + (nth Tm i).length ≤ _; omega⟩, put_la, b1.1, b3, Nat.le_refl _⟩
theorem fx_matches_ok {n : Nat} {fs fu fk fp fgp fgt fb fw ff : Nat → Int32} {so ma : Nat → Nat} {un : Nat → Option Nat} {nv : Nat} {th top wt fm pv tm x y : Int32} {Tm : List (List Nat)} (hn : 100000 ≤ n) (hsg : SG fs fu so un) (hsv : SV so un ma nv) (h : KT so un ma nv fk Tm) :
    ∃ (r th' : Int32) (fp' : Nat → Int32) (top' : Int32) (fgp' fgt' fb' fw' : Nat → Int32) (wt' fm' pv' : Int32) (ff' : Nat → Int32) (tm' : Int32), fx_matches n th fs fu fp top fk (nI Tm.length) fgp fgt fb fw wt fm pv ff tm x y = some (r, th', fp', top', fgp', fgt', fb', fw', wt', fm', pv', ff', tm') ∧
      ((∃ (i j : Nat) (pv1 : Int32) (F : List (List Nat)), (i < Tm.length ∧ x = nI i) ∧ (j < Tm.length ∧ y = nI j) ∧ MatL so un (nth Tm i) (nth Tm j) pv1 F ∧ r = nI F.length ∧ th' = 0) ∨
       (∃ (i j : Nat), (i < Tm.length ∧ x = nI i) ∧ (j < Tm.length ∧ y = nI j) ∧ TMm so un (nth Tm i) (nth Tm j) ∧ r = 0 ∧ th' = 2) ∨
       (¬ (isn x Tm.length ∧ isn y Tm.length) ∧ r = 0 ∧ th' = 1)) := by
  have hl := h.1
  unfold fx_matches
  rcases fx_noTerm_ok (n := n) (th := 0) (x := x) (k := Tm.length) (by omega) with ⟨h1, e1⟩ | ⟨h1, e1⟩
  · rw [e1, xb2_s, if_pos rfl]
    rcases fx_noTerm_ok (n := n) (th := 0) (x := y) (k := Tm.length) (by omega) with ⟨h2, e2⟩ | ⟨h2, e2⟩
    · rw [e2, xb2_s, if_pos rfl]
      obtain ⟨i, i1, i2⟩ := isn_of (by omega) h1
      obtain ⟨j, j1, j2⟩ := isn_of (by omega) h2
      obtain ⟨a1, a2, a3, a4⟩ := KT_get h i1
      obtain ⟨b1, b2, b3, b4⟩ := KT_get h j1
      obtain ⟨c1, c2⟩ := two_terms (fp := fp) hn hsv h i1 j1
      obtain ⟨f2, gp2, gt2, b2', w2, fm2, pv2, ff2, tm2, m1, m2, m3, m4⟩ := fx_laysMatches_ok (fgp := fgp) (fgt := fgt) (fb := fb) (fw := fw) (ff := ff) (wt := wt) (fm := fm) (pv := pv) hn hsg (SV_SU hsv) c2 (by omega)
      unfold fx_rowOfTerm
      rw [i2, j2, fx_termAt_ok hn h i1, xb4_s, xb1_s, c1, xb3_s, show (0 : Int32) = nI 0 from rfl]
      rw [show nI 0 = (0 : Int32) from rfl] at m1 ⊢
      rw [m1, xb11_s]
      rcases m4 with ⟨t0, F, d1, d2, d3, d4, d5⟩ | ⟨t1, L, d1, d2, d3⟩
      · rw [t0, fx_tooMuch_ok (Or.inl rfl), xb2_s, if_pos rfl, if_pos rfl]
        exact ⟨_, _, _, _, _, _, _, _, _, _, _, _, _, rfl, Or.inl ⟨i, j, pv2, F, ⟨i1, rfl⟩, ⟨j1, rfl⟩, ⟨m3, d1, d2, d5⟩, d3, rfl⟩⟩
      · rw [t1, fx_tooMuch_ok (Or.inr rfl), xb2_s, if_neg (by decide), if_neg (by decide)]
        exact ⟨_, _, _, _, _, _, _, _, _, _, _, _, _, rfl, Or.inr (Or.inl ⟨i, j, ⟨i1, rfl⟩, ⟨j1, rfl⟩, ⟨pv2, L, m3, d1, d2, d3⟩, rfl, rfl⟩)⟩
    · rw [e2, xb2_s, if_neg (by decide)]
      exact ⟨_, _, _, _, _, _, _, _, _, _, _, _, _, rfl, Or.inr (Or.inr ⟨fun q => h2 q.2, rfl, rfl⟩)⟩
  · rw [e1, xb2_s, if_neg (by decide)]
    exact ⟨_, _, _, _, _, _, _, _, _, _, _, _, _, rfl, Or.inr (Or.inr ⟨fun q => h1 q.1, rfl, rfl⟩)⟩
/-! ===== fill, join ===== -/
theorem von_id {so : Nat → Nat} {un : Nat → Option Nat} {ma : Nat → Nat} {nv v : Nat} {b t : List Nat} (hsv : SV so un ma nv) (hb' : tok so un ma nv b) (ht : sS so ma nv t) : von so un (fun c => if c = v then b else [c]) t ∧ ∀ c ∈ t, c < 512 → sS so ma nv (if c = v then b else [c]) := by
  have h5 := hsv.1
  have key : ∀ c ∈ t, c < 512 → c < nv := fun c hc q => by
    rcases ht c hc with g | ⟨g, _⟩
    · exact g
    · omega
  refine ⟨fun c hc q => ?_, fun c hc q => ?_⟩
  · show nok so un (if c = v then b else [c]) ∧ (if c = v then b else [c]).length ≤ 20
    by_cases e : c = v
    · rw [if_pos e]; exact ⟨hb'.1, tok_len hb'⟩
    · rw [if_neg e]
      have := key c hc q
      have ha : ar c = 0 := by unfold ar; rw [if_pos q]
      refine ⟨⟨⟨wf_mk (by rw [ha]; rfl), col_cons.mpr ⟨Or.inl (by omega), col_nil⟩, fun d hd h9 => ?_⟩, nf_leaf ha⟩, by simp⟩
      rw [List.mem_singleton.mp hd] at h9; omega
  · by_cases e : c = v
    · rw [if_pos e]; exact hb'.2.2
    · rw [if_neg e]
      intro d hd
      rw [List.mem_singleton.mp hd]
      exact ht c hc
theorem fx_join_ok {n : Nat} {nm nmm fs fu fk fp fsp shr tx : Nat → Int32} {so ma : Nat → Nat} {un : Nat → Option Nat} {nv no : Nat} {nmL : Nat → List Nat} {th top tm iss shn o x y : Int32} {Tm : List (List Nat)} (hn : 100000 ≤ n) (hsg : SG fs fu so un) (hsv : SV so un ma nv) (hno : no ≤ 10 ∧ ∀ q : Nat, q < no → so q ≠ 3) (hnm : NMs so nv nm nmm nmL) (h : KT so un ma nv fk Tm) :
    ∃ (r th' : Int32) (fp' : Nat → Int32) (top' : Int32) (fsp' : Nat → Int32) (tm' : Int32) (shr' tx' : Nat → Int32) (iss' shn' : Int32), fx_join n th nm nmm fs fu (nI no) fp top fsp fk (nI Tm.length) tm shr tx iss shn o x y = some (r, th', fp', top', fsp', tm', shr', tx', iss', shn') ∧
      ((∃ (q i j : Nat), (q < no ∧ o = nI q) ∧ (i < Tm.length ∧ x = nI i) ∧ (j < Tm.length ∧ y = nI j) ∧ so q = 2 ∧
          ((great so (stand so un q [nth Tm i, nth Tm j]) = false ∧ th' = 0 ∧ r = nI (txt nmL (stand so un q [nth Tm i, nth Tm j])).length ∧ SHW so un ma nv nmL (some (stand so un q [nth Tm i, nth Tm j])) shr' tx' iss' shn') ∨
           (great so (stand so un q [nth Tm i, nth Tm j]) = true ∧ th' = 3 ∧ r = 0 ∧ shr' = shr ∧ tx' = tx ∧ iss' = iss ∧ shn' = shn))) ∨
       (∃ (q : Nat), (q < no ∧ o = nI q) ∧ isn x Tm.length ∧ isn y Tm.length ∧ so q ≠ 2 ∧ th' = 2 ∧ r = 0 ∧ shr' = shr ∧ tx' = tx ∧ iss' = iss ∧ shn' = shn) ∨
       (¬ (isn o no ∧ isn x Tm.length ∧ isn y Tm.length) ∧ th' = 1 ∧ r = 0 ∧ shr' = shr ∧ tx' = tx ∧ iss' = iss ∧ shn' = shn)) := by
  have hl := h.1
  have hsu := SV_SU hsv
  unfold fx_join
  rcases fx_noOperator_ok (n := n) (th := 0) (x := o) (k := no) (by omega) with ⟨h0, e0⟩ | ⟨h0, e0⟩
  · rw [e0, xb2_s, if_pos rfl]
    rcases fx_noTerm_ok (n := n) (th := 0) (x := x) (k := Tm.length) (by omega) with ⟨h1, e1⟩ | ⟨h1, e1⟩
    · rw [e1, xb2_s, if_pos rfl]
      rcases fx_noTerm_ok (n := n) (th := 0) (x := y) (k := Tm.length) (by omega) with ⟨h2, e2⟩ | ⟨h2, e2⟩
      · rw [e2, xb2_s, if_pos rfl]
        obtain ⟨q, q1, q2⟩ := isn_of (by omega) h0
        obtain ⟨i, i1, i2⟩ := isn_of (by omega) h1
        obtain ⟨j, j1, j2⟩ := isn_of (by omega) h2
        obtain ⟨a1, a2, a3, a4⟩ := KT_get h i1
        obtain ⟨b1, b2, b3, b4⟩ := KT_get h j1
        have ho : q < 10 ∧ so q ≠ 3 := ⟨by omega, hno.2 q q1⟩
        have hso := hsg q ho
        rw [q2, i2, j2, xr_n ho.1 (by decide), hso.1]
        by_cases q9 : so q = 2
        · rw [if_pos (by rw [q9]; rfl)]
          unfold jx_join_45 fx_rowOfTerm
          have hco := comes_term (fp := put fp 0 (nth Tm i)) (top := (nth Tm i).length) hn h j1 (by omega)
          rw [fx_throwsIf_0, xb2_s, if_pos rfl, fx_termAt_ok hn h i1, xb4_s, xb1_s, hco, xb3_s]
          have hns : noks so un [nth Tm i, nth Tm j] := fun t ht => by
            rcases List.mem_cons.mp ht with g | g
            · rw [g]; exact a1.1
            · rw [List.mem_singleton.mp g]; exact b1.1
          have hfl : [nth Tm i, nth Tm j].flatten = nth Tm i ++ nth Tm j := by simp
          have hfl2 : [nth Tm i, nth Tm j].flatten.length = (nth Tm i).length + (nth Tm j).length := by rw [hfl, List.length_append]
          obtain ⟨f3, sp3, d1, d2, d3⟩ := fx_stands_ok2 (fsp := fsp) (from_ := 0) (op := q) hsg ho hn (ts := [nth Tm i, nth Tm j]) (fp := put (put fp 0 (nth Tm i)) (nth Tm i).length (nth Tm j)) (by rw [hfl]; exact la_app.mpr ⟨la_put (Or.inl (by omega)) put_la, by rw [Nat.zero_add]; exact put_la⟩) (noks_okts hns) (fun _ e => by simp at e) (by omega) (by omega)
          obtain ⟨s1, s2⟩ := stand_nok (op := q) hsu ho hns (fun e => by simp at e) (by omega)
          have hS : sS so ma nv (stand so un q [nth Tm i, nth Tm j]) := stand_S hsv ho (okts_wfs (noks_okts hns)) (fun t ht => by
            rcases List.mem_cons.mp ht with g | g
            · rw [g]; exact a1.2.2
            · rw [List.mem_singleton.mp g]; exact b1.2.2) (fun e => absurd q9 e) (by omega)
          rw [hfl2, Nat.zero_add, Nat.zero_add] at d1
          have gr := fx_isGreat_ok hsg d2 s1.1.1 s1.1.2 (by omega) hn
          rw [show nI 0 = (0 : Int32) from rfl] at d1 gr
          rw [d1, xb4_s, gr, xb1_s]
          by_cases g : great so (stand so un q [nth Tm i, nth Tm j]) = true
          · rw [if_pos g, fx_throwsIf_1, xb2_s, if_neg (by decide)]
            exact ⟨_, _, _, _, _, _, _, _, _, _, rfl, Or.inl ⟨q, i, j, ⟨q1, rfl⟩, ⟨i1, rfl⟩, ⟨j1, rfl⟩, q9, Or.inr ⟨g, rfl, rfl, rfl, rfl, rfl, rfl⟩⟩⟩
          · have g' : great so (stand so un q [nth Tm i, nth Tm j]) = false := by simpa using g
            obtain ⟨shr', tx', w1, w2⟩ := shows_SHW (shr := shr) (tx := tx) (iss := iss) (shn := shn) (fp := f3) (a := 0) hn hnm hsv.1 d2 (un := un) (ma := ma) ⟨s1, g', hS⟩ (by decide)
            rw [show nI 0 = (0 : Int32) from rfl] at w1
            rw [if_neg g, fx_throwsIf_0, xb2_s, if_pos rfl, w1, xb5_s]
            exact ⟨_, _, _, _, _, _, _, _, _, _, rfl, Or.inl ⟨q, i, j, ⟨q1, rfl⟩, ⟨i1, rfl⟩, ⟨j1, rfl⟩, q9, Or.inl ⟨g', rfl, rfl, w2⟩⟩⟩
        · rw [show (2 : Int32) = nI 2 from rfl, if_neg (fun e => q9 ((nI_inj (by omega) (by decide)).mp e)), show nI 2 = (2 : Int32) from rfl]
          unfold jx_join_45
          rw [fx_throwsIf_1, xb2_s, if_neg (by decide)]
          exact ⟨_, _, _, _, _, _, _, _, _, _, rfl, Or.inr (Or.inl ⟨q, ⟨q1, rfl⟩, by rw [← i2]; exact h1, by rw [← j2]; exact h2, q9, rfl, rfl, rfl, rfl, rfl, rfl⟩)⟩
      · rw [e2, xb2_s, if_neg (by decide)]
        exact ⟨_, _, _, _, _, _, _, _, _, _, rfl, Or.inr (Or.inr ⟨fun q => h2 q.2.2, rfl, rfl, rfl, rfl, rfl, rfl⟩)⟩
    · rw [e1, xb2_s, if_neg (by decide)]
      exact ⟨_, _, _, _, _, _, _, _, _, _, rfl, Or.inr (Or.inr ⟨fun q => h1 q.2.1, rfl, rfl, rfl, rfl, rfl, rfl⟩)⟩
  · rw [e0, xb2_s, if_neg (by decide)]
    exact ⟨_, _, _, _, _, _, _, _, _, _, rfl, Or.inr (Or.inr ⟨fun q => h0 q.1, rfl, rfl, rfl, rfl, rfl, rfl⟩)⟩
