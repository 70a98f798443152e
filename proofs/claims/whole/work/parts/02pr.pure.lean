/-! ===== byShares ===== -/
theorem lx_byShares_28_ok {slf : SLF} {n : Nat} {fs fu fp fgp fgt fb ff : Nat → Int32} {so : Nat → Nat} {pv p0 p1 p2 x4 x5 tp fm tm : Int32} {base k : Nat} (hn : 100000 ≤ n) (hb' : base + k ≤ 4096) :
    ∀ (qs : List (List Nat)) (xa j m : Nat) (fw : Nat → Int32), la fp xa qs.flatten → okts so qs → xa + qs.flatten.length ≤ 60000 → j + qs.length = k → qs.length < m →
      ∃ kk : Int32 → Int32 → Int32 → Int32 → Int32 → (Nat → Int32) → Int32 → (Nat → Int32) → (Nat → Int32) → (Nat → Int32) → (Nat → Int32) → Int32 → Int32 → (Nat → Int32) → Int32 → MRes,
        lx_byShares_28 slf n fs fu pv p0 p1 p2 m x4 x5 (nI k) (nI xa) (nI j) fp tp fgp fgt fb fw (nI (base + j)) fm ff tm = bx_byShares_28 slf n fs fu pv p0 p1 p2 kk x4 x5 (nI k) (nI (xa + qs.flatten.length)) (nI k) fp tp fgp fgt fb (put fw (base + j) (adr (prs xa qs))) (nI (base + k)) fm ff tm
  | [], xa, j, m + 1, fw, _, _, _, hj, _ => by
    simp only [List.length_nil, Nat.add_zero] at hj
    subst hj
    exact ⟨lx_byShares_28 slf n fs fu pv p0 p1 p2 m, rfl⟩
  | q :: qs, xa, j, m + 1, fw, hl, ho, ha, hj, hm => by
    rw [List.flatten_cons] at hl ha
    rw [List.length_append] at ha
    simp only [List.length_cons] at hj hm
    have h1 := la_app.mp hl
    have hq := (okts_cons.mp ho).1
    obtain ⟨kk, hk⟩ := lx_byShares_28_ok (slf := slf) (fs := fs) (fu := fu) (fgp := fgp) (fgt := fgt) (fb := fb) (ff := ff) (pv := pv) (p0 := p0) (p1 := p1) (p2 := p2) (x4 := x4) (x5 := x5) (tp := tp) (fm := fm) (tm := tm) hn hb' qs (xa + q.length) (j + 1) m (upd fw (base + j) (nI xa)) h1.2 (okts_cons.mp ho).2 (by omega) (by omega) (by omega)
    refine ⟨kk, ?_⟩
    show bx_byShares_28 slf n fs fu pv p0 p1 p2 (lx_byShares_28 slf n fs fu pv p0 p1 p2 m) _ _ _ _ _ _ _ _ _ _ _ _ _ _ _ = _
    have hxk : xa + (q.length + qs.flatten.length) = xa + q.length + qs.flatten.length := by omega
    rw [List.flatten_cons, List.length_append, hxk]
    have e1 : put fw (base + j) (adr (prs xa (q :: qs))) = put (upd fw (base + j) (nI xa)) (base + (j + 1)) (adr (prs (xa + q.length) qs)) := rfl
    rw [e1, ← hk]
    conv => lhs; unfold bx_byShares_28
    rw [if_neg (by rw [nI_le_iff (by omega) (by omega)]; omega), xw_n (by omega) (by decide), xl_eq, nI_1, fx_behind_ok h1.1 hq.1 hq.2.1 (by omega) hn, xb1_s, xl_eq, nI_1, Nat.add_assoc]
theorem lx_byShares_98_ok {slf : SLF} {n : Nat} {fs fu fp fgp fgt fb ff : Nat → Int32} {so : Nat → Nat} {pv p0 p1 p2 x4 x5 x6 x7 tp fm tm : Int32} {b0 h : Nat} (hn : 100000 ≤ n) (hb' : b0 + h ≤ 4096) :
    ∀ (qs : List (List Nat)) (xa j m : Nat) (fw : Nat → Int32), la fp xa qs.flatten → okts so qs → xa + qs.flatten.length ≤ 60000 → j + qs.length = h → qs.length < m →
      lx_byShares_98 slf n fs fu pv p0 p1 p2 m x4 x5 x6 x7 (nI h) (nI xa) (nI j) fp tp fgp fgt fb fw (nI (b0 + j)) fm ff tm = jx_byShares_197 slf n fs fu pv p0 p1 p2 x4 x5 x6 x7 (nI h) fp tp fgp fgt fb (put fw (b0 + j) (adr (prs xa qs))) (nI (b0 + h)) fm ff tm
  | [], xa, j, m + 1, fw, _, _, _, hj, _ => by
    simp only [List.length_nil, Nat.add_zero] at hj
    subst hj
    show bx_byShares_98 slf n fs fu pv p0 p1 p2 (lx_byShares_98 slf n fs fu pv p0 p1 p2 m) _ _ _ _ _ _ _ _ _ _ _ _ _ _ _ _ _ = _
    unfold bx_byShares_98
    rw [if_pos (Int32.le_refl _)]; rfl
  | q :: qs, xa, j, m + 1, fw, hl, ho, ha, hj, hm => by
    rw [List.flatten_cons] at hl ha
    rw [List.length_append] at ha
    simp only [List.length_cons] at hj hm
    have h1 := la_app.mp hl
    have hq := (okts_cons.mp ho).1
    have ih := lx_byShares_98_ok (slf := slf) (fs := fs) (fu := fu) (fgp := fgp) (fgt := fgt) (fb := fb) (ff := ff) (pv := pv) (p0 := p0) (p1 := p1) (p2 := p2) (x4 := x4) (x5 := x5) (x6 := x6) (x7 := x7) (tp := tp) (fm := fm) (tm := tm) hn hb' qs (xa + q.length) (j + 1) m (upd fw (b0 + j) (nI xa)) h1.2 (okts_cons.mp ho).2 (by omega) (by omega) (by omega)
    have e1 : put fw (b0 + j) (adr (prs xa (q :: qs))) = put (upd fw (b0 + j) (nI xa)) (b0 + (j + 1)) (adr (prs (xa + q.length) qs)) := rfl
    show bx_byShares_98 slf n fs fu pv p0 p1 p2 (lx_byShares_98 slf n fs fu pv p0 p1 p2 m) _ _ _ _ _ _ _ _ _ _ _ _ _ _ _ _ _ = _
    rw [e1, ← ih]
    unfold bx_byShares_98
    rw [if_neg (by rw [nI_le_iff (by omega) (by omega)]; omega), xw_n (by omega) (by decide), xl_eq, nI_1, fx_behind_ok h1.1 hq.1 hq.2.1 (by omega) hn, xb1_s, xl_eq, nI_1, Nat.add_assoc]
/-- what sharings out give is what the sum's goal asks -/
theorem sol_sum {so : Nat → Nat} {un : Nat → Option Nat} {pv : Int32} {G : List Goal} {be : Nat → Option (List Nat)} {op pa ta c : Nat} {l t q : List Nat} (hsu : SU so un) (ho : op < 10 ∧ so op ≠ 3) (h2 : so op = 2) (h : nok so un (c :: l)) (hl : (c :: l).length ≤ 20) (hi : isop op (c :: l) = true) (ht : nok so un t) (htl : t.length ≤ 20) : SX so un pv G be op (prs (pa + 1) (pts (c :: l))) (flat1 so un op t) [] q ↔ Sol so un pv ((pa, c :: l, ta, t) :: G) be q := by
  have hc : ¬ c < 512 := by have := (isop_head hi).1; omega
  unfold SX SolA Sol oneF hopF
  rw [prs_snd, prs_len]
  simp only [List.nil_append]
  constructor
  · rintro ⟨B, b1, b2, sg, s1, ⟨s2, s3⟩, s4⟩
    have hv : von so un sg (c :: l) := (von_pts h.1.1 hc).mpr (fun p hp => by
      obtain ⟨i, hi', rfl⟩ := List.getElem_of_mem hp
      have := (s3 i hi').1
      unfold nth at this
      rw [List.getD_eq_getElem?_getD, List.getElem?_eq_getElem hi'] at this; exact this)
    refine ⟨sg, s1, fun g hg => ?_, s4⟩
    rcases List.mem_cons.mp hg with e | e
    · subst e
      refine ⟨hv, (ac_iff hsu ho h2 h hl hi hv ht htl).mpr ⟨B.reverse, b2, fun i hi' => ?_⟩⟩
      rw [(s3 i hi').2, grp_gf (by simp [b1]), List.reverse_reverse, List.reverse_reverse]
    · exact s2 g e
  · rintro ⟨sg, s1, s2, s4⟩
    obtain ⟨hv, hf⟩ := s2 _ (List.mem_cons_self ..)
    have hv' : von so un sg (c :: l) := hv
    obtain ⟨b, v1, v2⟩ := (ac_iff hsu ho h2 h hl hi hv' ht htl).mp hf
    have hlb := Vr_len v1
    refine ⟨b.reverse, by simp at hlb ⊢; exact hlb, by rw [List.reverse_reverse]; exact v1, sg, s1, ⟨fun g hg => s2 g (List.mem_cons_of_mem _ hg), fun i hi' => ⟨(von_pts h.1.1 hc).mp hv' _ (nth_mem hi'), ?_⟩⟩, s4⟩
    rw [v2 i hi', grp_gf hlb, List.reverse_reverse]
