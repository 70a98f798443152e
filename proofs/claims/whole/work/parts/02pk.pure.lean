/-! ===== byParts, whole ===== -/
theorem cov_parts {so : Nat → Nat} {pv : Int32} {be : Nat → Option (List Nat)} {G : List Goal} {pa ta xa ya c : Nat} {l t : List Nat} {ts : List (List Nat)} (h : okt so (c :: l)) (hc : ¬ c < 512) (hl : (pts (c :: l)).length = ts.length) (hcv : cov pv be ((pa, c :: l, ta, t) :: G)) : cov pv be (psh (pts (c :: l)) ts xa ya G) := fun v hv hh => by
  rcases hcv v hv hh with g | ⟨g, hg, hvg⟩
  · exact Or.inl g
  · rcases List.mem_cons.mp hg with e | e
    · subst e
      have hvl : v ∈ l := by
        rcases List.mem_cons.mp hvg with q | q
        · omega
        · exact q
      rw [← (pts_of h.1).2.2] at hvl
      obtain ⟨p, hp, hvp⟩ := List.mem_flatten.mp hvl
      obtain ⟨g2, k1, k2⟩ := psh_new (xa := xa) (ya := ya) (Q := G) hl hp
      exact Or.inr ⟨g2, k1, by rw [k2]; exact hvp⟩
    · exact Or.inr ⟨g, psh_old e, hvg⟩
theorem byParts_free {slf : SLF} {n : Nat} {fs fu : Nat → Int32} {so : Nat → Nat} {un : Nat → Option Nat} {pv : Int32} {d : Nat} (hslf : SOK slf n fs fu so un pv d) (hn : 100000 ≤ n) (hsg : SG fs fu so un) (hsu : SU so un) {fp fgp fgt fb fw ff : Nat → Int32} {T W : Nat} {fm tm : Int32} {G : List Goal} {be : Nat → Option (List Nat)} {E : List Nat → Prop} {pa ta c : Nat} {l t : List Nat}
    (hc : ¬ c < 512) (h0 : so (c / 512 - 1) = 0) (hh : hd0 t = c) (hg : gok so un fp T (pa, c :: l, ta, t)) (hG : ∀ g ∈ G, gok so un fp T g) (hgp : la fgp 0 (G.map (fun g => g.1)).reverse) (hgt : la fgt 0 (G.map (fun g => g.2.2.1)).reverse) (hbn : bnd so un fp fb T be) (hpl : l.length + plen G < d) (hp2 : l.length + plen G ≤ 20) (hT : T + 500 * d ≤ 59000) (hW : W + 70 * d ≤ 4000) (hcv : cov pv be ((pa, c :: l, ta, t) :: G)) (he : EXS E fm ff tm) :
    PO G.length fp T fgp fgt fb fw W (fun k => E k ∨ Sol so un pv ((pa, c :: l, ta, t) :: G) be k) (fx_byParts slf n fs fu fp (nI T) fgp fgt fb fw (nI W) fm pv ff tm (nI G.length) (nI pa) (nI ta)) := by
  obtain ⟨⟨a1, a2, a3, a4, a5⟩, t1, t2, t3, t4⟩ := hg
  have a1' : la fp pa (c :: l) := a1
  have a2' : nok so un (c :: l) := a2
  have a5' : pa + (l.length + 1) ≤ T := a5
  have hcc := cok_lt (col_cons.mp a2'.1.2.1).1
  obtain ⟨q1, q2, q3⟩ := okt_op a2'.1 hc
  obtain ⟨k1, k2, k3⟩ := pts_of a2'.1.1
  have hlen2 := plen_len hG
  cases t with
  | nil => exact absurd (wf_pos t2.1.1) (by simp)
  | cons e m =>
    have ee : e = c := hh
    subst ee
    have t2' : nok so un (e :: m) := t2
    have t1' : la fp ta (e :: m) := t1
    have t4' : ta + (m.length + 1) ≤ T := t4
    have t3' : m.length + 1 ≤ 20 := t3
    have a4' : l.length + 1 ≤ 20 := a4
    obtain ⟨m1, m2, m3⟩ := pts_of t2'.1.1
    have hlen : (pts (e :: l)).length = (pts (e :: m)).length := by rw [k2, m2]
    have hcv2 := cov_parts (so := so) (xa := pa + 1) (ya := ta + 1) a2'.1 hc hlen hcv
    have hpf : (pts (e :: l)).length ≤ l.length := by have := wf_len (wf_cons a2'.1.1); omega
    have := lx_byParts_33_ok (fgp := fgp) (fgt := fgt) (fw := fw) (n0 := G.length) (p1 := nI pa) (p2 := nI ta) hslf hn hbn hT hW he (pts (e :: l)) (pts (e :: m)) (pa + 1) (ta + 1) (ar e) n G
      (by rw [k3]; exact a1'.2) (by rw [m3]; exact t1'.2) (fun p hp => ⟨nok_pts a2' p hp, c2_pts a2'.1.1 a3 p hp, by have := pts_short a2'.1.1 hp; omega⟩) (fun q hq => ⟨nok_pts t2' q hq, by have := pts_short t2'.1.1 hq; omega⟩) hlen (by rw [k3]; omega) (by rw [m3]; omega) hG hgp hgt (by rw [k2]) (Nat.le_refl _) (by rw [k3]; omega) (by rw [k3]; omega) hcv2 (by omega)
    unfold fx_byParts
    have har := ar_lt (c := e)
    rw [fx_partsAt_ok a1'.1 hcc (by omega), xb1_s, fx_operatorAt_ok a1'.1 hcc (by omega), xb1_s, opI_op q1, xr_n q3.1 (by decide), (hsg _ q3).1, h0, if_pos (show nI 0 = (0 : Int32) from rfl), xl_eq, nI_1, xl_eq, nI_1]
    rw [Nat.sub_self] at this
    exact PO_iff (fun k => or_congr Iff.rfl (sol_free hsu a2' a4 hc h0 t2' rfl)) this
/-- the goals of two parts, laid on those that are there -/
theorem la_two {f : Nat → Int32} {L : List Nat} {a b : Nat} (h : la f 0 L) : la (upd (upd f L.length (nI a)) (L.length + 1) (nI b)) 0 (L ++ [a] ++ [b]) := by
  refine la_snoc (la_upd (Or.inr (by simp)) (la_snoc (la_upd (Or.inr (by omega)) h) (by rw [Nat.zero_add]; exact upd_eq _ _ _))) ?_
  rw [Nat.zero_add, List.length_append, List.length_singleton]; exact upd_eq _ _ _
theorem byParts_comm {slf : SLF} {n : Nat} {fs fu : Nat → Int32} {so : Nat → Nat} {un : Nat → Option Nat} {pv : Int32} {d : Nat} (hslf : SOK slf n fs fu so un pv d) (hn : 100000 ≤ n) (hsg : SG fs fu so un) (hsu : SU so un) {fp fgp fgt fb fw ff : Nat → Int32} {T W : Nat} {fm tm : Int32} {G : List Goal} {be : Nat → Option (List Nat)} {E : List Nat → Prop} {pa ta c : Nat} {l t : List Nat}
    (hc : ¬ c < 512) (h0 : so (c / 512 - 1) = 1) (hh : hd0 t = c) (hg : gok so un fp T (pa, c :: l, ta, t)) (hG : ∀ g ∈ G, gok so un fp T g) (hgp : la fgp 0 (G.map (fun g => g.1)).reverse) (hgt : la fgt 0 (G.map (fun g => g.2.2.1)).reverse) (hbn : bnd so un fp fb T be) (hpl : l.length + plen G < d) (hp2 : l.length + plen G ≤ 20) (hT : T + 500 * d ≤ 59000) (hW : W + 70 * d ≤ 4000) (hcv : cov pv be ((pa, c :: l, ta, t) :: G)) (he : EXS E fm ff tm) :
    PO G.length fp T fgp fgt fb fw W (fun k => E k ∨ Sol so un pv ((pa, c :: l, ta, t) :: G) be k) (fx_byParts slf n fs fu fp (nI T) fgp fgt fb fw (nI W) fm pv ff tm (nI G.length) (nI pa) (nI ta)) := by
  obtain ⟨⟨a1, a2, a3, a4, a5⟩, t1, t2, t3, t4⟩ := hg
  have a1' : la fp pa (c :: l) := a1
  have a2' : nok so un (c :: l) := a2
  have a3' : c2 so (c :: l) := a3
  have a5' : pa + (l.length + 1) ≤ T := a5
  have a4' : l.length + 1 ≤ 20 := a4
  have hcc := cok_lt (col_cons.mp a2'.1.2.1).1
  obtain ⟨q1, q2, q3⟩ := okt_op a2'.1 hc
  obtain ⟨k1, k2, k3⟩ := pts_of a2'.1.1
  have hlen2 := plen_len hG
  have ha2 : ar c = 2 := a3' c (List.mem_cons_self ..) q1 h0
  cases t with
  | nil => exact absurd (wf_pos t2.1.1) (by simp)
  | cons e m =>
    have ee : e = c := hh
    subst ee
    have t2' : nok so un (e :: m) := t2
    have t1' : la fp ta (e :: m) := t1
    have t4' : ta + (m.length + 1) ≤ T := t4
    have t3' : m.length + 1 ≤ 20 := t3
    obtain ⟨m1, m2, m3⟩ := pts_of t2'.1.1
    obtain ⟨p1, p2, hp⟩ : ∃ p1 p2, pts (e :: l) = [p1, p2] := by
      rw [ha2] at k2
      match hq : pts (e :: l), k2 with
      | [p1, p2], _ => exact ⟨p1, p2, rfl⟩
    obtain ⟨s1, s2, hs⟩ : ∃ s1 s2, pts (e :: m) = [s1, s2] := by
      rw [ha2] at m2
      match hq : pts (e :: m), m2 with
      | [s1, s2], _ => exact ⟨s1, s2, rfl⟩
    have hlp : la fp (pa + 1) [p1, p2].flatten := by rw [← hp, k3]; exact a1'.2
    have hls : la fp (ta + 1) [s1, s2].flatten := by rw [← hs, m3]; exact t1'.2
    have k3' : p1.length + p2.length = l.length := by rw [← k3, hp]; simp
    have m3' : s1.length + s2.length = m.length := by rw [← m3, hs]; simp
    have lp1 : la fp (pa + 1) p1 := (la_app.mp (by simpa using hlp : la fp (pa + 1) (p1 ++ p2))).1
    have lp2 : la fp (pa + 1 + p1.length) p2 := (la_app.mp (by simpa using hlp : la fp (pa + 1) (p1 ++ p2))).2
    have ls1 : la fp (ta + 1) s1 := (la_app.mp (by simpa using hls : la fp (ta + 1) (s1 ++ s2))).1
    have ls2 : la fp (ta + 1 + s1.length) s2 := (la_app.mp (by simpa using hls : la fp (ta + 1) (s1 ++ s2))).2
    have np1 := nok_pts a2' p1 (by rw [hp]; simp)
    have np2 := nok_pts a2' p2 (by rw [hp]; simp)
    have ns1 := nok_pts t2' s1 (by rw [hs]; simp)
    have ns2 := nok_pts t2' s2 (by rw [hs]; simp)
    have cp1 := c2_pts a2'.1.1 a3' p1 (by rw [hp]; simp)
    have cp2 := c2_pts a2'.1.1 a3' p2 (by rw [hp]; simp)
    have gg : ∀ (fq : Nat → Int32), (∀ i : Nat, i < T → fq i = fp i) → ∀ (x y : Nat) (u w : List Nat), la fp x u → nok so un u → u.length ≤ 20 → x + u.length ≤ T → la fp y w → nok so un w → w.length ≤ 20 → y + w.length ≤ T →
        ∀ g ∈ (pa + 1 + p1.length, p2, y, w) :: (pa + 1, p1, x, u) :: G, gok so un fq T g := by
      intro fq hfq x y u w x1 x2 x3 x4 y1 y2 y3 y4 g hg'
      rcases List.mem_cons.mp hg' with g1 | g1
      · rw [g1]
        exact gok_same hfq (Nat.le_refl _) ⟨⟨lp2, np2, cp2, by show p2.length ≤ 20; omega, by show pa + 1 + p1.length + p2.length ≤ T; omega⟩, y1, y2, y3, y4⟩
      · rcases List.mem_cons.mp g1 with g2 | g2
        · rw [g2]
          exact gok_same hfq (Nat.le_refl _) ⟨⟨lp1, np1, cp1, by show p1.length ≤ 20; omega, by show pa + 1 + p1.length ≤ T; omega⟩, x1, x2, x3, x4⟩
        · exact gok_same hfq (Nat.le_refl _) (hG g g2)
    have hcov : ∀ (x y : Nat) (u w : List Nat), cov pv be ((pa + 1 + p1.length, p2, y, w) :: (pa + 1, p1, x, u) :: G) := by
      intro x y u w v hv hh'
      rcases hcv v hv hh' with g | ⟨g, hg', hvg⟩
      · exact Or.inl g
      · rcases List.mem_cons.mp hg' with q | q
        · subst q
          have hvl : v ∈ l := by
            rcases List.mem_cons.mp hvg with z | z
            · omega
            · exact z
          rw [← k3, hp] at hvl
          have hvl2 : v ∈ p1 ∨ v ∈ p2 := by simpa using hvl
          rcases hvl2 with z | z
          · exact Or.inr ⟨(pa + 1, p1, x, u), by simp, z⟩
          · exact Or.inr ⟨(pa + 1 + p1.length, p2, y, w), by simp, z⟩
        · exact Or.inr ⟨g, by simp [q], hvg⟩
    have hplen : ∀ (x y : Nat) (u w : List Nat), plen ((pa + 1 + p1.length, p2, y, w) :: (pa + 1, p1, x, u) :: G) = l.length + plen G := by
      intro x y u w
      show p2.length + (p1.length + plen G) = _
      omega
    have hr1 : (G.map (fun g => g.1)).reverse.length = G.length := by simp
    have hr2 : (G.map (fun g => g.2.2.1)).reverse.length = G.length := by simp
    have lay : ∀ (f1 f2 : Nat → Int32) (x y : Nat) (u w : List Nat), (∀ i : Nat, i < G.length → f1 i = fgp i ∧ f2 i = fgt i) →
        la (upd (upd f1 G.length (nI (pa + 1))) (G.length + 1) (nI (pa + 1 + p1.length))) 0 ((((pa + 1 + p1.length, p2, y, w) : Goal) :: (pa + 1, p1, x, u) :: G).map (fun g => g.1)).reverse ∧
        la (upd (upd f2 G.length (nI x)) (G.length + 1) (nI y)) 0 ((((pa + 1 + p1.length, p2, y, w) : Goal) :: (pa + 1, p1, x, u) :: G).map (fun g => g.2.2.1)).reverse := by
      intro f1 f2 x y u w hf
      have z1 := la_two (f := f1) (a := pa + 1) (b := pa + 1 + p1.length) (la_congr (fun i hi => by rw [Nat.zero_add]; exact (hf i (by rw [hr1] at hi; exact hi)).1) hgp)
      have z2 := la_two (f := f2) (a := x) (b := y) (la_congr (fun i hi => by rw [Nat.zero_add]; exact (hf i (by rw [hr2] at hi; exact hi)).2) hgt)
      rw [hr1] at z1; rw [hr2] at z2
      exact ⟨by simpa using z1, by simpa using z2⟩
    -- the first way
    obtain ⟨z1, z2⟩ := lay fgp fgt (ta + 1) (ta + 1 + s1.length) s1 s2 (fun _ _ => ⟨rfl, rfl⟩)
    obtain ⟨fp', fgp', fgt', fb', fw', fm', ff', tm', r1, r2, r3, r4, r5, r6⟩ := hslf fp _ _ fb fw T W fm ff tm ((pa + 1 + p1.length, p2, ta + 1 + s1.length, s2) :: (pa + 1, p1, ta + 1, s1) :: G) be E
      (gg fp (fun _ _ => rfl) _ _ _ _ ls1 ns1 (by omega) (by omega) ls2 ns2 (by omega) (by omega)) z1 z2 hbn (by rw [hplen]; exact hpl) (by rw [hplen]; exact hp2) hT hW (hcov _ _ _ _) he
    have hold : ∀ i : Nat, i < G.length → fgp' i = fgp i ∧ fgt' i = fgt i := fun i hi => by
      have := r3 i (by simp; omega)
      rw [upd_ne (by omega), upd_ne (by omega), upd_ne (by omega), upd_ne (by omega)] at this
      exact this
    -- the second
    obtain ⟨y1, y2⟩ := lay fgp' fgt' (ta + 1 + s1.length) (ta + 1) s2 s1 hold
    obtain ⟨fp2, fgp2, fgt2, fb2, fw2, fm2, ff2, tm2, u1, u2, u3, u4, u5, u6⟩ := hslf fp' _ _ fb' fw' T W fm' ff' tm' ((pa + 1 + p1.length, p2, ta + 1, s1) :: (pa + 1, p1, ta + 1 + s1.length, s2) :: G) be _
      (gg fp' r2 _ _ _ _ ls2 ns2 (by omega) (by omega) ls1 ns1 (by omega) (by omega)) y1 y2 (bnd_same r2 (Nat.le_refl _) r4 hbn) (by rw [hplen]; exact hpl) (by rw [hplen]; exact hp2) hT hW (hcov _ _ _ _) r6
    have hb1 := fx_behind_ok (n := n) lp1 np1.1.1 np1.1.2.1 (by omega) hn
    have hb2 := fx_behind_ok (n := n) ls1 ns1.1.1 ns1.1.2.1 (by omega) hn
    have hb3 := fx_behind_ok (n := n) (f := fp') (la_congr (fun i hi => r2 _ (by omega)) lp1) np1.1.1 np1.1.2.1 (by omega) hn
    have hb4 := fx_behind_ok (n := n) (f := fp') (la_congr (fun i hi => r2 _ (by omega)) ls1) ns1.1.1 ns1.1.2.1 (by omega) hn
    simp only [List.length_cons] at r1 u1
    unfold fx_byParts
    rw [fx_partsAt_ok a1'.1 hcc (by omega), xb1_s, fx_operatorAt_ok a1'.1 hcc (by omega), xb1_s, opI_op q1, xr_n q3.1 (by decide), (hsg _ q3).1, h0, if_neg (by decide), xl_eq, nI_1, xl_eq, nI_1, fx_aims_ok (by omega), xb2_s, xl_eq, nI_1, xl_eq, hb1, xb1_s, xl_eq, hb2, xb1_s, fx_aims_ok (by omega), xb2_s, xl_eq, show (2 : Int32) = nI 2 from rfl, nI_add, show G.length + 2 = G.length + 1 + 1 by omega, r1, xb10_s, xl_eq, xl_eq, hb4, xb1_s, fx_aims_ok (by omega), xb2_s, xl_eq, xl_eq, hb3, xb1_s, xl_eq, fx_aims_ok (by omega), xb2_s, xl_eq, u1, xb10_s]
    refine ⟨fp2, fgp2, fgt2, fb2, fw2, fm2, ff2, tm2, rfl, fun i hi => by rw [u2 i hi, r2 i hi], fun i hi => ?_, fun v hv => by rw [u4 v hv, r4 v hv], fun i hi => by rw [u5 i hi, r5 i hi], EXS_iff (fun k => ?_) u6⟩
    · have := u3 i (by simp; omega)
      rw [upd_ne (by omega), upd_ne (by omega), upd_ne (by omega), upd_ne (by omega)] at this
      exact ⟨this.1.trans (hold i hi).1, this.2.trans (hold i hi).2⟩
    · rw [or_assoc]
      refine or_congr Iff.rfl ?_
      unfold Sol
      rw [← exists_or]
      refine exists_congr (fun sg => ?_)
      rw [← and_or_left]
      refine and_congr Iff.rfl ?_
      rw [← or_and_right]
      refine and_congr ?_ Iff.rfl
      simp only [List.forall_mem_cons]
      have hvp : von so un sg (e :: l) ↔ von so un sg p1 ∧ von so un sg p2 := by
        rw [von_pts a2'.1.1 hc, hp]; simp
      constructor
      · rintro (⟨⟨v2, x2⟩, ⟨v1, x1⟩, hr⟩ | ⟨⟨v2, x2⟩, ⟨v1, x1⟩, hr⟩)
        · exact ⟨⟨hvp.mpr ⟨v1, v2⟩, (eq_comm2 hsu a2'.1 a4 (hvp.mpr ⟨v1, v2⟩) hc h0 hp t2').mpr ⟨rfl, s1, s2, hs, Or.inl ⟨x1, x2⟩⟩⟩, hr⟩
        · exact ⟨⟨hvp.mpr ⟨v1, v2⟩, (eq_comm2 hsu a2'.1 a4 (hvp.mpr ⟨v1, v2⟩) hc h0 hp t2').mpr ⟨rfl, s1, s2, hs, Or.inr ⟨x1, x2⟩⟩⟩, hr⟩
      · rintro ⟨⟨hv, hx⟩, hr⟩
        obtain ⟨v1, v2⟩ := hvp.mp hv
        obtain ⟨_, w1, w2, hw, hor⟩ := (eq_comm2 hsu a2'.1 a4 hv hc h0 hp t2').mp hx
        rw [hs] at hw
        simp only [List.cons.injEq, and_true] at hw
        obtain ⟨e1, e2⟩ := hw
        subst e1 e2
        rcases hor with ⟨x1, x2⟩ | ⟨x1, x2⟩
        · exact Or.inl ⟨⟨v2, x2⟩, ⟨v1, x1⟩, hr⟩
        · exact Or.inr ⟨⟨v2, x2⟩, ⟨v1, x1⟩, hr⟩
