/-! ===== what is too great makes too great ===== -/
theorem great_any {so : Nat → Nat} {t : List Nat} {c : Nat} (hc : c ∈ t) (h : big1 so c = true) : great so t = true := by
  unfold great
  rw [Bool.or_eq_true]
  exact Or.inr (List.any_eq_true.mpr ⟨c, hc, h⟩)
theorem great_long {so : Nat → Nat} {t : List Nat} (h : 20 < t.length) : great so t = true := by
  unfold great
  rw [Bool.or_eq_true]
  exact Or.inl (by simpa using h)
theorem mem_len {q : List Nat} {ys : List (List Nat)} (h : q ∈ ys) : q.length ≤ ys.flatten.length := (List.sublist_flatten_of_mem h).length_le
theorem mkt_ge {so : Nat → Nat} {un : Nat → Option Nat} {op : Nat} {ys : List (List Nat)} {q : List Nat} (hq : q ∈ ys) : q.length ≤ (mkt so un op ys).length := by
  have hl := mem_len hq
  by_cases q2 : so op = 2
  · match ys, hq, hl with
    | [y], hq, _ => rw [mkt_one q2, ← List.mem_singleton.mp hq]; exact Nat.le_refl _
    | a :: b :: r, _, hl => rw [mkt_many (fun _ => by simp)]; simp only [List.length_cons]; omega
  · rw [mkt_many (fun e => absurd e q2)]; simp only [List.length_cons]; omega
theorem great_stand {so : Nat → Nat} {un : Nat → Option Nat} {op : Nat} {ts : List (List Nat)} {t : List Nat} (hsu : SU so un) (ho : op < 10 ∧ so op ≠ 3) (h : okts so ts) (ht : t ∈ ts) (hN : ts.flatten.length < 512) (hg : great so t = true) : great so (stand so un op ts) = true := by
  have hw := okts_wfs h
  have hy : ∀ q ∈ flat1 so un op t, q ∈ stys so un op ts := fun q hq => stys_perm.mem_iff.mpr (flats_mem.mpr ⟨t, ht, hq⟩)
  have hlen : (stys so un op ts).length < 512 := by
    rw [stys_perm.length_eq]
    have := (flats_len (so := so) (un := un) (op := op) hw).1
    omega
  rw [stand_stys]
  -- a row that stays as it is
  have plainc : flat1 so un op t = [t] → great so (mkt so un op (stys so un op ts)) = true := fun e => by
    have hm := hy t (by rw [e]; exact List.mem_singleton.mpr rfl)
    unfold great at hg
    rcases Bool.or_eq_true_iff.mp hg with g | g
    · have g' : 20 < t.length := by simpa using g
      exact great_long (Nat.lt_of_lt_of_le g' (mkt_ge hm))
    · obtain ⟨c, c1, c2⟩ := List.any_eq_true.mp g
      exact great_any (codes_mkt hm c1) c2
  by_cases q2 : so op = 2
  · by_cases q3 : isop op t = true
    · have e : flat1 so un op t = pts t := by unfold flat1; rw [if_pos q2, if_pos q3]
      rw [e] at hy
      cases t with
      | nil => exact absurd (wf_pos (hw _ ht)) (by simp)
      | cons a l =>
        obtain ⟨k1, k2, k3⟩ := pts_of (hw _ ht)
        obtain ⟨i1, i2⟩ := isop_head q3
        have har : 2 ≤ ar a := ((h _ ht).2.2 a (List.mem_cons_self ..) i1).2 (by rw [i2]; exact q2)
        have hsub : (pts (a :: l)).length ≤ (stys so un op ts).length ∧ (pts (a :: l)).flatten.length ≤ (stys so un op ts).flatten.length := by
          have hf : ∀ {us : List (List Nat)}, (a :: l) ∈ us → (pts (a :: l)).length ≤ (flats so un op us).length ∧ (pts (a :: l)).flatten.length ≤ (flats so un op us).flatten.length := by
            intro us
            induction us with
            | nil => intro h9; exact absurd h9 List.not_mem_nil
            | cons x us ih =>
              intro h9
              show _ ≤ (flat1 so un op x ++ flats so un op us).length ∧ _ ≤ (flat1 so un op x ++ flats so un op us).flatten.length
              rw [List.length_append, List.flatten_append, List.length_append]
              rcases List.mem_cons.mp h9 with g | g
              · rw [← g, e]; omega
              · have := ih g; omega
          have := hf ht
          rw [stys_perm.length_eq, (stys_perm.flatten (l₂ := flats so un op ts)).length_eq]
          exact this
        rw [k2, k3] at hsub
        have em : mkt so un op (stys so un op ts) = cdo op (stys so un op ts).length :: (stys so un op ts).flatten := mkt_many (fun _ => by omega)
        unfold great at hg
        rcases Bool.or_eq_true_iff.mp hg with g | g
        · have g' : 20 < (a :: l).length := by simpa using g
          refine great_long ?_
          rw [em]; simp only [List.length_cons] at g' ⊢; omega
        · obtain ⟨c, c1, c2⟩ := List.any_eq_true.mp g
          rcases List.mem_cons.mp c1 with z | z
          · refine great_any (c := cdo op (stys so un op ts).length) (by rw [em]; exact List.mem_cons_self ..) ?_
            rw [z] at c2
            unfold big1 at c2 ⊢
            simp only [Bool.and_eq_true, decide_eq_true_eq] at c2 ⊢
            have e9 : cdo op (stys so un op ts).length / 512 - 1 = op := by unfold cdo; omega
            rw [e9, ar_code hlen]
            exact ⟨⟨by unfold cdo; omega, q2⟩, by omega⟩
          · rw [← k3] at z
            obtain ⟨q, z1, z2⟩ := List.mem_flatten.mp z
            exact great_any (codes_mkt (hy q z1) z2) c2
    · by_cases q4 : isun un op t = true
      · obtain ⟨u, u1, u2⟩ := isun_row (so := so) (hw t ht) q4
        exfalso
        unfold great at hg
        rw [u2] at hg
        obtain ⟨s1, s2⟩ := hsu op u ho u1
        have e9 : cdo u 0 / 512 - 1 = u := by unfold cdo; omega
        simp only [List.length_cons, List.length_nil, List.any_cons, List.any_nil, Bool.or_false, big1, e9, s2] at hg
        exact absurd hg (by simp)
      · exact plainc (by unfold flat1; rw [if_pos q2, if_neg q3, if_neg q4])
  · exact plainc (by unfold flat1; rw [if_neg q2])
theorem great_fil {so : Nat → Nat} {un : Nat → Option Nat} {sg : Nat → List Nat} (hsu : SU so un) : ∀ (d : Nat) (t : List Nat), okt so t → t.length ≤ d → t.length ≤ 21 → vok so sg 20 t → ∀ c ∈ t, c < 512 → great so (sg c) = true → great so (filT so un sg d t) = true
  | 0, t, h, hd, _, _ => absurd (wf_pos h.1) (by omega)
  | d + 1, [], h, _, _, _ => absurd (wf_pos h.1) (by simp)
  | d + 1, a :: l, h, hd, h21, hv => by
    simp only [List.length_cons] at hd h21
    intro c hc hc5 hg
    rw [filT_s]
    by_cases q : a < 512
    · rw [if_pos q]
      have h0 : ar a = 0 := by unfold ar; rw [if_pos q]
      rw [leaf_row h h0] at hc
      rw [← List.mem_singleton.mp hc]; exact hg
    · rw [if_neg q]
      obtain ⟨q1, q2, q3⟩ := okt_op h q
      have hcl : c ∈ l := by
        rcases List.mem_cons.mp hc with e | e
        · omega
        · exact e
      by_cases q4 : ar a = 0
      · rw [leaf_row h q4] at hcl; exact absurd hcl List.not_mem_nil
      · rw [if_neg q4]
        obtain ⟨m1, m2⟩ := map_okts (un := un) (sg := sg) (d := d) hsu h (by omega) (by omega) hv
        rw [← (pts_of h.1).2.2] at hcl
        obtain ⟨u, hu, hcu⟩ := List.mem_flatten.mp hcl
        have hsh := pts_short h.1 hu
        exact great_stand hsu q3 m1 (List.mem_map.mpr ⟨u, hu, rfl⟩) m2 (great_fil hsu d u (okt_pts h u hu) (by omega) (by omega) (fun e he => hv e (mem_pts h.1 hu he)) c hcu hc5 hg)
/-- a term that may be told -/
def tok (so : Nat → Nat) (un : Nat → Option Nat) (ma : Nat → Nat) (nv : Nat) (t : List Nat) : Prop := nok so un t ∧ great so t = false ∧ sS so ma nv t
theorem tok_len {so : Nat → Nat} {un : Nat → Option Nat} {ma : Nat → Nat} {nv : Nat} {t : List Nat} (h : tok so un ma nv t) : t.length ≤ 20 := great_len h.2.1
/-- what a variable has in a match is a term that may be told -/
theorem match_tok {so : Nat → Nat} {un : Nat → Option Nat} {ma : Nat → Nat} {nv : Nat} {sg : Nat → List Nat} {p t : List Nat} (hsv : SV so un ma nv) (hp : nok so un p) (hpl : p.length ≤ 20) (hv : von so un sg p) (ht : tok so un ma nv t) (e : fil so un sg p = t) : ∀ c ∈ p, c < 512 → tok so un ma nv (sg c) := fun c hc h5 => by
  refine ⟨(hv c hc h5).1, ?_, filT_S_inv hsv 21 p hp.1 (by omega) (by omega) (von_vok hv) (by have e' : filT so un sg 21 p = t := e; rw [e']; exact ht.2.2) c hc h5⟩
  cases q : great so (sg c) with
  | false => rfl
  | true =>
    have := great_fil (SV_SU hsv) 21 p hp.1 (by omega) (by omega) (von_vok hv) c hc h5 q
    have e' : filT so un sg 21 p = t := e
    rw [e', ht.2.1] at this
    exact absurd this (by decide)
theorem sbt_S {so ma : Nat → Nat} {un : Nat → Option Nat} {nv pl : Nat} {w : List Nat} (h : nok so un w) (hl : pl < w.length) (hs : sS so ma nv w) : sS so ma nv (sbt w pl) := fun c hc => hs c ((sbt_nok h hl).2.2.1 c hc)
theorem sbt_great {so : Nat → Nat} {un : Nat → Option Nat} {pl : Nat} {w : List Nat} (h : nok so un w) (hl : pl < w.length) (hg : great so w = false) : great so (sbt w pl) = false := by
  cases q : great so (sbt w pl) with
  | false => rfl
  | true =>
    obtain ⟨h1, h2, h3, _⟩ := sbt_nok h hl
    have hw := great_len hg
    unfold great at q
    rcases Bool.or_eq_true_iff.mp q with g | g
    · have g' : 20 < (sbt w pl).length := by simpa using g
      omega
    · obtain ⟨c, c1, c2⟩ := List.any_eq_true.mp g
      rw [great_any (h3 c c1) c2] at hg
      exact absurd hg (by decide)
theorem sbt_tok {so : Nat → Nat} {un : Nat → Option Nat} {ma : Nat → Nat} {nv pl : Nat} {w : List Nat} (h : tok so un ma nv w) (hl : pl < w.length) : tok so un ma nv (sbt w pl) := ⟨(sbt_nok h.1 hl).1, sbt_great h.1 hl h.2.1, sbt_S h.1 hl h.2.2⟩
/-- steps are terms that may be told -/
theorem stG_tok {so : Nat → Nat} {un : Nat → Option Nat} {ma : Nat → Nat} {nv pl : Nat} {l r w x : List Nat} (hsv : SV so un ma nv) (hw : tok so un ma nv w) (hpl : pl < w.length) (hr : rok so un (l, r)) (hrs : sS so ma nv r) (h : stG so un l r w pl x) : tok so un ma nv x := by
  have hsu := SV_SU hsv
  have hwl := tok_len hw
  obtain ⟨n1, n2⟩ := stG_nok hsu hw.1 hwl hpl hr h
  refine ⟨n1, n2, ?_⟩
  obtain ⟨rk1, rk2, rk3, rk4, rk5, rk6, rk7⟩ := hr
  have rk1 : nok so un l := rk1
  have rk2 : l.length ≤ 20 := rk2
  have rk5 : nok so un r := rk5
  have rk6 : r.length ≤ 20 := rk6
  have rk7 : vsub l r := rk7
  obtain ⟨ns1, ns2, ns3, ns4⟩ := sbt_nok hw.1 hpl
  have hst := sbt_tok hw hpl
  rcases h.2 with ⟨sg, a, b, c⟩ | ⟨bits, hb', sg, a, b, c⟩
  · obtain ⟨e1, e2⟩ := fil_nok2 (un := un) hsu rk5.1 rk6 (von_sub rk7 a)
    have hg := filT_S_inv hsv 21 l rk1.1 (by omega) (by omega) (von_vok a) (by have e' : filT so un sg 21 l = sbt w pl := b; rw [e']; exact hst.2.2)
    have hf : sS so ma nv (fil so un sg r) := filT_S hsv 21 r rk5.1 (by omega) (by omega) (von_vok (von_sub rk7 a)) hrs (fun e he q => hg e (rk7 e he q) q)
    rw [c]; exact rebT_S hsv e1 (by omega) hf 21 0 w hw.1 (by omega) hwl hw.2.2
  · obtain ⟨e1, e2⟩ := fil_nok2 (un := un) hsu rk5.1 rk6 (von_sub rk7 a)
    have ho : opn l < 10 ∧ so (opn l) ≠ 3 := by
      cases l with
      | nil => exact absurd (wf_pos rk1.1.1) (by simp)
      | cons c1 l1 => exact (okt_op rk1.1 (show ¬ c1 < 512 from Nat.not_lt.mpr rk4)).2.2
    have hpk : (pts (sbt w pl)).flatten.length + 1 ≤ (sbt w pl).length := by
      cases e : sbt w pl with
      | nil => rw [e] at ns1; exact absurd (wf_pos ns1.1.1) (by simp)
      | cons c l => rw [e] at ns1; rw [(pts_of ns1.1.1).2.2]; simp
    have hpS : ∀ t ∈ pts (sbt w pl), sS so ma nv t := fun t ht e he => by
      cases e9 : sbt w pl with
      | nil => rw [e9] at ns1; exact absurd (wf_pos ns1.1.1) (by simp)
      | cons c0 l0 =>
        rw [e9] at ht ns1
        have := hst.2.2
        rw [e9] at this
        exact this e (mem_pts ns1.1.1 ht he)
    have hsl1 := sel_len (s := bits) (o := true) (k := 0) (qs := pts (sbt w pl))
    have hsl2 := sel_len (s := bits) (o := false) (k := 0) (qs := pts (sbt w pl))
    have hA : sS so ma nv (stand so un (opn l) (sel bits false 0 (pts (sbt w pl)))) := stand_S hsv ho (okts_wfs (noks_okts (sel_noks (nok_pts ns1)))) (fun t ht => hpS t (sel_mem ht)) (fun h2 => absurd hb'.1 h2) (by omega)
    have hg := filT_S_inv hsv 21 l rk1.1 (by omega) (by omega) (von_vok a) (by have e' : filT so un sg 21 l = _ := b; rw [e']; exact hA)
    have hf : sS so ma nv (fil so un sg r) := filT_S hsv 21 r rk5.1 (by omega) (by omega) (von_vok (von_sub rk7 a)) hrs (fun e he q => hg e (rk7 e he q) q)
    have hns : noks so un (fil so un sg r :: sel bits true 0 (pts (sbt w pl))) := fun t ht => by
      rcases List.mem_cons.mp ht with e | e
      · rw [e]; exact e1
      · exact sel_noks (nok_pts ns1) t e
    have hfl : (fil so un sg r :: sel bits true 0 (pts (sbt w pl))).flatten.length ≤ 439 := by
      rw [List.flatten_cons, List.length_append]; omega
    obtain ⟨f1, f2⟩ := stand_nok (op := opn l) hsu ho hns (fun e => by simp at e) (by omega)
    have hB : sS so ma nv (stand so un (opn l) (fil so un sg r :: sel bits true 0 (pts (sbt w pl)))) := stand_S hsv ho (okts_wfs (noks_okts hns)) (fun t ht => by
      rcases List.mem_cons.mp ht with e | e
      · rw [e]; exact hf
      · exact hpS t (sel_mem e)) (fun h2 => absurd hb'.1 h2) (by omega)
    rw [c]; exact rebT_S hsv f1 (by omega) hB 21 0 w hw.1 (by omega) hwl hw.2.2
