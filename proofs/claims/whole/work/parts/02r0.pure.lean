/-! ===== codes that a signature allows ===== -/
/-- a variable that is told, or an operator with as many parts as it may have -/
def cS (so ma : Nat → Nat) (nv c : Nat) : Prop := c < nv ∨ (512 ≤ c ∧ c / 512 - 1 < 10 ∧ so (c / 512 - 1) ≠ 3 ∧ (so (c / 512 - 1) ≠ 2 → ar c = ma (c / 512 - 1)))
def sS (so ma : Nat → Nat) (nv : Nat) (l : List Nat) : Prop := ∀ c ∈ l, cS so ma nv c
/-- signatures -/
def SV (so : Nat → Nat) (un : Nat → Option Nat) (ma : Nat → Nat) (nv : Nat) : Prop := nv ≤ 5 ∧ (∀ o : Nat, so o = 1 → ma o = 2) ∧ (∀ o : Nat, so o = 0 → ma o ≤ 3) ∧ ∀ o u : Nat, un o = some u → so o = 2 ∧ u < 10 ∧ so u = 0 ∧ ma u = 0
theorem SV_SU {so ma : Nat → Nat} {un : Nat → Option Nat} {nv : Nat} (h : SV so un ma nv) : SU so un := fun o u _ hu => ⟨(h.2.2.2 o u hu).2.1, (h.2.2.2 o u hu).2.2.1⟩
theorem sS_c2 {so ma : Nat → Nat} {un : Nat → Option Nat} {nv : Nat} {l : List Nat} (h : SV so un ma nv) (hl : sS so ma nv l) : c2 so l := fun c hc h5 h1 => by
  have := h.1
  rcases hl c hc with q | ⟨q1, q2, q3, q4⟩
  · omega
  · rw [q4 (by omega), h.2.1 _ h1]
theorem cS_unit {so ma : Nat → Nat} {un : Nat → Option Nat} {nv o u : Nat} (h : SV so un ma nv) (hu : un o = some u) : cS so ma nv (cdo u 0) := by
  obtain ⟨h1, h2, h3, h4⟩ := h.2.2.2 o u hu
  have e : cdo u 0 / 512 - 1 = u := by unfold cdo; omega
  refine Or.inr ⟨by unfold cdo; omega, by rw [e]; exact h2, by rw [e, h3]; decide, fun _ => ?_⟩
  rw [e, h4]; exact ar_code (by decide)
theorem flat1_codes {so : Nat → Nat} {un : Nat → Option Nat} {op c : Nat} {t q : List Nat} (hw : wf 1 t) (hq : q ∈ flat1 so un op t) (hc : c ∈ q) : c ∈ t := by
  unfold flat1 at hq
  split at hq
  · split at hq
    · cases t with
      | nil => exact absurd (wf_pos hw) (by simp)
      | cons a l => exact mem_pts hw hq hc
    · split at hq
      · exact absurd hq List.not_mem_nil
      · rw [List.mem_singleton.mp hq] at hc; exact hc
  · rw [List.mem_singleton.mp hq] at hc; exact hc
theorem flats_mem {so : Nat → Nat} {un : Nat → Option Nat} {op : Nat} {q : List Nat} : ∀ {ts : List (List Nat)}, q ∈ flats so un op ts ↔ ∃ t ∈ ts, q ∈ flat1 so un op t
  | [] => by simp [flats]
  | t :: ts => by
    show q ∈ flat1 so un op t ++ flats so un op ts ↔ _
    rw [List.mem_append, flats_mem (ts := ts)]
    constructor
    · rintro (h | ⟨t', h1, h2⟩)
      · exact ⟨t, List.mem_cons_self .., h⟩
      · exact ⟨t', List.mem_cons_of_mem _ h1, h2⟩
    · rintro ⟨t', h1, h2⟩
      rcases List.mem_cons.mp h1 with e | e
      · rw [e] at h2; exact Or.inl h2
      · exact Or.inr ⟨t', e, h2⟩
theorem mkt_codes {so : Nat → Nat} {un : Nat → Option Nat} {op c : Nat} {ys : List (List Nat)} (h : c ∈ mkt so un op ys) : (∃ q ∈ ys, c ∈ q) ∨ c = cdo op ys.length ∨ (so op = 2 ∧ ∃ u : Nat, un op = some u ∧ c = cdo u 0) := by
  have many : c ∈ cdo op ys.length :: ys.flatten → (∃ q ∈ ys, c ∈ q) ∨ c = cdo op ys.length ∨ (so op = 2 ∧ ∃ u : Nat, un op = some u ∧ c = cdo u 0) := fun h => by
    rcases List.mem_cons.mp h with e | e
    · exact Or.inr (Or.inl e)
    · obtain ⟨q, h1, h2⟩ := List.mem_flatten.mp e
      exact Or.inl ⟨q, h1, h2⟩
  by_cases q2 : so op = 2
  · match ys, h, many with
    | [], h, _ =>
      cases hu : un op with
      | none => unfold mkt at h; rw [if_pos q2, hu] at h; exact absurd h List.not_mem_nil
      | some u => rw [mkt_nil q2 hu] at h; exact Or.inr (Or.inr ⟨q2, u, rfl, List.mem_singleton.mp h⟩)
    | [y], h, _ => rw [mkt_one q2] at h; exact Or.inl ⟨y, List.mem_singleton.mpr rfl, h⟩
    | a :: b :: r, h, many => rw [mkt_many (fun _ => by simp)] at h; exact many h
  · rw [mkt_many (fun e => absurd e q2)] at h; exact many h
theorem codes_mkt {so : Nat → Nat} {un : Nat → Option Nat} {op c : Nat} {ys : List (List Nat)} {q : List Nat} (hq : q ∈ ys) (hc : c ∈ q) : c ∈ mkt so un op ys := by
  have many : c ∈ cdo op ys.length :: ys.flatten := List.mem_cons_of_mem _ (List.mem_flatten.mpr ⟨q, hq, hc⟩)
  by_cases q2 : so op = 2
  · match ys, hq, many with
    | [y], hq, _ => rw [mkt_one q2, ← List.mem_singleton.mp hq]; exact hc
    | a :: b :: r, _, many => rw [mkt_many (fun _ => by simp)]; exact many
  · rw [mkt_many (fun e => absurd e q2)]; exact many
/-- the parts that an operator stands over -/
def stys (so : Nat → Nat) (un : Nat → Option Nat) (op : Nat) (ts : List (List Nat)) : List (List Nat) := if so op = 0 then flats so un op ts else srt (flats so un op ts)
theorem stand_stys {so : Nat → Nat} {un : Nat → Option Nat} {op : Nat} {ts : List (List Nat)} : stand so un op ts = mkt so un op (stys so un op ts) := rfl
theorem stys_perm {so : Nat → Nat} {un : Nat → Option Nat} {op : Nat} {ts : List (List Nat)} : (stys so un op ts).Perm (flats so un op ts) := by
  unfold stys
  split
  · exact List.Perm.refl _
  · exact srt_perm _
theorem flats_n2 {so : Nat → Nat} {un : Nat → Option Nat} {op : Nat} (h : so op ≠ 2) : ∀ {ts : List (List Nat)}, flats so un op ts = ts
  | [] => rfl
  | t :: ts => by
    show flat1 so un op t ++ flats so un op ts = _
    rw [flats_n2 h]
    unfold flat1
    rw [if_neg h]; rfl
theorem stand_S {so ma : Nat → Nat} {un : Nat → Option Nat} {nv op : Nat} {ts : List (List Nat)} (hsv : SV so un ma nv) (ho : op < 10 ∧ so op ≠ 3) (hw : wfs ts) (h : ∀ t ∈ ts, sS so ma nv t) (hn : so op ≠ 2 → ts.length = ma op) (hN : ts.flatten.length < 512) : sS so ma nv (stand so un op ts) := fun c hc => by
  rw [stand_stys] at hc
  rcases mkt_codes hc with ⟨q, h1, h2⟩ | h1 | ⟨h1, u, h2, h3⟩
  · obtain ⟨t, t1, t2⟩ := flats_mem.mp (stys_perm.mem_iff.mp h1)
    exact h t t1 c (flat1_codes (hw t t1) t2 h2)
  · have hl : (stys so un op ts).length < 512 := by
      rw [stys_perm.length_eq]
      have := (flats_len (so := so) (un := un) (op := op) hw).1
      omega
    have e : c / 512 - 1 = op := by rw [h1]; unfold cdo; omega
    refine Or.inr ⟨by rw [h1]; unfold cdo; omega, by rw [e]; exact ho.1, by rw [e]; exact ho.2, fun h2 => ?_⟩
    rw [e] at h2 ⊢
    rw [h1, ar_code hl, stys_perm.length_eq, flats_n2 h2]
    exact hn h2
  · rw [h3]; exact cS_unit hsv h2
theorem S_of_stand {so ma : Nat → Nat} {un : Nat → Option Nat} {nv op : Nat} {ts : List (List Nat)} (hsv : SV so un ma nv) (ho : op < 10 ∧ so op ≠ 3) (hw : wfs ts) (h : sS so ma nv (stand so un op ts)) : ∀ t ∈ ts, sS so ma nv t := fun t ht c hc => by
  have up : ∀ q ∈ flat1 so un op t, ∀ d ∈ q, cS so ma nv d := fun q hq d hd => by
    refine h d ?_
    rw [stand_stys]
    exact codes_mkt (stys_perm.mem_iff.mpr (flats_mem.mpr ⟨t, ht, hq⟩)) hd
  by_cases q2 : so op = 2
  · by_cases q3 : isop op t = true
    · have e : flat1 so un op t = pts t := by unfold flat1; rw [if_pos q2, if_pos q3]
      rw [e] at up
      cases t with
      | nil => exact absurd hc List.not_mem_nil
      | cons a l =>
        obtain ⟨k1, k2, k3⟩ := pts_of (hw _ ht)
        rcases List.mem_cons.mp hc with g | g
        · obtain ⟨i1, i2⟩ := isop_head q3
          rw [g]
          exact Or.inr ⟨i1, by rw [i2]; exact ho.1, by rw [i2]; exact ho.2, fun h9 => absurd (by rw [i2]; exact q2) h9⟩
        · rw [← k3] at g
          obtain ⟨q, g1, g2⟩ := List.mem_flatten.mp g
          exact up q g1 c g2
    · by_cases q4 : isun un op t = true
      · obtain ⟨u, u1, u2⟩ := isun_row (so := so) (hw t ht) q4
        rw [u2] at hc
        rw [List.mem_singleton.mp hc]; exact cS_unit hsv u1
      · have e : flat1 so un op t = [t] := by unfold flat1; rw [if_pos q2, if_neg q3, if_neg q4]
        rw [e] at up
        exact up t (List.mem_singleton.mpr rfl) c hc
  · have e : flat1 so un op t = [t] := by unfold flat1; rw [if_neg q2]
    rw [e] at up
    exact up t (List.mem_singleton.mpr rfl) c hc
theorem map_okts {so : Nat → Nat} {un : Nat → Option Nat} {sg : Nat → List Nat} {d c : Nat} {l : List Nat} (hsu : SU so un) (h : okt so (c :: l)) (hd : l.length ≤ d) (h21 : l.length ≤ 20) (hv : vok so sg 20 (c :: l)) : okts so ((pts (c :: l)).map (filT so un sg d)) ∧ ((pts (c :: l)).map (filT so un sg d)).flatten.length < 512 := by
  have ih : ∀ t ∈ pts (c :: l), okt so (filT so un sg d t) ∧ (filT so un sg d t).length ≤ 21 * t.length := fun t ht => by
    have hs := pts_short h.1 ht
    exact filT_ok hsu d t (okt_pts h t ht) (by omega) (by omega) (fun e he => hv e (mem_pts h.1 ht he))
  have hfl := map_flat_len (g := filT so un sg d) (K := 21) (ts := pts (c :: l)) (fun t ht => (ih t ht).2)
  rw [(pts_of h.1).2.2] at hfl
  refine ⟨fun t ht => ?_, by omega⟩
  obtain ⟨u, hu, rfl⟩ := List.mem_map.mp ht
  exact (ih u hu).1
theorem filT_S {so ma : Nat → Nat} {un : Nat → Option Nat} {nv : Nat} {sg : Nat → List Nat} (hsv : SV so un ma nv) : ∀ (d : Nat) (t : List Nat), okt so t → t.length ≤ d → t.length ≤ 21 → vok so sg 20 t → sS so ma nv t → (∀ c ∈ t, c < 512 → sS so ma nv (sg c)) → sS so ma nv (filT so un sg d t)
  | 0, t, h, hd, _, _, _, _ => absurd (wf_pos h.1) (by omega)
  | d + 1, [], h, _, _, _, _, _ => absurd (wf_pos h.1) (by simp)
  | d + 1, c :: l, h, hd, h21, hv, hs, hg => by
    simp only [List.length_cons] at hd h21
    rw [filT_s]
    by_cases q : c < 512
    · rw [if_pos q]; exact hg c (List.mem_cons_self ..) q
    · rw [if_neg q]
      obtain ⟨q1, q2, q3⟩ := okt_op h q
      by_cases q4 : ar c = 0
      · rw [if_pos q4]
        intro e he
        rw [List.mem_singleton.mp he]; exact hs c (List.mem_cons_self ..)
      · rw [if_neg q4]
        obtain ⟨m1, m2⟩ := map_okts (un := un) (sg := sg) (d := d) (SV_SU hsv) h (by omega) (by omega) hv
        refine stand_S hsv q3 (okts_wfs m1) (fun t ht => ?_) (fun h2 => ?_) m2
        · obtain ⟨u, hu, rfl⟩ := List.mem_map.mp ht
          have hsh := pts_short h.1 hu
          exact filT_S hsv d u (okt_pts h u hu) (by omega) (by omega) (fun e he => hv e (mem_pts h.1 hu he)) (fun e he => hs e (mem_pts h.1 hu he)) (fun e he => hg e (mem_pts h.1 hu he))
        · rw [List.length_map, (pts_of h.1).2.1]
          rcases hs c (List.mem_cons_self ..) with g | ⟨_, _, _, g⟩
          · have := hsv.1; omega
          · exact g h2
theorem filT_S_inv {so ma : Nat → Nat} {un : Nat → Option Nat} {nv : Nat} {sg : Nat → List Nat} (hsv : SV so un ma nv) : ∀ (d : Nat) (t : List Nat), okt so t → t.length ≤ d → t.length ≤ 21 → vok so sg 20 t → sS so ma nv (filT so un sg d t) → ∀ c ∈ t, c < 512 → sS so ma nv (sg c)
  | 0, t, h, hd, _, _, _ => absurd (wf_pos h.1) (by omega)
  | d + 1, [], h, _, _, _, _ => absurd (wf_pos h.1) (by simp)
  | d + 1, a :: l, h, hd, h21, hv, hs => by
    simp only [List.length_cons] at hd h21
    intro c hc hc5
    rw [filT_s] at hs
    by_cases q : a < 512
    · rw [if_pos q] at hs
      have h0 : ar a = 0 := by unfold ar; rw [if_pos q]
      have hl := leaf_row h h0
      rw [hl] at hc
      rw [List.mem_singleton.mp hc]; exact hs
    · rw [if_neg q] at hs
      obtain ⟨q1, q2, q3⟩ := okt_op h q
      have hcl : c ∈ l := by
        rcases List.mem_cons.mp hc with e | e
        · omega
        · exact e
      by_cases q4 : ar a = 0
      · rw [leaf_row h q4] at hcl; exact absurd hcl List.not_mem_nil
      · rw [if_neg q4] at hs
        obtain ⟨m1, m2⟩ := map_okts (un := un) (sg := sg) (d := d) (SV_SU hsv) h (by omega) (by omega) hv
        rw [← (pts_of h.1).2.2] at hcl
        obtain ⟨u, hu, hcu⟩ := List.mem_flatten.mp hcl
        have hsh := pts_short h.1 hu
        exact filT_S_inv hsv d u (okt_pts h u hu) (by omega) (by omega) (fun e he => hv e (mem_pts h.1 hu he)) (S_of_stand hsv q3 (okts_wfs m1) hs _ (List.mem_map.mpr ⟨u, hu, rfl⟩)) c hcu hc5
theorem rebT_S {so ma : Nat → Nat} {un : Nat → Option Nat} {nv p : Nat} {b : List Nat} (hsv : SV so un ma nv) (hb1 : nok so un b) (hb2 : b.length ≤ 470) (hbs : sS so ma nv b) : ∀ (d a : Nat) (t : List Nat), nok so un t → t.length ≤ d → t.length ≤ 20 → sS so ma nv t → sS so ma nv (rebT so un p b d (a, t))
  | 0, a, t, h, hd, _, _ => absurd (wf_pos h.1.1) (by omega)
  | d + 1, a, [], h, _, _, _ => absurd (wf_pos h.1.1) (by simp)
  | d + 1, a, c :: l, h, hd, h20, hs => by
    simp only [List.length_cons] at hd h20
    rw [rebT_s]
    by_cases q : a = p
    · rw [if_pos q]; exact hbs
    · rw [if_neg q]
      by_cases q4 : ar c = 0
      · rw [if_pos q4]; exact hs
      · rw [if_neg q4]
        obtain ⟨k1, k2, k3⟩ := pts_of h.1.1
        have hc5 : ¬ c < 512 := fun hc => q4 (by unfold ar; rw [if_pos hc])
        obtain ⟨q1, q2, q3⟩ := okt_op h.1 hc5
        obtain ⟨r1, r2⟩ := reb_parts (p := p) (b := b) (fun a' q' hq hl hl2 => rebT_nok (SV_SU hsv) hb1 hb2 d a' q' hq hl hl2) (pts (c :: l)) (a + 1) (nok_pts h) (fun t ht => by have := pts_short h.1.1 ht; omega)
        have r3 := rpot_le (p := p) (bl := b.length) (qs := pts (c :: l)) (a := a + 1)
        rw [k3] at r3
        have r4 : inr p (a + 1) l.length b.length ≤ b.length := by unfold inr; split <;> omega
        refine stand_S hsv q3 (okts_wfs (noks_okts r1)) (fun t ht => ?_) (fun h2 => ?_) (by omega)
        · obtain ⟨x, hx, rfl⟩ := List.mem_map.mp ht
          have hx2 : x.2 ∈ pts (c :: l) := by
            have := List.mem_map_of_mem (f := Prod.snd) hx
            rw [prs_snd] at this; exact this
          have hsh := pts_short h.1.1 hx2
          exact rebT_S hsv hb1 hb2 hbs d x.1 x.2 (nok_pts h x.2 hx2) (by omega) (by omega) (fun e he => hs e (mem_pts h.1.1 hx2 he))
        · rw [List.length_map, prs_len, k2]
          rcases hs c (List.mem_cons_self ..) with g | ⟨_, _, _, g⟩
          · have := hsv.1; omega
          · exact g h2
