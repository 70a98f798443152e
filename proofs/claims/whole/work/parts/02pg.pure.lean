/-! ===== when a filled pattern is a term, by its operator ===== -/
theorem fil_var {so : Nat → Nat} {un : Nat → Option Nat} {sg : Nat → List Nat} {c : Nat} {l : List Nat} (h : c < 512) : fil so un sg (c :: l) = sg c := by
  have e2 : fil so un sg (c :: l) = filT so un sg (20 + 1) (c :: l) := rfl
  rw [e2, filT_s, if_pos h]
theorem fil_const {so : Nat → Nat} {un : Nat → Option Nat} {sg : Nat → List Nat} {c : Nat} {l : List Nat} (h : ¬ c < 512) (ha : ar c = 0) : fil so un sg (c :: l) = [c] := by
  have e2 : fil so un sg (c :: l) = filT so un sg (20 + 1) (c :: l) := rfl
  rw [e2, filT_s, if_neg h, if_pos ha]
theorem leaf_row {so : Nat → Nat} {c : Nat} {l : List Nat} (h : okt so (c :: l)) (ha : ar c = 0) : l = [] := by
  have hw := wf_cons h.1
  rw [ha] at hw
  cases l with
  | nil => rfl
  | cons d l => exact absurd hw.1 (Nat.lt_irrefl 0)
theorem map_ne {so : Nat → Nat} {c : Nat} {l : List Nat} {g : List Nat → List Nat} (h : okt so (c :: l)) (ha : ar c ≠ 0) : (pts (c :: l)).map g ≠ [] := fun e => by
  have := congrArg List.length e
  rw [List.length_map, (pts_of h.1).2.1] at this; exact ha this
/-- filled parts of a pattern -/
theorem fil_parts {so : Nat → Nat} {un : Nat → Option Nat} {sg : Nat → List Nat} {c : Nat} {l : List Nat} (hsu : SU so un) (h : okt so (c :: l)) (hl : (c :: l).length ≤ 20) (hv : von so un sg (c :: l)) : noks so un ((pts (c :: l)).map (fil so un sg)) ∧ ((pts (c :: l)).map (fil so un sg)).flatten.length < 512 := by
  simp only [List.length_cons] at hl
  have ih : ∀ t ∈ pts (c :: l), nok so un (fil so un sg t) ∧ (fil so un sg t).length ≤ 21 * t.length := fun t ht => by
    have hs := pts_short h.1 ht
    exact ⟨fil_nok hsu 21 t (okt_pts h t ht) (by omega) (by omega) (fun e he => hv e (mem_pts h.1 ht he)), (filT_ok (un := un) hsu 21 t (okt_pts h t ht) (by omega) (by omega) (von_vok (fun e he => hv e (mem_pts h.1 ht he)))).2⟩
  have hfl := map_flat_len (g := fil so un sg) (K := 21) (ts := pts (c :: l)) (fun t ht => (ih t ht).2)
  rw [(pts_of h.1).2.2] at hfl
  refine ⟨fun t ht => ?_, by omega⟩
  obtain ⟨u, hu, rfl⟩ := List.mem_map.mp ht
  exact (ih u hu).1
theorem eq_free {so : Nat → Nat} {un : Nat → Option Nat} {sg : Nat → List Nat} {c : Nat} {l t : List Nat} (hsu : SU so un) (h : okt so (c :: l)) (hl : (c :: l).length ≤ 20) (hv : von so un sg (c :: l)) (hc : ¬ c < 512) (h0 : so (c / 512 - 1) = 0) (ht : okt so t) : fil so un sg (c :: l) = t ↔ hd0 t = c ∧ pts t = (pts (c :: l)).map (fil so un sg) := by
  obtain ⟨k1, k2, k3⟩ := pts_of h.1
  by_cases ha : ar c = 0
  · rw [fil_const hc ha]
    have hp : pts (c :: l) = [] := List.length_eq_zero_iff.mp (by rw [k2, ha])
    constructor
    · intro e
      rw [← e, hp]
      exact ⟨rfl, by show kids (ar c) [] = []; rw [ha]; rfl⟩
    · rintro ⟨e1, _⟩
      cases t with
      | nil => exact absurd (wf_pos ht.1) (by simp)
      | cons d m =>
        have e : d = c := e1
        subst e
        rw [leaf_row ht ha]
  · rw [fil_op h (by omega) hc ha]
    have har := ar_lt (c := c)
    have hfo := fil_parts hsu h hl hv
    have est : stand so un (c / 512 - 1) ((pts (c :: l)).map (fil so un sg)) = c :: ((pts (c :: l)).map (fil so un sg)).flatten := by
      unfold stand
      rw [if_pos h0, flats_plain (fun q _ => by unfold plain flat1; rw [if_neg (by omega)]), mkt_many (fun q => by omega), List.length_map, k2, ← cdo_of (by omega) rfl]
    rw [est]
    constructor
    · intro e
      rw [← e]
      exact ⟨rfl, pts_mk (okts_wfs (noks_okts hfo.1)) (by rw [List.length_map, k2])⟩
    · rintro ⟨e1, e2⟩
      cases t with
      | nil => exact absurd (wf_pos ht.1) (by simp)
      | cons d m =>
        have e : d = c := e1
        subst e
        rw [← e2, (pts_of ht.1).2.2]
theorem srt_two {a b : List Nat} : srt [a, b] = [a, b] ∨ srt [a, b] = [b, a] := by
  show insS a [b] = _ ∨ insS a [b] = _
  unfold insS
  split
  · exact Or.inr rfl
  · exact Or.inl rfl
theorem eq_comm2 {so : Nat → Nat} {un : Nat → Option Nat} {sg : Nat → List Nat} {c : Nat} {l t p1 p2 : List Nat} (hsu : SU so un) (h : okt so (c :: l)) (hl : (c :: l).length ≤ 20) (hv : von so un sg (c :: l)) (hc : ¬ c < 512) (h0 : so (c / 512 - 1) = 1) (hp : pts (c :: l) = [p1, p2]) (ht : nok so un t) :
    fil so un sg (c :: l) = t ↔ hd0 t = c ∧ ∃ t1 t2 : List Nat, pts t = [t1, t2] ∧ ((fil so un sg p1 = t1 ∧ fil so un sg p2 = t2) ∨ (fil so un sg p1 = t2 ∧ fil so un sg p2 = t1)) := by
  obtain ⟨k1, k2, k3⟩ := pts_of h.1
  rw [hp] at k2
  have ha : ar c ≠ 0 := by simp at k2; omega
  have ha2 : ar c = 2 := by simp at k2; omega
  have hfo := fil_parts hsu h hl hv
  rw [fil_op h (by omega) hc ha]
  rw [hp] at hfo ⊢
  have hw := okts_wfs (noks_okts hfo.1)
  simp only [List.map_cons, List.map_nil] at hw ⊢
  have est : stand so un (c / 512 - 1) [fil so un sg p1, fil so un sg p2] = c :: (srt [fil so un sg p1, fil so un sg p2]).flatten := by
    unfold stand
    rw [if_neg (by omega), flats_plain (fun q _ => by unfold plain flat1; rw [if_neg (by omega)]), mkt_many (fun q => by omega), (srt_perm _).length_eq]
    show cdo (c / 512 - 1) 2 :: _ = _
    rw [← ha2, ← cdo_of (by omega) rfl]
  rw [est]
  have hws := wfs_perm (srt_perm [fil so un sg p1, fil so un sg p2]) hw
  have hls : (srt [fil so un sg p1, fil so un sg p2]).length = 2 := by rw [(srt_perm _).length_eq]; rfl
  constructor
  · intro e
    rw [← e]
    refine ⟨rfl, ?_⟩
    rw [pts_mk hws (by rw [hls, ha2])]
    rcases srt_two (a := fil so un sg p1) (b := fil so un sg p2) with g | g
    · exact ⟨_, _, g, Or.inl ⟨rfl, rfl⟩⟩
    · exact ⟨_, _, g, Or.inr ⟨rfl, rfl⟩⟩
  · rintro ⟨e1, t1, t2, e2, e3⟩
    cases t with
    | nil => exact absurd (wf_pos ht.1.1) (by simp)
    | cons d m =>
      have e : d = c := e1
      subst e
      obtain ⟨m1, m2, m3⟩ := pts_of ht.1.1
      have hst := nf_std ht.2 ha
      rw [e2] at hst m1
      have e4 : srt [fil so un sg p1, fil so un sg p2] = srt [t1, t2] := by
        refine srt_perm_eq m1 ?_
        rcases e3 with ⟨g1, g2⟩ | ⟨g1, g2⟩
        · rw [g1, g2]
        · rw [g1, g2]; exact List.Perm.swap t1 t2 []
      rw [e4]
      unfold stand at hst
      rw [if_neg (by omega), flats_plain (fun q _ => by unfold plain flat1; rw [if_neg (by omega)]), mkt_many (fun q => by omega)] at hst
      rw [← (List.cons.inj hst).2]
/-! ===== a sum ===== -/
theorem flats_map {so : Nat → Nat} {un : Nat → Option Nat} {op : Nat} : ∀ {ts : List (List Nat)}, flats so un op ts = (ts.map (flat1 so un op)).flatten
  | [] => rfl
  | t :: ts => by
    show flat1 so un op t ++ flats so un op ts = flat1 so un op t ++ (ts.map (flat1 so un op)).flatten
    rw [flats_map]
/-- what stands in a pattern must be just one part of a sum -/
def isOneP (so : Nat → Nat) (un : Nat → Option Nat) (p : List Nat) : Prop := 512 ≤ hd0 p ∧ (so (hd0 p / 512 - 1) ≠ 2 ∨ un (hd0 p / 512 - 1) = none)
theorem one_plain {so : Nat → Nat} {un : Nat → Option Nat} {sg : Nat → List Nat} {op : Nat} {p : List Nat} (hsu : SU so un) (ho : op < 10 ∧ so op ≠ 3) (h2 : so op = 2) (h : okt so p) (hl : p.length ≤ 20) (hv : von so un sg p) (hp : plain so un op p) (h1 : isOneP so un p) : plain so un op (fil so un sg p) ∧ opI (hd0 (fil so un sg p)) = opI (hd0 p) := by
  cases p with
  | nil => exact absurd (wf_pos h.1) (by simp)
  | cons c l =>
    have hc : ¬ c < 512 := by have : 512 ≤ c := h1.1; omega
    obtain ⟨q1, q2, q3⟩ := okt_op h hc
    have hne : c / 512 - 1 ≠ op := by
      intro e
      have hi : isop op (c :: l) = true := by
        show (decide (512 ≤ c) && decide (c / 512 - 1 = op)) = true
        simp [q1, e]
      have e2 : flat1 so un op (c :: l) = pts (c :: l) := by unfold flat1; rw [if_pos h2, if_pos hi]
      unfold plain at hp
      rw [e2] at hp
      have := pts_short h.1 (t := c :: l) (by rw [hp]; exact List.mem_singleton.mpr rfl)
      simp only [List.length_cons] at this; omega
    have hnu : isun un op (c :: l) = false := by
      cases hu : isun un op (c :: l) with
      | false => rfl
      | true =>
        exfalso
        have hni : ¬ isop op (c :: l) = true := fun q => hne (isop_head q).2
        unfold plain flat1 at hp
        rw [if_pos h2, if_neg hni, if_pos hu] at hp
        simp at hp
    -- a row whose head has the same operator, and is not the unit, is plain
    have fin : ∀ (c2 : Nat) (l2 : List Nat), fil so un sg (c :: l) = c2 :: l2 → 512 ≤ c2 → c2 / 512 - 1 = c / 512 - 1 → (so (c / 512 - 1) ≠ 2 → c2 = c) → plain so un op (fil so un sg (c :: l)) ∧ opI (hd0 (fil so un sg (c :: l))) = opI (hd0 (c :: l)) := by
      intro c2 l2 e g1 g2 g3
      rw [e]
      refine ⟨?_, ?_⟩
      · have hni : ¬ isop op (c2 :: l2) = true := fun q => hne (by rw [← g2]; exact (isop_head q).2)
        have hnu2 : ¬ isun un op (c2 :: l2) = true := by
          intro q
          cases hun : un op with
          | none => unfold isun at q; rw [hun] at q; simp at q
          | some u =>
            have e3 : c2 = cdo u 0 := by
              have e4 : decide (c2 = cdo u 0) = true := by unfold isun at q; rw [hun] at q; exact q
              simpa using e4
            obtain ⟨_, u2⟩ := hsu op u ho hun
            have hou : c / 512 - 1 = u := by rw [← g2, e3]; unfold cdo; omega
            have e5 := g3 (by rw [hou]; omega)
            have : isun un op (c :: l) = true := by unfold isun; rw [hun]; simp [← e5, e3]
            rw [hnu] at this; exact absurd this (by decide)
        unfold plain flat1
        rw [if_pos h2, if_neg hni, if_neg hnu2]
      · show opI c2 = opI c
        rw [opI_op g1, opI_op q1, g2]
    by_cases ha : ar c = 0
    · exact fin c [] (fil_const hc ha) q1 rfl (fun _ => rfl)
    · have har := ar_lt (c := c)
      have hfo := fil_parts hsu h hl hv
      have e1 := fil_op (un := un) (sg := sg) h (by omega) hc ha
      by_cases q : so (c / 512 - 1) = 2
      · -- a sum without a unit
        have hun : un (c / 512 - 1) = none := h1.2.resolve_left (fun g => g q)
        have hlen : 2 ≤ ar c := (h.2.2 c (List.mem_cons_self ..) q1).2 q
        have hp2 : (pts (c :: l)).length = ar c := (pts_of h.1).2.1
        have hfl : 2 ≤ (flats so un (c / 512 - 1) ((pts (c :: l)).map (fil so un sg))).length := by
          have key : ∀ ts : List (List Nat), okts so ts → ts.length ≤ (flats so un (c / 512 - 1) ts).length := by
            intro ts
            induction ts with
            | nil => intro _; exact Nat.le_refl _
            | cons t ts ih =>
              intro hts
              have a1 := flat1_ne (un := un) (op := c / 512 - 1) (okts_cons.mp hts).1 hun
              have a2 := ih (okts_cons.mp hts).2
              have a3 : 0 < (flat1 so un (c / 512 - 1) t).length := List.length_pos_iff.mpr a1
              show (t :: ts).length ≤ (flat1 so un (c / 512 - 1) t ++ flats so un (c / 512 - 1) ts).length
              rw [List.length_append, List.length_cons]; omega
          have := key _ (noks_okts hfo.1)
          rw [List.length_map, hp2] at this; omega
        have hfl2 := flats_len (so := so) (un := un) (op := c / 512 - 1) (okts_wfs (noks_okts hfo.1))
        have hsl := (srt_perm (flats so un (c / 512 - 1) ((pts (c :: l)).map (fil so un sg)))).length_eq
        have e2 : fil so un sg (c :: l) = cdo (c / 512 - 1) (srt (flats so un (c / 512 - 1) ((pts (c :: l)).map (fil so un sg)))).length :: (srt (flats so un (c / 512 - 1) ((pts (c :: l)).map (fil so un sg)))).flatten := by
          rw [e1]; unfold stand; rw [if_neg (by omega), mkt_many (fun _ => by omega)]
        exact fin _ _ e2 (by unfold cdo; omega) (by unfold cdo; omega) (fun g => absurd q g)
      · have e2 : ∃ l2 : List Nat, fil so un sg (c :: l) = c :: l2 := by
          rw [e1]
          unfold stand
          rw [flats_plain (fun q9 _ => by unfold plain flat1; rw [if_neg q])]
          have hcc := cdo_of q1 (op := c / 512 - 1) rfl
          split
          · refine ⟨((pts (c :: l)).map (fil so un sg)).flatten, ?_⟩
            rw [mkt_many (fun g => absurd g q), List.length_map, (pts_of h.1).2.1, ← hcc]
          · refine ⟨(srt ((pts (c :: l)).map (fil so un sg))).flatten, ?_⟩
            rw [mkt_many (fun g => absurd g q), (srt_perm _).length_eq, List.length_map, (pts_of h.1).2.1, ← hcc]
        obtain ⟨l2, e3⟩ := e2
        exact fin c l2 e3 q1 rfl (fun _ => rfl)
