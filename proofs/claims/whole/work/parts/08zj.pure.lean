/-! ===== the matcher: what a goal asks, and what it becomes ===== -/
def sgm (so : Nat → Nat) (g : GoalC) : Nat := if kd so g.1 = 2 then (sl g.2.1 (pts g.1)).flatten.length else g.1.length - 1
def sgC (so : Nat → Nat) : List GoalC → Nat
  | [] => 0
  | g :: C => sgm so g + sgC so C
def pot (so : Nat → Nat) : List GoalC → Nat
  | [] => 0
  | g :: C => 4 * sgm so g + 1 + pot so C
theorem sgC_app {so : Nat → Nat} : ∀ {C D : List GoalC}, sgC so (C ++ D) = sgC so C + sgC so D
  | [], D => (Nat.zero_add _).symm
  | g :: C, D => by
    show sgm so g + sgC so (C ++ D) = sgm so g + sgC so C + sgC so D
    rw [sgC_app, Nat.add_assoc]
theorem pot_app {so : Nat → Nat} : ∀ {C D : List GoalC}, pot so (C ++ D) = pot so C + pot so D
  | [], D => (Nat.zero_add _).symm
  | g :: C, D => by
    show 4 * sgm so g + 1 + pot so (C ++ D) = 4 * sgm so g + 1 + pot so C + pot so D
    rw [pot_app]; omega
theorem pot_sg {so : Nat → Nat} : ∀ {C : List GoalC}, pot so C = 4 * sgC so C + C.length
  | [] => rfl
  | g :: C => by
    show 4 * sgm so g + 1 + pot so C = 4 * (sgm so g + sgC so C) + (C.length + 1)
    rw [pot_sg]; omega
theorem sgC_perm {so : Nat → Nat} {C D : List GoalC} (h : C.Perm D) : sgC so C = sgC so D := by
  induction h with
  | nil => rfl
  | cons x _ ih => show sgm so x + _ = sgm so x + _; rw [ih]
  | swap x y l => show sgm so y + (sgm so x + sgC so l) = sgm so x + (sgm so y + sgC so l); omega
  | trans _ _ h1 h2 => rw [h1, h2]
def GOK (AL : List Nat → Prop) (so ma : Nat → Nat) (un : Nat → Option Nat) (nv : Nat) (C : List GoalC) : Prop := ∀ g ∈ C, tok so un ma nv g.1 ∧ tok so un ma nv g.2.2 ∧ AL g.2.2 ∧ (kd so g.1 = 2 → sl g.2.1 (pts g.1) ≠ [])
theorem sl63 {qs : List (List Nat)} (h : qs.length ≤ 6) : sl 63 qs = qs := by
  have : ∀ (qs : List (List Nat)) (k : Nat), k + qs.length ≤ 6 → sel 63 false k qs = qs := by
    intro qs
    induction qs with
    | nil => intro k _; rfl
    | cons x qs ih =>
      intro k hk
      rw [List.length_cons] at hk
      show (if (63 : Nat).testBit k = false then sel 63 false (k + 1) qs else x :: sel 63 false (k + 1) qs) = x :: qs
      have hb9 : ∀ k : Fin 6, (63 : Nat).testBit k.val = true := by decide
      rw [hb9 ⟨k, by omega⟩, if_neg (by decide), ih (k + 1) (by omega)]
  exact this qs 0 (by omega)
theorem kd_cases {so : Nat → Nat} {p : List Nat} (h : wf 1 p) : (∃ c : Nat, p = c :: (pts p).flatten ∧ c < 512 ∧ kd so p = 0) ∨ ∃ c : Nat, p = c :: (pts p).flatten ∧ ¬ c < 512 ∧ kd so p = so (c / 512 - 1) ∧ opn p = c / 512 - 1 ∧ hd0 p = c := by
  have r := row_pts h
  by_cases q : hd0 p < 512
  · exact Or.inl ⟨hd0 p, r, q, by unfold kd; rw [if_pos q]⟩
  · exact Or.inr ⟨hd0 p, r, q, by unfold kd; rw [if_neg q], rfl, rfl⟩
theorem sum_ar {so ma : Nat → Nat} {un : Nat → Option Nat} {nv : Nat} {p : List Nat} (h : tok so un ma nv p) (h2 : kd so p = 2) : 512 ≤ hd0 p ∧ so (opn p) = 2 ∧ 2 ≤ ar (hd0 p) ∧ isop (opn p) p = true := by
  unfold kd at h2
  by_cases q : hd0 p < 512
  · rw [if_pos q] at h2; omega
  · rw [if_neg q] at h2
    exact ⟨by omega, h2, (h.1.1.2.2 _ (hd0_mem h.1.1.1) (by omega)).2 h2, (isop_hd h.1.1.1).mpr ⟨by omega, rfl⟩⟩
/-- a goal for a whole pattern -/
theorem gsat_whole {so ma : Nat → Nat} {un : Nat → Option Nat} {nv : Nat} {sg : Nat → List Nat} {p t : List Nat} (h6 : (pts p).length ≤ 6) (h : tok so un ma nv p) : gsat so un sg (p, 63, t) ↔ von so un sg p ∧ fil so un sg p = t := by
  unfold gsat
  by_cases q : kd so p = 2
  · rw [if_pos q]
    obtain ⟨s1, s2, s3, s4⟩ := sum_ar h q
    have r := row_pts h.1.1.1
    have hw := h.1.1.1
    have h20 := tok_len h
    show (∀ q ∈ sl 63 (pts p), von so un sg q) ∧ stand so un (opn p) ((sl 63 (pts p)).map (fil so un sg)) = t ↔ _
    rw [sl63 h6]
    have e1 : von so un sg p ↔ ∀ q ∈ pts p, von so un sg q := by
      have := von_pts (so := so) (un := un) (sg := sg) (c := hd0 p) (l := (pts p).flatten) (by rw [← r]; exact hw) (by omega)
      rw [← r] at this; exact this
    have e2 : fil so un sg p = stand so un (opn p) ((pts p).map (fil so un sg)) := by
      have := fil_op (un := un) (sg := sg) (c := hd0 p) (l := (pts p).flatten) (by rw [← r]; exact h.1.1) (by rw [← r]; omega) (by omega) (by omega)
      rw [← r] at this; exact this
    rw [e1, e2]
  · rw [if_neg q]
/-- the head of a filled pattern that is no sum -/
theorem fil_hd {so ma : Nat → Nat} {un : Nat → Option Nat} {nv : Nat} {sg : Nat → List Nat} {p t : List Nat} (hsv : SV so un ma nv) (h : tok so un ma nv p) (ht : tok so un ma nv t) (hp : 512 ≤ hd0 p) (h2 : kd so p ≠ 2) (hs2 : ∀ o : Nat, so o ≠ 3 → so o ≤ 2) (hv : von so un sg p) (e : fil so un sg p = t) : hd0 t = hd0 p := by
  have hsu := SV_SU hsv
  have r := row_pts h.1.1.1
  have h20 := tok_len h
  have hok := h.1.1
  generalize hc : hd0 p = c at *
  generalize hl : (pts p).flatten = l at *
  subst r
  have o3 := (okt_op hok (by omega)).2.2
  have kk : kd so (c :: l) = so (c / 512 - 1) := by unfold kd; rw [hc, if_neg (by omega)]
  have hle := hs2 _ o3.2
  have : so (c / 512 - 1) = 0 ∨ so (c / 512 - 1) = 1 := by omega
  rcases this with z | z
  · exact ((eq_free hsu hok h20 hv (by omega) z ht.1.1).mp e).1
  · obtain ⟨k1, k2, k3⟩ := pts_of hok.1
    have ha : ar c = 2 := by
      have := h.2.2 c List.mem_cons_self
      rcases this with g | ⟨g1, g2, g3, g4⟩
      · have := hsv.1; omega
      · rw [g4 (by omega)]; exact hsv.2.1 _ z
    rw [ha] at k2
    obtain ⟨p1, p2, hp2⟩ : ∃ p1 p2 : List Nat, pts (c :: l) = [p1, p2] := by
      match hq : pts (c :: l), k2 with
      | [p1, p2], _ => exact ⟨p1, p2, rfl⟩
    exact ((eq_comm2 hsu hok h20 hv (by omega) z hp2 ht.1).mp e).1
theorem zg_all {so : Nat → Nat} {un : Nat → Option Nat} {sg : Nat → List Nat} : ∀ {ps ts : List (List Nat)}, ps.length = ts.length → ((∀ g ∈ zg ps ts, von so un sg g.1 ∧ fil so un sg g.1 = g.2.2) ↔ (∀ p ∈ ps, von so un sg p) ∧ ts = ps.map (fil so un sg))
  | [], [], _ => ⟨fun _ => ⟨fun _ h => absurd h List.not_mem_nil, rfl⟩, fun _ _ h => absurd h List.not_mem_nil⟩
  | p :: ps, t :: ts, h => by
    have ih := zg_all (so := so) (un := un) (sg := sg) (ps := ps) (ts := ts) (by simpa using h)
    show (∀ g ∈ (p, 63, t) :: zg ps ts, _) ↔ _
    rw [List.forall_mem_cons, ih, List.forall_mem_cons, List.map_cons, List.cons.injEq]
    constructor
    · rintro ⟨⟨a, b⟩, c, d⟩
      exact ⟨⟨a, c⟩, b.symm, d⟩
    · rintro ⟨⟨a, c⟩, b, d⟩
      exact ⟨⟨a, b.symm⟩, c, d⟩
  | [], _ :: _, h => nomatch h
  | _ :: _, [], h => nomatch h
theorem zg_mem : ∀ {ps ts : List (List Nat)} {g : GoalC}, g ∈ zg ps ts → g.1 ∈ ps ∧ g.2.1 = 63 ∧ g.2.2 ∈ ts
  | p :: ps, t :: ts, g, h => by
    rcases List.mem_cons.mp (show g ∈ (p, 63, t) :: zg ps ts from h) with e | e
    · rw [e]; exact ⟨List.mem_cons_self, rfl, List.mem_cons_self⟩
    · obtain ⟨a, b, c⟩ := zg_mem e
      exact ⟨List.mem_cons_of_mem _ a, b, List.mem_cons_of_mem _ c⟩
  | [], _, g, h => absurd h List.not_mem_nil
  | _ :: _, [], g, h => absurd h List.not_mem_nil
/-- parts of a term that may be told -/
theorem tok_pts {so ma : Nat → Nat} {un : Nat → Option Nat} {nv : Nat} {t : List Nat} (h : tok so un ma nv t) : ∀ q ∈ pts t, tok so un ma nv q := fun q hq => by
  have r := row_pts h.1.1.1
  have hm : ∀ c ∈ q, c ∈ t := fun c hc => by
    rw [r] at hq ⊢
    exact mem_pts (by rw [← r]; exact h.1.1.1) hq hc
  have hl : q.length ≤ t.length := by
    have := mem_len hq
    have e := congrArg List.length r
    rw [List.length_cons] at e
    omega
  obtain ⟨b1, b2⟩ := no_big h.2.1
  exact ⟨nok_pts h.1 q hq, not_great (by omega) (fun c hc => b2 c (hm c hc)), fun c hc => h.2.2 c (hm c hc)⟩
theorem zg_sum {so ma : Nat → Nat} {un : Nat → Option Nat} {nv : Nat} (hsv : SV so un ma nv) (hs2 : ∀ o : Nat, so o ≠ 3 → so o ≤ 2) : ∀ {ps ts : List (List Nat)}, ps.length = ts.length → (∀ p ∈ ps, tok so un ma nv p) → sgC so (zg ps ts) + ps.length = ps.flatten.length
  | [], [], _, _ => rfl
  | p :: ps, t :: ts, h, hp => by
    have ih := zg_sum (so := so) hsv hs2 (ps := ps) (ts := ts) (by simpa using h) (fun q hq => hp q (List.mem_cons_of_mem _ hq))
    have tp := hp p List.mem_cons_self
    have hlen := wf_pos tp.1.1.1
    have e : sgm so (p, 63, t) = p.length - 1 := by
      unfold sgm
      by_cases q : kd so p = 2
      · rw [if_pos q]
        have h6 : (pts p).length ≤ 6 := by rw [pts_len tp.1.1.1]; exact (tok_ar hsv hs2 tp _ (hd0_mem tp.1.1.1)).1
        show (sl 63 (pts p)).flatten.length = _
        rw [sl63 h6]
        have := congrArg List.length (row_pts tp.1.1.1)
        rw [List.length_cons] at this
        omega
      · rw [if_neg q]
    show sgm so (p, 63, t) + sgC so (zg ps ts) + (ps.length + 1) = (p ++ ps.flatten).length
    rw [e, List.length_append]
    omega
  | [], _ :: _, h, _ => nomatch h
  | _ :: _, [], h, _ => nomatch h
/-- which goals follow where there is one way -/
def nong (be : Nat → Option (List Nat)) (q : List Nat) : Prop := ∃ c ∈ q, c < 512 ∧ be c = none
def remC (so : Nat → Nat) (un : Nat → Option Nat) (p : List Nat) (left : Nat) (t : List Nat) (rest : Nat) : List GoalC := match sl left (pts p) with
  | [] => []
  | [q] => [(q, 63, SS so un (opn p) t rest)]
  | _ => [(p, left, SS so un (opn p) t rest)]
def RST (so : Nat → Nat) (un : Nat → Option Nat) (p t : List Nat) (rest : Nat) : Prop := rest < 64 ∧ (∀ k : Nat, (flat1 so un (opn p) t).length ≤ k → rest.testBit k = false) ∧ ∃ X : List (List Nat), (flat1 so un (opn p) t).Perm (X ++ sl rest (flat1 so un (opn p) t))
/-- the parts that are bound already stand in the target -/
def GND (so : Nat → Nat) (un : Nat → Option Nat) (be : Nat → Option (List Nat)) (p : List Nat) (L : Nat) (t : List Nat) (left rest : Nat) : Prop :=
  ∃ Gd : List (List Nat), (sl L (pts p)).Perm (Gd ++ sl left (pts p)) ∧ (∀ q ∈ Gd, q ∈ pts p ∧ ∀ c ∈ q, c < 512 → be c ≠ none) ∧ (flat1 so un (opn p) t).Perm (flats so un (opn p) (Gd.map (fil so un (sgB be))) ++ sl rest (flat1 so un (opn p) t))
def LFT (be : Nat → Option (List Nat)) (p : List Nat) (L left : Nat) : Prop := left < 64 ∧ ∀ i : Nat, left.testBit i = true → i < (pts p).length ∧ L.testBit i = true ∧ nong be (nth (pts p) i)
def DET (so : Nat → Nat) (un : Nat → Option Nat) (C : List GoalC) (be : Nat → Option (List Nat)) (C2 : List GoalC) (be2 : Nat → Option (List Nat)) : Prop := match C with
  | [] => False
  | g :: C0 => (be2 = be ∧ C2 = C0 ∧ ∀ c ∈ g.1, c < 512 → be c ≠ none) ∨ (∃ c : Nat, g.1 = [c] ∧ c < 5 ∧ be c = none ∧ C2 = C0 ∧ be2 = bup be c g.2.2) ∨
      (kd so g.1 = 0 ∧ 512 ≤ hd0 g.1 ∧ hd0 g.2.2 = hd0 g.1 ∧ be2 = be ∧ ∃ D : List GoalC, D.Perm (zg (pts g.1) (pts g.2.2)) ∧ C2 = D ++ C0) ∨
      (kd so g.1 = 2 ∧ be2 = be ∧ ∃ left rest : Nat, LFT be g.1 g.2.1 left ∧ RST so un g.1 g.2.2 rest ∧ GND so un be g.1 g.2.1 g.2.2 left rest ∧ (sl left (pts g.1)).length ≤ 1 ∧ C2 = remC so un g.1 left g.2.2 rest ++ C0)
/-- how much a part of a sum's pattern is worth -/
def wth (so : Nat → Nat) (un : Nat → Option Nat) (las : Nat → Bool) (P q : List Nat) : Nat := if sto so un q = 2 then 22 else if sto so un q = 1 then 2 else if fld las P (hd0 q) ≤ 1 then 1 else fld las P (hd0 q) + 1
def BRC (so : Nat → Nat) (un : Nat → Option Nat) (las : Nat → Bool) (P : List Nat) (C : List GoalC) (be : Nat → Option (List Nat)) (R : GoalC) (C0 : List GoalC) (bp lim : Nat) : Prop := match C with
  | [] => False
  | g :: C1 => C0 = C1 ∧ ((kd so g.1 = 1 ∧ R = g ∧ bp = 0 ∧ lim = 2 ∧ hd0 g.2.2 = hd0 g.1) ∨
      (kd so g.1 = 2 ∧ ∃ left rest : Nat, LFT be g.1 g.2.1 left ∧ RST so un g.1 g.2.2 rest ∧ GND so un be g.1 g.2.1 g.2.2 left rest ∧ 2 ≤ (sl left (pts g.1)).length ∧ R = (g.1, left, SS so un (opn g.1) g.2.2 rest) ∧ left.testBit bp = true ∧ (∀ i : Nat, left.testBit i = true → wth so un las P (nth (pts g.1) i) ≤ wth so un las P (nth (pts g.1) bp)) ∧ lim = (if sto so un (nth (pts g.1) bp) = 2 then (flat1 so un (opn g.1) R.2.2).length else 2 ^ (flat1 so un (opn g.1) R.2.2).length)))
def FRM (u u' : Nat → Nat → Int32) (G : Nat) (be : Nat → Option (List Nat)) (nb : Nat) : Prop :=
  (∀ a : Nat, 1 ≤ a → a ≤ 4 → ∀ i : Nat, i < G → u' a i = u a i) ∧ (∀ v : Nat, v < 5 → be v ≠ none → u' 5 v = u 5 v) ∧ (∀ a : Nat, 6 ≤ a → a ≤ 11 → ∀ i : Nat, i < nb → u' a i = u a i) ∧ (u' 12 = u 12 ∧ u' 13 = u 13) ∧ u' 0 0 = u 0 0 ∧ u' 0 1 = u 0 1 ∧ u' 0 5 = u 0 5
theorem FRM.refl {u : Nat → Nat → Int32} {G nb : Nat} {be : Nat → Option (List Nat)} : FRM u u G be nb := ⟨fun _ _ _ _ _ => rfl, fun _ _ _ => rfl, fun _ _ _ _ _ => rfl, ⟨rfl, rfl⟩, rfl, rfl, rfl⟩
theorem FRM.trans {u u' u'' : Nat → Nat → Int32} {G nb : Nat} {be : Nat → Option (List Nat)} (h : FRM u u' G be nb) (h' : FRM u' u'' G be nb) : FRM u u'' G be nb :=
  ⟨fun a h1 h4 i hi => (h'.1 a h1 h4 i hi).trans (h.1 a h1 h4 i hi), fun v hv hb9 => (h'.2.1 v hv hb9).trans (h.2.1 v hv hb9), fun a h6 h11 i hi => (h'.2.2.1 a h6 h11 i hi).trans (h.2.2.1 a h6 h11 i hi), ⟨h'.2.2.2.1.1.trans h.2.2.2.1.1, h'.2.2.2.1.2.trans h.2.2.2.1.2⟩, h'.2.2.2.2.1.trans h.2.2.2.2.1, h'.2.2.2.2.2.1.trans h.2.2.2.2.2.1, h'.2.2.2.2.2.2.trans h.2.2.2.2.2.2⟩
theorem FRM_go {u u' : Nat → Nat → Int32} {G nb : Nat} {be : Nat → Option (List Nat)} (h : FGo u u' G) : FRM u u' G be nb :=
  ⟨h.1, fun v _ _ => by rw [h.2.1 5 (by decide)], fun a h6 _ i _ => by rw [h.2.1 a (by omega)], ⟨h.2.1 12 (by decide), h.2.1 13 (by decide)⟩, h.2.2 0 (by decide), h.2.2 1 (by decide), h.2.2 5 (by decide)⟩
def BRX (u : Nat → Nat → Int32) (N : List (List Nat)) (nb : Nat) (R : GoalC) (C : List GoalC) (bp lim : Nat) (nw mask : Int32) (gu : Nat) : Prop :=
  ∃ gi : Nat, u 6 nb = nI gi ∧ CHN u N (R :: C) gu (nI gi) ∧ gi < 256 ∧ u 7 nb = nI bp ∧ u 8 nb = nw ∧ u 9 nb = nI lim ∧ u 10 nb = mask ∧ u 11 nb = nI gu
abbrev MRs := Option (Int32 × (Nat → Nat → Int32) × (Nat → Nat → Int32) × (Nat → Nat → Int64))
/-- what a goal becomes -/
def OUTC (las : Nat → Bool) (so ma : Nat → Nat) (un : Nat → Option Nat) (nv : Nat) (AL : List Nat → Prop) (P : List Nat) (hd : Nat) (u : Nat → Nat → Int32) (N : List (List Nat)) (C : List GoalC) (be : Nat → Option (List Nat)) (G nb : Nat) (o : MRs) : Prop :=
  ∃ (x' : Int32) (u' vt' : Nat → Nat → Int32) (w' : Nat → Nat → Int64) (E : List (List Nat)), o = some (x', u', vt', w') ∧ TBK vt' w' las so ma un nv (N ++ E) ∧ vt' 0 1 = nI hd ∧ (∀ e ∈ E, AL e) ∧ FRM u u' G be nb ∧
    ((u' 0 3 = u 0 3 ∧ ∃ (C2 : List GoalC) (be2 : Nat → Option (List Nat)) (G2 : Nat), DET so un C be C2 be2 ∧ CHN u' (N ++ E) C2 G2 x' ∧ u' 0 2 = nI G2 ∧ G ≤ G2 ∧ BDG u' (N ++ E) be2 ∧ (∀ v : Nat, v < 5 → be v ≠ none → be2 v = be v) ∧ GOK AL so ma un nv C2 ∧ G2 + pot so C2 ≤ G + pot so C ∧ sgC so C2 ≤ sgC so C ∧ ∀ sg : Nat → List Nat, SolG so un C be sg ↔ SolG so un C2 be2 sg) ∨
     (u' 0 3 = u 0 3 ∧ x' = -2 ∧ ∀ sg : Nat → List Nat, ¬ SolG so un C be sg) ∨
     (u' 0 3 = nI (nb + 1) ∧ x' = -2 ∧ ∃ (R : GoalC) (C0 : List GoalC) (bp lim G2 : Nat), BRC so un las P C be R C0 bp lim ∧ BRX u' (N ++ E) nb R C0 bp lim (-1) (u 0 4) G2 ∧ G ≤ G2 ∧ BDG u' (N ++ E) be ∧ GOK AL so ma un nv (R :: C0) ∧ G2 + pot so (R :: C0) ≤ G + pot so C + 1 ∧ sgC so (R :: C0) ≤ sgC so C ∧ ∀ sg : Nat → List Nat, SolG so un C be sg ↔ SolG so un (R :: C0) be sg))
theorem fx_addBranch_c {n gi nb bp lim G2 : Nat} {u : Nat → Nat → Int32} {N : List (List Nat)} {R : GoalC} {C0 : List GoalC} (h3 : u 0 3 = nI nb) (hnb : nb < 64) (hgi : gi < 256) (hG : u 0 2 = nI G2) (hC : CHN u N (R :: C0) G2 (nI gi)) :
    ∃ u' : Nat → Nat → Int32, fx_X0_addBranch n u (nI gi) (nI bp) (nI lim) = some u' ∧ BRX u' N nb R C0 bp lim (-1) (u 0 4) G2 ∧ (∀ a : Nat, a ≤ 5 → a ≠ 0 → u' a = u a) ∧ (∀ a : Nat, 12 ≤ a → u' a = u a) ∧ (∀ a : Nat, 6 ≤ a → a ≤ 11 → ∀ i : Nat, i < nb → u' a i = u a i) ∧ (∀ j : Nat, j ≠ 3 → u' 0 j = u 0 j) ∧ u' 0 3 = nI (nb + 1) := by
  refine ⟨mu (mu (mu (mu (mu (mu (mu u 6 nb (nI gi)) 7 nb (nI bp)) 8 nb (-1)) 9 nb (nI lim)) 10 nb (u 0 4)) 11 nb (nI G2)) 0 3 (nI (nb + 1)), ?_, ⟨gi, ?_, ?_, hgi, ?_, ?_, ?_, ?_, ?_⟩, ?_, ?_, ?_, ?_, ?_⟩
  · unfold fx_X0_addBranch
    rw [h3, if_neg (by rw [show (0 : Int32) = nI 0 from rfl, nI_lt_iff (by omega) (by decide)]; omega), if_pos (by rw [show (64 : Int32) = nI 64 from rfl, nI_lt_iff (by omega) (by decide)]; omega), xwp_n hnb (by decide), mu_ne (by decide), h3, xwp_n hnb (by decide), mu_ne (by decide), mu_ne (by decide), h3, xwp_n hnb (by decide), mu_ne (by decide), mu_ne (by decide), mu_ne (by decide), h3, xwp_n hnb (by decide), mu_ne (by decide), mu_ne (by decide), mu_ne (by decide), mu_ne (by decide), h3, xwp_n hnb (by decide), mu_ne (by decide), mu_ne (by decide), mu_ne (by decide), mu_ne (by decide), mu_ne (by decide), h3, hG, xwp_n hnb (by decide), mu_ne (by decide), mu_ne (by decide), mu_ne (by decide), mu_ne (by decide), mu_ne (by decide), mu_ne (by decide), h3, xl_eq, nI_1, xl_eq]
  · rw [mu_ne (by decide), mu_ne (by decide), mu_ne (by decide), mu_ne (by decide), mu_ne (by decide), mu_ne (by decide), mu_eq, upd_eq]
  · refine CHN_frame (fun a h1 h4 i _ => ?_) hC
    rw [mu_ne (by omega), mu_ne (by omega), mu_ne (by omega), mu_ne (by omega), mu_ne (by omega), mu_ne (by omega), mu_ne (by omega)]
  · rw [mu_ne (by decide), mu_ne (by decide), mu_ne (by decide), mu_ne (by decide), mu_ne (by decide), mu_eq, upd_eq]
  · rw [mu_ne (by decide), mu_ne (by decide), mu_ne (by decide), mu_ne (by decide), mu_eq, upd_eq]
  · rw [mu_ne (by decide), mu_ne (by decide), mu_ne (by decide), mu_eq, upd_eq]
  · rw [mu_ne (by decide), mu_ne (by decide), mu_eq, upd_eq]
  · rw [mu_ne (by decide), mu_eq, upd_eq]
  · intro a h5 h0
    rw [mu_ne h0, mu_ne (by omega), mu_ne (by omega), mu_ne (by omega), mu_ne (by omega), mu_ne (by omega), mu_ne (by omega)]
  · intro a h12
    rw [mu_ne (by omega), mu_ne (by omega), mu_ne (by omega), mu_ne (by omega), mu_ne (by omega), mu_ne (by omega), mu_ne (by omega)]
  · intro a h6 h11 i hi
    rw [mu_ne (by omega)]
    have : a = 6 ∨ a = 7 ∨ a = 8 ∨ a = 9 ∨ a = 10 ∨ a = 11 := by omega
    rcases this with rfl | rfl | rfl | rfl | rfl | rfl
    · rw [mu_ne (by decide), mu_ne (by decide), mu_ne (by decide), mu_ne (by decide), mu_ne (by decide), mu_eq, upd_ne (by omega)]
    · rw [mu_ne (by decide), mu_ne (by decide), mu_ne (by decide), mu_ne (by decide), mu_eq, upd_ne (by omega), mu_ne (by decide)]
    · rw [mu_ne (by decide), mu_ne (by decide), mu_ne (by decide), mu_eq, upd_ne (by omega), mu_ne (by decide), mu_ne (by decide)]
    · rw [mu_ne (by decide), mu_ne (by decide), mu_eq, upd_ne (by omega), mu_ne (by decide), mu_ne (by decide), mu_ne (by decide)]
    · rw [mu_ne (by decide), mu_eq, upd_ne (by omega), mu_ne (by decide), mu_ne (by decide), mu_ne (by decide), mu_ne (by decide)]
    · rw [mu_eq, upd_ne (by omega), mu_ne (by decide), mu_ne (by decide), mu_ne (by decide), mu_ne (by decide), mu_ne (by decide)]
  · intro j hj
    rw [mu_eq, upd_ne hj, mu_ne (by decide), mu_ne (by decide), mu_ne (by decide), mu_ne (by decide), mu_ne (by decide), mu_ne (by decide)]
  · rw [mu_eq, upd_eq]
