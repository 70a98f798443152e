/-! ===== terms as they stand: normal rows ===== -/
def nfT (so : Nat → Nat) (un : Nat → Option Nat) : Nat → List Nat → Prop
  | 0, _ => False
  | d + 1, t => match t with
    | [] => False
    | c :: l => ar c = 0 ∨ (stand so un (c / 512 - 1) (pts (c :: l)) = c :: l ∧ ∀ q ∈ pts (c :: l), nfT so un d q)
def nf (so : Nat → Nat) (un : Nat → Option Nat) (t : List Nat) : Prop := ∃ d : Nat, nfT so un d t
theorem nfT_mono {so : Nat → Nat} {un : Nat → Option Nat} : ∀ {d e : Nat} {t : List Nat}, nfT so un d t → d ≤ e → nfT so un e t
  | 0, _, _, h, _ => h.elim
  | d + 1, 0, _, _, h => absurd h (by omega)
  | d + 1, e + 1, [], h, _ => h.elim
  | d + 1, e + 1, c :: l, h, hd => by
    rcases h with h | ⟨h1, h2⟩
    · exact Or.inl h
    · exact Or.inr ⟨h1, fun q hq => nfT_mono (h2 q hq) (by omega)⟩
theorem nf_leaf {so : Nat → Nat} {un : Nat → Option Nat} {c : Nat} {l : List Nat} (h : ar c = 0) : nf so un (c :: l) := ⟨1, Or.inl h⟩
theorem nf_all {so : Nat → Nat} {un : Nat → Option Nat} : ∀ {ts : List (List Nat)}, (∀ q ∈ ts, nf so un q) → ∃ d : Nat, ∀ q ∈ ts, nfT so un d q
  | [], _ => ⟨0, fun _ h => absurd h List.not_mem_nil⟩
  | t :: ts, h => by
    obtain ⟨d, hd⟩ := h t (List.mem_cons_self ..)
    obtain ⟨e, he⟩ := nf_all (ts := ts) (fun q hq => h q (List.mem_cons_of_mem _ hq))
    refine ⟨d + e, fun q hq => ?_⟩
    rcases List.mem_cons.mp hq with g | g
    · rw [g]; exact nfT_mono hd (by omega)
    · exact nfT_mono (he q g) (by omega)
theorem nf_mk {so : Nat → Nat} {un : Nat → Option Nat} {c : Nat} {l : List Nat} (h1 : stand so un (c / 512 - 1) (pts (c :: l)) = c :: l) (h2 : ∀ q ∈ pts (c :: l), nf so un q) : nf so un (c :: l) := by
  obtain ⟨d, hd⟩ := nf_all h2
  exact ⟨d + 1, Or.inr ⟨h1, hd⟩⟩
theorem nf_std {so : Nat → Nat} {un : Nat → Option Nat} {c : Nat} {l : List Nat} (h : nf so un (c :: l)) (ha : ar c ≠ 0) : stand so un (c / 512 - 1) (pts (c :: l)) = c :: l := by
  obtain ⟨d, hd⟩ := h
  cases d with
  | zero => exact hd.elim
  | succ d => rcases hd with h | h
              · exact absurd h ha
              · exact h.1
theorem nf_pts {so : Nat → Nat} {un : Nat → Option Nat} {t : List Nat} (h : nf so un t) : ∀ q ∈ pts t, nf so un q := by
  obtain ⟨d, hd⟩ := h
  cases d with
  | zero => exact hd.elim
  | succ d =>
    cases t with
    | nil => exact hd.elim
    | cons c l =>
      rcases hd with h | h
      · intro q hq
        have : pts (c :: l) = [] := by show kids (ar c) l = []; rw [h]; rfl
        rw [this] at hq; exact absurd hq List.not_mem_nil
      · exact fun q hq => ⟨d, h.2 q hq⟩
def nok (so : Nat → Nat) (un : Nat → Option Nat) (t : List Nat) : Prop := okt so t ∧ nf so un t
def noks (so : Nat → Nat) (un : Nat → Option Nat) (ts : List (List Nat)) : Prop := ∀ t ∈ ts, nok so un t
theorem noks_okts {so : Nat → Nat} {un : Nat → Option Nat} {ts : List (List Nat)} (h : noks so un ts) : okts so ts := fun t ht => (h t ht).1
theorem nok_pts {so : Nat → Nat} {un : Nat → Option Nat} {t : List Nat} (h : nok so un t) : noks so un (pts t) := fun q hq => ⟨okt_pts h.1 q hq, nf_pts h.2 q hq⟩
/-- sorted rows stay as they are -/
theorem srt_id {ys : List (List Nat)} (hw : wfs ys) (h : ys.Pairwise leL) : srt ys = ys := (srt_of hw (List.Perm.refl _) h).symm
theorem srt_srt {ys : List (List Nat)} (hw : wfs ys) : srt (srt ys) = srt ys := srt_id (wfs_perm (srt_perm ys) hw) (srt_sorted hw)
theorem srt_perm_eq {xs ys : List (List Nat)} (hw : wfs ys) (h : xs.Perm ys) : srt xs = srt ys := srt_of hw ((srt_perm xs).trans h) (srt_sorted (wfs_perm h hw))
/-- a row that is no sum of the operator, nor its unit -/
def plain (so : Nat → Nat) (un : Nat → Option Nat) (op : Nat) (q : List Nat) : Prop := flat1 so un op q = [q]
theorem flat1_lt {so : Nat → Nat} {un : Nat → Option Nat} {op : Nat} {q : List Nat} (hw : wf 1 q) (h : ¬ plain so un op q) : (flat1 so un op q).flatten.length < q.length := by
  have hp := wf_pos hw
  unfold plain at h
  unfold flat1 at h ⊢
  split
  · rename_i h1
    rw [if_pos h1] at h
    split
    · cases q with
      | nil => simp at hp
      | cons c l =>
        obtain ⟨_, _, h3⟩ := pts_of hw
        rw [h3]; simp
    · rename_i h2
      rw [if_neg h2] at h
      split
      · simpa using hp
      · rename_i h3
        rw [if_neg h3] at h; exact absurd rfl h
  · rename_i h1
    rw [if_neg h1] at h; exact absurd rfl h
theorem flats_plain {so : Nat → Nat} {un : Nat → Option Nat} {op : Nat} : ∀ {ts : List (List Nat)}, (∀ q ∈ ts, plain so un op q) → flats so un op ts = ts
  | [], _ => rfl
  | t :: ts, h => by
    show flat1 so un op t ++ flats so un op ts = t :: ts
    rw [h t (List.mem_cons_self ..), flats_plain (fun q hq => h q (List.mem_cons_of_mem _ hq))]; rfl
theorem flats_full {so : Nat → Nat} {un : Nat → Option Nat} {op : Nat} : ∀ {ts : List (List Nat)}, wfs ts → ts.flatten.length ≤ (flats so un op ts).flatten.length → ∀ q ∈ ts, plain so un op q
  | [], _, _, q, hq => absurd hq List.not_mem_nil
  | t :: ts, hw, h, q, hq => by
    have hw1 := hw t (List.mem_cons_self ..)
    have hw2 : wfs ts := fun z hz => hw z (List.mem_cons_of_mem _ hz)
    have h' : (t ++ ts.flatten).length ≤ (flat1 so un op t ++ flats so un op ts).flatten.length := h
    rw [List.length_append, List.flatten_append, List.length_append] at h'
    have l1 := (flat1_len (so := so) (un := un) (op := op) hw1).2
    have l2 := (flats_len (so := so) (un := un) (op := op) hw2).2
    rcases List.mem_cons.mp hq with g | g
    · rw [g]
      exact Classical.byContradiction (fun hn => by have := flat1_lt hw1 hn; omega)
    · exact flats_full hw2 (by omega) q g
theorem isop_head {op c : Nat} {l : List Nat} (h : isop op (c :: l) = true) : 512 ≤ c ∧ c / 512 - 1 = op := by
  have h' : (decide (512 ≤ c) && decide (c / 512 - 1 = op)) = true := h
  simpa using h'
theorem cdo_of {c op : Nat} (h : 512 ≤ c) (ho : c / 512 - 1 = op) : c = cdo op (ar c) := by
  unfold cdo ar; rw [if_neg (by omega)]; omega
/-- a sum as it stands: its parts are plain and in order -/
theorem nf_sum {so : Nat → Nat} {un : Nat → Option Nat} {op : Nat} {t : List Nat} (hsu : SU so un) (ho : op < 10 ∧ so op ≠ 3) (h2 : so op = 2) (h : nok so un t) (hi : isop op t = true) (hN : t.length < 512) :
    (∀ q ∈ pts t, plain so un op q) ∧ srt (pts t) = pts t ∧ 2 ≤ (pts t).length ∧ mkt so un op (pts t) = t := by
  cases t with
  | nil => exact absurd (wf_pos h.1.1) (by simp)
  | cons c l =>
    obtain ⟨q1, q2⟩ := isop_head hi
    obtain ⟨k1, k2, k3⟩ := pts_of h.1.1
    have har : 2 ≤ ar c := (h.1.2.2 c (List.mem_cons_self ..) q1).2 (by rw [q2]; exact h2)
    have hst := nf_std h.2 (by omega)
    rw [q2] at hst
    simp only [List.length_cons] at hN
    have hfl := flats_len (so := so) (un := un) (op := op) k1
    rw [k3] at hfl
    have hfo := flats_okts (un := un) (op := op) (okt_pts h.1)
    have hp := srt_perm (flats so un op (pts (c :: l)))
    have hpl := hp.length_eq
    have hpf := hp.flatten.length_eq
    have hwy : wfs (srt (flats so un op (pts (c :: l)))) := wfs_perm hp (okts_wfs hfo)
    unfold stand at hst
    rw [if_neg (by omega)] at hst
    have key : srt (flats so un op (pts (c :: l))) = pts (c :: l) := by
      generalize hys : srt (flats so un op (pts (c :: l))) = ys at hst hpl hpf hwy
      match ys, hst, hpl, hpf, hwy with
      | [], hst, hpl, _, _ =>
        exfalso
        cases hun : un op with
        | none =>
          unfold mkt at hst
          rw [if_pos h2, hun] at hst; simp at hst
        | some u =>
          rw [mkt_nil h2 hun] at hst
          have e := (List.cons.inj hst).1
          have := ar_code (op := u) (n := 0) (by decide)
          rw [e] at this; omega
      | [y], hst, _, hpf, _ =>
        exfalso
        rw [mkt_one h2] at hst
        rw [hst, List.flatten_cons, List.flatten_nil, List.append_nil, List.length_cons] at hpf; omega
      | y :: z :: ys, hst, hpl, _, hwy =>
        rw [mkt_many (fun _ => by simp)] at hst
        rw [← hst]
        exact (pts_mk hwy (ar_code (by omega))).symm
    have hpm : (flats so un op (pts (c :: l))).Perm (pts (c :: l)) := by
      have := hp.symm
      rw [key] at this; exact this
    have hpll : ∀ q ∈ pts (c :: l), plain so un op q := flats_full k1 (by rw [hpm.flatten.length_eq]; exact Nat.le_refl _)
    refine ⟨hpll, ?_, by omega, ?_⟩
    · rw [flats_plain hpll] at key; exact key
    · rw [key] at hst; exact hst
theorem isun_row {so : Nat → Nat} {un : Nat → Option Nat} {op : Nat} {t : List Nat} (h : wf 1 t) (hu : isun un op t = true) : ∃ u : Nat, un op = some u ∧ t = [cdo u 0] := by
  cases t with
  | nil => exact absurd (wf_pos h) (by simp)
  | cons c l =>
    cases hun : un op with
    | none => unfold isun at hu; rw [hun] at hu; simp at hu
    | some u =>
      have e : decide (c = cdo u 0) = true := by unfold isun at hu; rw [hun] at hu; exact hu
      have e2 : c = cdo u 0 := by simpa using e
      subst e2
      have hw := wf_cons h
      rw [ar_code (by decide)] at hw
      cases l with
      | nil => exact ⟨u, rfl, rfl⟩
      | cons d l => exact absurd hw.1 (Nat.lt_irrefl 0)
/-- the parts of a term as a sum of an operator -/
theorem nf_as {so : Nat → Nat} {un : Nat → Option Nat} {op : Nat} {t : List Nat} (hsu : SU so un) (ho : op < 10 ∧ so op ≠ 3) (h2 : so op = 2) (h : nok so un t) (hN : t.length < 512) :
    (∀ q ∈ flat1 so un op t, plain so un op q) ∧ srt (flat1 so un op t) = flat1 so un op t ∧ mkt so un op (flat1 so un op t) = t ∧ noks so un (flat1 so un op t) := by
  by_cases hi : isop op t = true
  · have e : flat1 so un op t = pts t := by unfold flat1; rw [if_pos h2, if_pos hi]
    obtain ⟨k1, k2, _, k4⟩ := nf_sum hsu ho h2 h hi hN
    rw [e]; exact ⟨k1, k2, k4, nok_pts h⟩
  · by_cases hu : isun un op t = true
    · have e : flat1 so un op t = [] := by unfold flat1; rw [if_pos h2, if_neg hi, if_pos hu]
      obtain ⟨u, u1, u2⟩ := isun_row (so := so) h.1.1 hu
      rw [e]
      exact ⟨fun q hq => absurd hq List.not_mem_nil, rfl, by rw [mkt_nil h2 u1, u2], fun q hq => absurd hq List.not_mem_nil⟩
    · have e : flat1 so un op t = [t] := by unfold flat1; rw [if_pos h2, if_neg hi, if_neg hu]
      rw [e]
      exact ⟨fun q hq => by rw [List.mem_singleton.mp hq]; exact e, rfl, mkt_one h2, fun q hq => by rw [List.mem_singleton.mp hq]; exact h⟩
theorem flats_as {so : Nat → Nat} {un : Nat → Option Nat} {op : Nat} (hsu : SU so un) (ho : op < 10 ∧ so op ≠ 3) (h2 : so op = 2) : ∀ {ts : List (List Nat)}, noks so un ts → ts.flatten.length < 512 → (∀ q ∈ flats so un op ts, plain so un op q) ∧ noks so un (flats so un op ts)
  | [], _, _ => ⟨fun q hq => absurd hq List.not_mem_nil, fun q hq => absurd hq List.not_mem_nil⟩
  | t :: ts, h, hN => by
    rw [List.flatten_cons, List.length_append] at hN
    obtain ⟨k1, _, _, k4⟩ := nf_as hsu ho h2 (h t (List.mem_cons_self ..)) (by omega)
    obtain ⟨r1, r2⟩ := flats_as hsu ho h2 (ts := ts) (fun z hz => h z (List.mem_cons_of_mem _ hz)) (by omega)
    constructor
    · intro q hq
      rcases List.mem_append.mp hq with g | g
      · exact k1 q g
      · exact r1 q g
    · intro q hq
      rcases List.mem_append.mp hq with g | g
      · exact k4 q g
      · exact r2 q g
/-- parts of what is made of plain rows in order -/
theorem flat1_mkt {so : Nat → Nat} {un : Nat → Option Nat} {op : Nat} {ys : List (List Nat)} (hsu : SU so un) (ho : op < 10 ∧ so op ≠ 3) (h2 : so op = 2) (hp : ∀ q ∈ ys, plain so un op q) (hw : wfs ys) (hn : ys.length < 512) (hu : ys = [] → un op ≠ none) : flat1 so un op (mkt so un op ys) = ys := by
  match ys, hp, hw, hu with
  | [], _, _, hu =>
    cases hun : un op with
    | none => exact absurd hun (hu rfl)
    | some u =>
      obtain ⟨u1, u2⟩ := hsu op u ho hun
      rw [mkt_nil h2 hun]
      have hne : u ≠ op := fun e => by rw [e] at u2; omega
      unfold flat1
      rw [if_pos h2, if_neg (fun h => hne (by have := (isop_head h).2; unfold cdo at this; omega)), if_pos (by unfold isun; rw [hun]; simp)]
  | [y], hp, _, _ =>
    rw [mkt_one h2]; exact hp y (List.mem_singleton.mpr rfl)
  | y :: z :: ys, _, hw, _ =>
    rw [mkt_many (fun _ => by simp)]
    unfold flat1
    rw [if_pos h2, if_pos (show isop op (cdo op (y :: z :: ys).length :: (y :: z :: ys).flatten) = true by
      show (decide (512 ≤ cdo op _) && decide (cdo op _ / 512 - 1 = op)) = true
      unfold cdo; simp only [Bool.and_eq_true, decide_eq_true_eq]; omega)]
    exact pts_mk hw (ar_code hn)
theorem stand_nf {so : Nat → Nat} {un : Nat → Option Nat} {op : Nat} {ts : List (List Nat)} (hsu : SU so un) (ho : op < 10 ∧ so op ≠ 3) (h : noks so un ts) (h0 : ts ≠ []) (hN : ts.flatten.length < 512) : nok so un (stand so un op ts) := by
  obtain ⟨o1, o2⟩ := stand_okt (un := un) hsu ho (noks_okts h) (fun _ => h0) hN
  refine ⟨o1, ?_⟩
  have hw := okts_wfs (noks_okts h)
  by_cases h2 : so op = 2
  · obtain ⟨k1, k2⟩ := flats_as hsu ho h2 h hN
    obtain ⟨l1, l2⟩ := flats_len (so := so) (un := un) (op := op) hw
    have hp := srt_perm (flats so un op ts)
    have hwf := okts_wfs (noks_okts k2)
    have hws := wfs_perm hp hwf
    have e : stand so un op ts = mkt so un op (srt (flats so un op ts)) := by unfold stand; rw [if_neg (by omega)]
    rw [e]
    have hpl := hp.length_eq
    have hss := srt_srt hwf
    have hps : ∀ q ∈ srt (flats so un op ts), plain so un op q := fun q hq => k1 q (hp.mem_iff.mp hq)
    have hns : ∀ q ∈ srt (flats so un op ts), nf so un q := fun q hq => (k2 q (hp.mem_iff.mp hq)).2
    have hne : srt (flats so un op ts) = [] → un op ≠ none := fun q => flats_ne (noks_okts h) h0 (by rw [q] at hpl; exact List.length_eq_zero_iff.mp (by simp at hpl; omega))
    generalize srt (flats so un op ts) = ys at *
    match ys, hps, hns, hws, hss, hne, hpl with
    | [], _, _, _, _, hne, _ =>
      cases hun : un op with
      | none => exact absurd hun (hne rfl)
      | some u => rw [mkt_nil h2 hun]; exact nf_leaf (ar_code (by decide))
    | [y], _, hns, _, _, _, _ => rw [mkt_one h2]; exact hns y (List.mem_singleton.mpr rfl)
    | y :: z :: ys, hps, hns, hws, hss, _, hpl =>
      have em : mkt so un op (y :: z :: ys) = cdo op (y :: z :: ys).length :: (y :: z :: ys).flatten := mkt_many (fun _ => by simp)
      rw [em]
      have hpt : pts (cdo op (y :: z :: ys).length :: (y :: z :: ys).flatten) = y :: z :: ys := pts_mk hws (ar_code (by omega))
      refine nf_mk ?_ (by rw [hpt]; exact hns)
      rw [hpt, show cdo op (y :: z :: ys).length / 512 - 1 = op by unfold cdo; omega]
      unfold stand
      rw [if_neg (by omega), flats_plain hps, hss, em]
  · have hf : flats so un op ts = ts := flats_plain (fun q _ => by unfold plain flat1; rw [if_neg h2])
    unfold stand
    rw [hf]
    have big : ∀ ys : List (List Nat), wfs ys → ys.Perm ts → (so op = 0 ∨ srt ys = ys) → nf so un (mkt so un op ys) := by
      intro ys hwy hpy hs
      have hl := hpy.length_eq
      have hlt := wf_len (wf_flat hw)
      rw [mkt_many (fun q => absurd q h2)]
      have hpt : pts (cdo op ys.length :: ys.flatten) = ys := pts_mk hwy (ar_code (by omega))
      refine nf_mk ?_ (by rw [hpt]; exact fun q hq => (h q (hpy.mem_iff.mp hq)).2)
      rw [hpt, show cdo op ys.length / 512 - 1 = op by unfold cdo; omega]
      have hf2 : flats so un op ys = ys := flats_plain (fun q _ => by unfold plain flat1; rw [if_neg h2])
      unfold stand
      rw [hf2]
      rcases hs with hs | hs
      · rw [if_pos hs, mkt_many (fun q => absurd q h2)]
      · rw [hs, ite_self, mkt_many (fun q => absurd q h2)]
    split
    · rename_i h3; exact big ts hw (List.Perm.refl _) (Or.inl h3)
    · exact big (srt ts) (wfs_perm (srt_perm ts) hw) (srt_perm ts) (Or.inr (srt_srt hw))
/-- when parts make a term -/
theorem stand_eq {so : Nat → Nat} {un : Nat → Option Nat} {op : Nat} {ts : List (List Nat)} {t : List Nat} (hsu : SU so un) (ho : op < 10 ∧ so op ≠ 3) (h2 : so op = 2) (h : noks so un ts) (h0 : ts ≠ []) (hN : ts.flatten.length < 512) (ht : nok so un t) (htN : t.length < 512) : stand so un op ts = t ↔ (flats so un op ts).Perm (flat1 so un op t) := by
  obtain ⟨k1, k2⟩ := flats_as hsu ho h2 h hN
  have hwf := okts_wfs (noks_okts k2)
  have hp := srt_perm (flats so un op ts)
  obtain ⟨l1, _⟩ := flats_len (so := so) (un := un) (op := op) (okts_wfs (noks_okts h))
  have e : stand so un op ts = mkt so un op (srt (flats so un op ts)) := by unfold stand; rw [if_neg (by omega)]
  have hfs : flat1 so un op (stand so un op ts) = srt (flats so un op ts) := by
    rw [e]
    exact flat1_mkt hsu ho h2 (fun q hq => k1 q (hp.mem_iff.mp hq)) (wfs_perm hp hwf) (by rw [hp.length_eq]; omega) (fun q => flats_ne (noks_okts h) h0 (by have := hp.length_eq; rw [q] at this; exact List.length_eq_zero_iff.mp (by simp at this; omega)))
  constructor
  · intro q
    rw [← q, hfs]; exact hp.symm
  · intro q
    obtain ⟨_, a2, a3, a4⟩ := nf_as hsu ho h2 ht htN
    rw [e, srt_perm_eq (okts_wfs (noks_okts a4)) q, a2, a3]
