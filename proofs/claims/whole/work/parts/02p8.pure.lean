/-! ===== terms that may stand ===== -/
def aco (so : Nat → Nat) (l : List Nat) : Prop := ∀ c ∈ l, 512 ≤ c → so (c / 512 - 1) ≠ 3 ∧ (so (c / 512 - 1) = 2 → 2 ≤ ar c)
def okt (so : Nat → Nat) (t : List Nat) : Prop := wf 1 t ∧ col t ∧ aco so t
def okts (so : Nat → Nat) (ts : List (List Nat)) : Prop := ∀ t ∈ ts, okt so t
/-- units are free operators without parts -/
def SU (so : Nat → Nat) (un : Nat → Option Nat) : Prop := ∀ o u : Nat, o < 10 ∧ so o ≠ 3 → un o = some u → u < 10 ∧ so u = 0
theorem okts_wfs {so : Nat → Nat} {ts : List (List Nat)} (h : okts so ts) : wfs ts := fun t ht => (h t ht).1
theorem okts_cons {so : Nat → Nat} {t : List Nat} {ts : List (List Nat)} : okts so (t :: ts) ↔ okt so t ∧ okts so ts := by unfold okts; exact List.forall_mem_cons
theorem okts_app {so : Nat → Nat} {ts us : List (List Nat)} : okts so (ts ++ us) ↔ okts so ts ∧ okts so us := by unfold okts; exact List.forall_mem_append
theorem okts_nil {so : Nat → Nat} : okts so [] := fun _ h => absurd h List.not_mem_nil
theorem col_flat {ts : List (List Nat)} : col ts.flatten ↔ ∀ t ∈ ts, col t := by
  unfold col
  simp only [List.mem_flatten]
  exact ⟨fun h t ht c hc => h c ⟨t, ht, hc⟩, fun h c ⟨t, ht, hc⟩ => h t ht c hc⟩
theorem aco_flat {so : Nat → Nat} {ts : List (List Nat)} : aco so ts.flatten ↔ ∀ t ∈ ts, aco so t := by
  unfold aco
  simp only [List.mem_flatten]
  exact ⟨fun h t ht c hc => h c ⟨t, ht, hc⟩, fun h c ⟨t, ht, hc⟩ => h t ht c hc⟩
theorem okts_flat {so : Nat → Nat} {ts : List (List Nat)} (h : okts so ts) : col ts.flatten ∧ aco so ts.flatten := ⟨col_flat.mpr (fun t ht => (h t ht).2.1), aco_flat.mpr (fun t ht => (h t ht).2.2)⟩
theorem okt_pts {so : Nat → Nat} {t : List Nat} (h : okt so t) : okts so (pts t) := by
  cases t with
  | nil => exact absurd (wf_pos h.1) (by simp)
  | cons c l =>
    obtain ⟨h1, h2, h3⟩ := pts_of h.1
    have hc := (col_cons.mp h.2.1).2
    rw [← h3] at hc
    have ha : aco so (pts (c :: l)).flatten := by rw [h3]; exact fun d hd => h.2.2 d (List.mem_cons_of_mem _ hd)
    exact fun t ht => ⟨h1 t ht, col_flat.mp hc t ht, aco_flat.mp ha t ht⟩
theorem flat1_okts {so : Nat → Nat} {un : Nat → Option Nat} {op : Nat} {t : List Nat} (h : okt so t) : okts so (flat1 so un op t) := by
  have h1 : okts so [t] := fun q hq => by rw [List.mem_singleton.mp hq]; exact h
  unfold flat1
  split
  · split
    · exact okt_pts h
    · split
      · exact okts_nil
      · exact h1
  · exact h1
theorem flats_okts {so : Nat → Nat} {un : Nat → Option Nat} {op : Nat} : ∀ {ts : List (List Nat)}, okts so ts → okts so (flats so un op ts)
  | [], _ => okts_nil
  | t :: ts, h => okts_app.mpr ⟨flat1_okts (okts_cons.mp h).1, flats_okts (okts_cons.mp h).2⟩
theorem flat1_ne {so : Nat → Nat} {un : Nat → Option Nat} {op : Nat} {t : List Nat} (h : okt so t) (hu : un op = none) : flat1 so un op t ≠ [] := by
  unfold flat1
  split
  · rename_i h2
    split
    · rename_i hi
      cases t with
      | nil => exact absurd (wf_pos h.1) (by simp)
      | cons c l =>
        obtain ⟨h1, h3, _⟩ := pts_of h.1
        have hi2 : (decide (512 ≤ c) && decide (c / 512 - 1 = op)) = true := hi
        simp only [Bool.and_eq_true, decide_eq_true_eq] at hi2
        have := (h.2.2 c (List.mem_cons_self ..) hi2.1).2 (by rw [hi2.2]; exact h2)
        intro e
        rw [e] at h3
        simp only [List.length_nil] at h3; omega
    · rw [if_neg (show ¬ isun un op t = true by unfold isun; rw [hu]; simp)]; simp
  · simp
theorem flats_ne {so : Nat → Nat} {un : Nat → Option Nat} {op : Nat} {ts : List (List Nat)} (h : okts so ts) (h0 : ts ≠ []) (hf : flats so un op ts = []) : un op ≠ none := by
  cases ts with
  | nil => exact absurd rfl h0
  | cons t ts =>
    intro hu
    have := flat1_ne (un := un) (op := op) (okts_cons.mp h).1 hu
    have e : flat1 so un op t ++ flats so un op ts = [] := hf
    exact this (List.append_eq_nil_iff.mp e).1
theorem mkt_okt {so : Nat → Nat} {un : Nat → Option Nat} {op : Nat} {ys : List (List Nat)} (hsu : SU so un) (ho : op < 10 ∧ so op ≠ 3) (h : okts so ys) (hn : ys.length < 512) (hu : so op = 2 → ys = [] → un op ≠ none) : okt so (mkt so un op ys) ∧ (mkt so un op ys).length ≤ ys.flatten.length + 1 := by
  have many : (so op = 2 → 2 ≤ ys.length) → okt so (mkt so un op ys) ∧ (mkt so un op ys).length ≤ ys.flatten.length + 1 := by
    intro h2
    rw [mkt_many h2]
    obtain ⟨k1, k2⟩ := okts_flat h
    refine ⟨⟨wf_mk (by rw [ar_code hn]; exact wf_flat (okts_wfs h)), col_cons.mpr ⟨cok_code ho.1 hn, k1⟩, ?_⟩, by simp⟩
    intro c hc
    rcases List.mem_cons.mp hc with g | g
    · subst g
      intro _
      rw [show cdo op ys.length / 512 - 1 = op by unfold cdo; omega, ar_code hn]
      exact ⟨ho.2, h2⟩
    · exact k2 c g
  by_cases q : so op = 2
  · match ys, h, many, hu q with
    | [], _, _, hu2 =>
      cases hun : un op with
      | none => exact absurd hun (hu2 rfl)
      | some u =>
        obtain ⟨u1, u2⟩ := hsu op u ho hun
        rw [mkt_nil q hun]
        refine ⟨⟨wf_mk (by rw [ar_code (by decide)]; rfl), col_cons.mpr ⟨cok_code u1 (by decide), col_nil⟩, ?_⟩, by simp⟩
        intro c hc
        rw [List.mem_singleton.mp hc]
        intro _
        rw [show cdo u 0 / 512 - 1 = u by unfold cdo; omega]; omega
    | [y], h, _, _ =>
      rw [mkt_one q]
      exact ⟨h y (List.mem_singleton.mpr rfl), by simp⟩
    | _ :: _ :: _, _, many, _ => exact many (fun _ => by simp)
  · exact many (fun h9 => absurd h9 q)
theorem stand_okt {so : Nat → Nat} {un : Nat → Option Nat} {op : Nat} {ts : List (List Nat)} (hsu : SU so un) (ho : op < 10 ∧ so op ≠ 3) (h : okts so ts) (h0 : so op = 2 → ts ≠ []) (hN : ts.flatten.length < 512) : okt so (stand so un op ts) ∧ (stand so un op ts).length ≤ ts.flatten.length + 1 := by
  have h1 := flats_okts (un := un) (op := op) h
  obtain ⟨h2, h3⟩ := flats_len (so := so) (un := un) (op := op) (okts_wfs h)
  unfold stand
  split
  · obtain ⟨k1, k2⟩ := mkt_okt hsu ho h1 (by omega) (fun q e => flats_ne h (h0 q) e)
    exact ⟨k1, by omega⟩
  · have hp := srt_perm (flats so un op ts)
    have hl := hp.length_eq
    have hfl := (hp.flatten).length_eq
    obtain ⟨k1, k2⟩ := mkt_okt (un := un) hsu ho (ys := srt (flats so un op ts)) (fun t ht => h1 t (hp.mem_iff.mp ht)) (by omega) (fun q e => flats_ne h (h0 q) (by rw [e] at hl; exact List.length_eq_zero_iff.mp (by simp at hl; omega)))
    exact ⟨k1, by omega⟩
theorem fx_stands_ok2 {n : Nat} {fs fu fp fsp : Nat → Int32} {so : Nat → Nat} {un : Nat → Option Nat} {op from_ : Nat} {ts : List (List Nat)} (hsg : SG fs fu so un) (ho : op < 10 ∧ so op ≠ 3) (hn : 100000 ≤ n) (hl : la fp from_ ts.flatten) (h : okts so ts) (h0 : so op = 2 → ts ≠ []) (hN : ts.flatten.length < 512) (hT : from_ + 2 * ts.flatten.length < 60000) :
    ∃ f' fsp' : Nat → Int32, fx_stands n fs fu fp (nI (from_ + ts.flatten.length)) fsp (nI op) (nI from_) = some (nI from_, f', nI (from_ + (stand so un op ts).length), fsp') ∧ la f' from_ (stand so un op ts) ∧ ∀ i : Nat, i < from_ → f' i = fp i :=
  fx_stands_ok hsg ho hn hl (okts_wfs h) (okts_flat h).1 hN hT (fun q e => flats_ne h (h0 q) e)
/-! ===== too great ===== -/
def big1 (so : Nat → Nat) (c : Nat) : Bool := decide (512 ≤ c) && decide (so (c / 512 - 1) = 2) && decide (6 < ar c)
def great (so : Nat → Nat) (t : List Nat) : Bool := decide (20 < t.length) || t.any (big1 so)
theorem lx_isGreat_ok {n : Nat} {fs fu f : Nat → Int32} {so : Nat → Nat} {un : Nat → Option Nat} {p0 : Int32} (hsg : SG fs fu so un) : ∀ (l : List Nat) (a m : Nat), la f a l → col l ∧ aco so l → a + l.length ≤ 60000 → l.length < m →
    lx_isGreat_18 n fs f p0 m (nI (a + l.length)) (nI a) = some (if l.any (big1 so) then 1 else 0)
  | [], a, m + 1, _, _, _, _ => by
    show bx_isGreat_18 n fs f p0 (lx_isGreat_18 n fs f p0 m) _ _ = _
    unfold bx_isGreat_18
    simp only [List.length_nil, Nat.add_zero, List.any_nil]
    rw [if_pos (Int32.le_refl _)]; rfl
  | c :: l, a, m + 1, hl, hc, ha, hm => by
    simp only [List.length_cons] at ha hm ⊢
    have hcc := cok_lt (col_cons.mp hc.1).1
    have ih := lx_isGreat_ok (n := n) (p0 := p0) hsg l (a + 1) m hl.2 ⟨(col_cons.mp hc.1).2, fun d hd => hc.2 d (List.mem_cons_of_mem _ hd)⟩ (by omega) (by omega)
    show bx_isGreat_18 n fs f p0 (lx_isGreat_18 n fs f p0 m) _ _ = _
    unfold bx_isGreat_18
    rw [if_neg (by rw [nI_le_iff (by omega) (by omega)]; omega), xr_n (by omega) (by decide), hl.1, show (512 : Int32) = nI 512 from rfl, List.any_cons]
    by_cases q : c < 512
    · rw [if_pos (by rw [nI_lt_iff (by omega) (by decide)]; exact q), xl_eq, nI_1, show a + (l.length + 1) = a + 1 + l.length by omega, ih, show big1 so c = false by unfold big1; simp; omega, Bool.false_or]
    · have ho : c / 512 - 1 < 10 ∧ so (c / 512 - 1) ≠ 3 := ⟨by omega, (hc.2 c (List.mem_cons_self ..) (by omega)).1⟩
      have hso := hsg _ ho
      rw [if_neg (by rw [nI_lt_iff (by omega) (by decide)]; exact q), fx_operatorAt_ok hl.1 hcc (by omega), xb1_s, opI_op (by omega), xr_n ho.1 (by decide), hso.1, show (2 : Int32) = nI 2 from rfl]
      by_cases q2 : so (c / 512 - 1) = 2
      · rw [if_pos (by rw [nI_inj (by omega) (by decide)]; exact q2), fx_partsAt_ok hl.1 hcc (by omega), xb1_s, show (6 : Int32) = nI 6 from rfl]
        have := ar_lt (c := c)
        by_cases q3 : ar c ≤ 6
        · rw [if_pos (by rw [nI_le_iff (by omega) (by decide)]; exact q3), xl_eq, nI_1, show a + (l.length + 1) = a + 1 + l.length by omega, ih, show big1 so c = false by unfold big1; simp; omega, Bool.false_or]
        · rw [if_neg (by rw [nI_le_iff (by omega) (by decide)]; exact q3), show big1 so c = true by unfold big1; simp [q2]; omega, Bool.true_or]; rfl
      · rw [if_neg (by rw [nI_inj (by omega) (by decide)]; exact q2), xl_eq, nI_1, show a + (l.length + 1) = a + 1 + l.length by omega, ih, show big1 so c = false by unfold big1; simp [q2], Bool.false_or]
theorem fx_isGreat_ok {n : Nat} {fs fu f : Nat → Int32} {so : Nat → Nat} {un : Nat → Option Nat} {l : List Nat} {a : Nat} (hsg : SG fs fu so un) (hl : la f a l) (hw : wf 1 l) (hc : col l ∧ aco so l) (ha : a + l.length ≤ 60000) (hn : 100000 ≤ n) : fx_isGreat n fs f (nI a) = some (if great so l then 1 else 0) := by
  unfold fx_isGreat
  rw [fx_behind_ok hl hw hc.1 ha hn, xb1_s, xl_eq, nI_sub (by omega), show a + l.length - a = l.length by omega, show (20 : Int32) = nI 20 from rfl]
  unfold great
  by_cases q : l.length ≤ 20
  · rw [if_pos (by rw [nI_le_iff (by omega) (by decide)]; exact q), lx_isGreat_ok hsg l a n hl hc ha (by omega), show decide (20 < l.length) = false by simp; omega, Bool.false_or]
  · rw [if_neg (by rw [nI_le_iff (by omega) (by decide)]; exact q), show decide (20 < l.length) = true by simp; omega, Bool.true_or]; rfl
