/-! ===== steps: some parts of a sum; a step's row compared ===== -/
theorem hbit : ∀ s : Fin 64, ∀ k : Fin 6, (((nI s.val >>> (nI k.val &&& 31)) &&& 1) = 1) ↔ (s.val.testBit k.val = true) := by decide +kernel
theorem fx_holds_bit {n s k : Nat} (hs : s < 64) (hk : k < 6) : fx_holds n (nI s) (nI k) = some (if s.testBit k then 1 else 0) := by
  have h := hbit ⟨s, hs⟩ ⟨k, hk⟩
  unfold fx_holds
  rw [xl_eq, xl_eq]
  by_cases q : s.testBit k = true
  · rw [if_pos (h.mpr q), if_pos q]
  · rw [if_neg (fun h9 => q (h.mp h9)), if_neg q]
/-- those of some rows whose bits are (not) set -/
def sel (s : Nat) (o : Bool) : Nat → List (List Nat) → List (List Nat)
  | _, [] => []
  | k, q :: qs => if s.testBit k = o then sel s o (k + 1) qs else q :: sel s o (k + 1) qs
def ob (o : Bool) : Int32 := if o then 1 else 0
theorem ob_eq {b o : Bool} : (if b then (1 : Int32) else 0) = ob o ↔ b = o := by
  unfold ob; cases b <;> cases o <;> decide
theorem lx_sumOf_ok {n s K : Nat} {p0 : Int32} {o : Bool} {so : Nat → Nat} (hn : 100000 ≤ n) (hs : s < 64) (hK : K ≤ 6) : ∀ (qs : List (List Nat)) (xa j m top : Nat) (f : Nat → Int32), la f xa qs.flatten → okts so qs → xa + qs.flatten.length ≤ top → top + qs.flatten.length ≤ 60000 → j + qs.length = K → qs.length < m →
    lx_sumOf_15 n p0 (nI s) (ob o) m (nI K) (nI xa) (nI j) f (nI top) = some (put f top (sel s o j qs).flatten, nI (top + (sel s o j qs).flatten.length))
  | [], xa, j, m + 1, top, f, _, _, _, _, hj, _ => by
    simp only [List.length_nil, Nat.add_zero] at hj
    show bx_sumOf_15 n p0 (nI s) (ob o) (lx_sumOf_15 n p0 (nI s) (ob o) m) _ _ _ _ _ = _
    unfold bx_sumOf_15
    rw [hj, if_pos (Int32.le_refl _)]; rfl
  | q :: qs, xa, j, m + 1, top, f, hl, ho, h1, h2, hj, hm => by
    rw [List.flatten_cons] at hl h1 h2
    rw [List.length_append] at h1 h2
    simp only [List.length_cons] at hj hm
    have hlq := la_app.mp hl
    have hq := (okts_cons.mp ho).1
    show bx_sumOf_15 n p0 (nI s) (ob o) (lx_sumOf_15 n p0 (nI s) (ob o) m) _ _ _ _ _ = _
    unfold bx_sumOf_15
    rw [if_neg (by rw [nI_le_iff (by omega) (by omega)]; omega), fx_behind_ok hlq.1 hq.1 hq.2.1 (by omega) hn, xb1_s, fx_holds_bit hs (by omega), xb1_s]
    show _ = some (put f top (if s.testBit j = o then sel s o (j + 1) qs else q :: sel s o (j + 1) qs).flatten, nI (top + (if s.testBit j = o then sel s o (j + 1) qs else q :: sel s o (j + 1) qs).flatten.length))
    by_cases qb : s.testBit j = o
    · rw [if_pos (ob_eq.mpr qb), if_pos qb, xl_eq, nI_1]
      exact lx_sumOf_ok hn hs hK qs (xa + q.length) (j + 1) m top f hlq.2 (okts_cons.mp ho).2 (by omega) (by omega) (by omega) (by omega)
    · rw [if_neg (fun h9 => qb (ob_eq.mp h9)), if_neg qb, fx_copies_ok hlq.1 hq.1 hq.2.1 (by omega) (by omega) hn, xb3_s, xl_eq, nI_1]
      rw [lx_sumOf_ok hn hs hK qs (xa + q.length) (j + 1) m (top + q.length) (put f top q) (la_put (Or.inl (by omega)) hlq.2) (okts_cons.mp ho).2 (by omega) (by omega) (by omega) (by omega), List.flatten_cons, put_app, List.length_append, Nat.add_assoc]
theorem fx_sumOf_ok {n s a top : Nat} {o : Bool} {so : Nat → Nat} {f : Nat → Int32} {t : List Nat} (hn : 100000 ≤ n) (hs : s < 64) (hl : la f a t) (h : okt so t) (hK : (pts t).length ≤ 6) (h1 : a + t.length ≤ top) (h2 : top + t.length ≤ 60000) : fx_sumOf n f (nI top) (nI a) (nI s) (ob o) = some (put f top (sel s o 0 (pts t)).flatten, nI (top + (sel s o 0 (pts t)).flatten.length)) := by
  cases t with
  | nil => exact absurd (wf_pos h.1) (by simp)
  | cons c l =>
    simp only [List.length_cons] at h1 h2
    have hcc := cok_lt (col_cons.mp h.2.1).1
    obtain ⟨k1, k2, k3⟩ := pts_of h.1
    unfold fx_sumOf
    rw [fx_partsAt_ok hl.1 hcc (by omega), xb1_s, xl_eq, nI_1, ← k2]
    exact lx_sumOf_ok hn hs hK (pts (c :: l)) (a + 1) 0 n top f (by rw [k3]; exact hl.2) (okt_pts h) (by rw [k3]; omega) (by rw [k3]; omega) (by omega) (by omega)
theorem lx_comparesStep_ok {n s a0 : Nat} {f fr : Nat → Int32} (hs : s ≤ 200) : ∀ (r q : List Nat) (k j m : Nat), la fr (21 * s + j) r → la f (a0 + j) q → wf k r → wf k q → col r → col q → j + r.length ≤ 21 → j + q.length ≤ 21 → a0 + 21 ≤ 60000 → q.length < m →
    lx_comparesStep_9 n f fr (nI s) (nI a0) m (nI (a0 + j + q.length)) (nI (a0 + j)) = some (cmpL r q)
  | r, [], k, j, m + 1, _, _, hr, hq, _, _, _, _, _, _ => by
    have e : k = 0 := hq
    subst e
    cases r with
    | nil =>
      show bx_comparesStep_9 n f fr (nI s) (nI a0) (lx_comparesStep_9 n f fr (nI s) (nI a0) m) _ _ = _
      unfold bx_comparesStep_9
      simp only [List.length_nil, Nat.add_zero]
      rw [if_pos (Int32.le_refl _)]; rfl
    | cons c r => exact absurd hr.1 (Nat.lt_irrefl 0)
  | [], d :: q, k, j, m + 1, _, _, hr, hq, _, _, _, _, _, _ => by
    have e : k = 0 := hr
    have := hq.1; omega
  | c :: r, d :: q, k, j, m + 1, hlr, hlq, hr, hq, hcr, hcq, h1, h2, h3, hm => by
    simp only [List.length_cons] at h1 h2 hm ⊢
    have hc := cok_lt (col_cons.mp hcr).1
    have hd := cok_lt (col_cons.mp hcq).1
    have hlr2 : la fr (21 * s + (j + 1)) r := by rw [show 21 * s + (j + 1) = 21 * s + j + 1 by omega]; exact hlr.2
    have hlq2 : la f (a0 + (j + 1)) q := by rw [show a0 + (j + 1) = a0 + j + 1 by omega]; exact hlq.2
    show bx_comparesStep_9 n f fr (nI s) (nI a0) (lx_comparesStep_9 n f fr (nI s) (nI a0) m) _ _ = _
    unfold bx_comparesStep_9
    have e1 : 21 * s + (a0 + j) - a0 = 21 * s + j := by omega
    rw [if_neg (by rw [nI_le_iff (by omega) (by omega)]; omega), xl_eq, show (21 : Int32) = nI 21 from rfl, nI_mul (by omega) (by decide) (by omega), xl_eq, nI_add, xl_eq, nI_sub (by omega), e1, xr_n (by omega) (by decide), hlr.1, xr_n (by omega) (by decide), hlq.1]
    show _ = some (if c = d then cmpL r q else if c < d then -1 else 1)
    by_cases e : c = d
    · subst e
      rw [if_pos rfl, if_pos rfl, xl_eq, nI_1, show a0 + j + (q.length + 1) = a0 + (j + 1) + q.length by omega, show a0 + j + 1 = a0 + (j + 1) by omega]
      exact lx_comparesStep_ok hs r q (k - 1 + ar c) (j + 1) m hlr2 hlq2 hr.2 hq.2 (col_cons.mp hcr).2 (col_cons.mp hcq).2 (by omega) (by omega) h3 (by omega)
    · rw [if_neg (by rw [nI_inj (by omega) (by omega)]; exact e), if_neg e, xl_eq, xl_eq, xl_eq, nI_add, nI_sub (by omega), e1, xr_n (by omega) (by decide), hlr.1, xr_n (by omega) (by decide), hlq.1]
      by_cases e2 : c < d
      · rw [if_neg (by rw [nI_le_iff (by omega) (by omega)]; omega), if_pos e2]
      · rw [if_pos (by rw [nI_le_iff (by omega) (by omega)]; omega), if_neg e2]
theorem fx_comparesStep_ok {n s a : Nat} {f fr : Nat → Int32} {r q : List Nat} (hs : s ≤ 200) (hn : 100000 ≤ n) (h1 : la fr (21 * s) r) (h2 : la f a q) (hr : wf 1 r) (hq : wf 1 q) (hcr : col r) (hcq : col q) (hl1 : r.length ≤ 20) (hl2 : q.length ≤ 20) (ha : a + 21 ≤ 60000) : fx_comparesStep n f fr (nI s) (nI a) = some (cmpL r q) := by
  unfold fx_comparesStep
  rw [fx_behind_ok h2 hq hcq (by omega) hn, xb1_s]
  exact lx_comparesStep_ok hs r q 1 0 n h1 h2 hr hq hcr hcq (by omega) (by omega) ha (by omega)
/-! ===== a step put in its place ===== -/
abbrev ARes := Option (Int32 × (Nat → Int32) × (Nat → Int32) × (Nat → Int32) × Int32)
/-- its row is written -/
theorem lx_addsStep_255_ok {n : Nat} {fs fp : Nat → Int32} {p0 p1 p3 tm : Int32} {fpl fru : Nat → Int32} {a to M : Nat} (hto : to ≤ 200) : ∀ (l : List Nat) (j m : Nat) (fr : Nat → Int32), la fp (a + j) l → j + l.length ≤ 21 → a + 21 ≤ 60000 → l.length < m →
    lx_addsStep_255 n fs fp p0 p1 (nI a) p3 m (nI to) (nI (a + j + l.length)) (nI (a + j)) tm fpl fru fr (nI M) = some (tm, fpl, fru, put fr (21 * to + j) l, nI (M + 1))
  | [], j, m + 1, fr, _, _, _, _ => by
    show bx_addsStep_255 n fs fp p0 p1 (nI a) p3 (lx_addsStep_255 n fs fp p0 p1 (nI a) p3 m) _ _ _ _ _ _ _ _ = _
    unfold bx_addsStep_255
    simp only [List.length_nil, Nat.add_zero]
    rw [if_pos (Int32.le_refl _), xl_eq, nI_1]; rfl
  | c :: l, j, m + 1, fr, hl, hj, ha, hm => by
    simp only [List.length_cons] at hj hm ⊢
    have e1 : 21 * to + (a + j) - a = 21 * to + j := by omega
    have hl2 : la fp (a + (j + 1)) l := by rw [show a + (j + 1) = a + j + 1 by omega]; exact hl.2
    show bx_addsStep_255 n fs fp p0 p1 (nI a) p3 (lx_addsStep_255 n fs fp p0 p1 (nI a) p3 m) _ _ _ _ _ _ _ _ = _
    unfold bx_addsStep_255
    rw [if_neg (by rw [nI_le_iff (by omega) (by omega)]; omega), xl_eq, show (21 : Int32) = nI 21 from rfl, nI_mul (by omega) (by decide) (by omega), xl_eq, nI_add, xl_eq, nI_sub (by omega), e1, xr_n (by omega) (by decide), hl.1, xw_n (by omega) (by decide), xl_eq, nI_1, show a + j + (l.length + 1) = a + (j + 1) + l.length by omega, show a + j + 1 = a + (j + 1) by omega]
    rw [lx_addsStep_255_ok hto l (j + 1) m (upd fr (21 * to + j) (nI c)) hl2 (by omega) ha (by omega)]; rfl
/-- the rows behind it go up -/
theorem lx_addsStep_196_ok {n : Nat} {fs fp : Nat → Int32} {p0 p1 p3 tm : Int32} {fpl fru : Nat → Int32} {a to M : Nat} {q : List Nat} (hto : to ≤ 200) (hn : 100000 ≤ n) (hq : la fp a q) (hw : wf 1 q) (hc : col q) (hl : q.length ≤ 20) (ha : a + 21 ≤ 60000) : ∀ (k y m : Nat) (fr : Nat → Int32), y = 21 * to + k → y + 21 ≤ 4221 → k < m →
    ∃ fr' : Nat → Int32, lx_addsStep_196 n fs fp p0 p1 (nI a) p3 m (nI to) (nI y - 1) tm fpl fru fr (nI M) = some (tm, upd fpl to p0, upd fru to p1, put fr' (21 * to) q, nI (M + 1)) ∧ (∀ j : Nat, 21 * to + 21 ≤ j → j < y + 21 → fr' j = fr (j - 21)) ∧ (∀ j : Nat, (j < 21 * to + 21 ∨ y + 21 ≤ j) → fr' j = fr j)
  | 0, y, m + 1, fr, hy, hb', _ => by
    refine ⟨fr, ?_, fun j h1 h2 => by omega, fun _ _ => rfl⟩
    show bx_addsStep_196 n fs fp p0 p1 (nI a) p3 (lx_addsStep_196 n fs fp p0 p1 (nI a) p3 m) _ _ _ _ _ _ _ = _
    unfold bx_addsStep_196
    rw [xl_eq, show (21 : Int32) = nI 21 from rfl, nI_mul (by omega) (by decide) (by omega), if_pos (by
      rw [show 21 * to = y by omega]
      cases y with
      | zero => decide
      | succ y => rw [nI_pred, nI_lt_iff (by omega) (by omega)]; omega), xw_n (by omega) (by decide), xw_n (by omega) (by decide), fx_behind_ok hq hw hc (by omega) hn, xb1_s]
    exact lx_addsStep_255_ok hto q 0 n fr hq (by omega) ha (by omega)
  | k + 1, y, m + 1, fr, hy, hb', hm => by
    obtain ⟨z, rfl⟩ : ∃ z, y = z + 1 := ⟨y - 1, by omega⟩
    obtain ⟨fr', g1, g2, g3⟩ := lx_addsStep_196_ok (fs := fs) (p0 := p0) (p1 := p1) (p3 := p3) (tm := tm) (fpl := fpl) (fru := fru) (M := M) hto hn hq hw hc hl ha k z m (upd fr (z + 21) (fr z)) (by omega) (by omega) (by omega)
    refine ⟨fr', ?_, fun j h1 h2 => ?_, fun j h1 => ?_⟩
    · show bx_addsStep_196 n fs fp p0 p1 (nI a) p3 (lx_addsStep_196 n fs fp p0 p1 (nI a) p3 m) _ _ _ _ _ _ _ = _
      unfold bx_addsStep_196
      rw [xl_eq, show (21 : Int32) = nI 21 from rfl, nI_mul (by omega) (by decide) (by omega), nI_pred, if_neg (by rw [nI_lt_iff (by omega) (by omega)]; omega), xl_eq, nI_add, xr_n (by omega) (by decide), xw_n (by omega) (by decide), xl_eq, show nI z + (-1) = nI z - 1 by grind]
      exact g1
    · by_cases q9 : j = z + 21
      · rw [g3 j (Or.inr (by omega)), q9, upd_eq]; exact congrArg fr (by omega)
      · rw [g2 j h1 (by omega), upd_ne (by omega)]
    · rw [g3 j (by omega), upd_ne (by omega)]
/-- places and rules behind it go up -/
theorem lx_addsStep_140_ok {n : Nat} {fs fp fr : Nat → Int32} {p0 p1 p2 p3 tm : Int32} {to M : Nat} (hM : M < 200) (hto : to ≤ M) : ∀ (k y m : Nat) (fpl fru : Nat → Int32), y = to + k → y ≤ M → k < m →
    ∃ fpl' fru' : Nat → Int32, lx_addsStep_140 n fs fp p0 p1 p2 p3 m (nI to) (nI y) tm fpl fru fr (nI M) = lx_addsStep_196 n fs fp p0 p1 p2 p3 n (nI to) (nI (21 * M) - 1) tm fpl' fru' fr (nI M) ∧ (∀ j : Nat, to + 1 ≤ j → j < y + 1 → fpl' j = fpl (j - 1) ∧ fru' j = fru (j - 1)) ∧ (∀ j : Nat, (j < to + 1 ∨ y + 1 ≤ j) → fpl' j = fpl j ∧ fru' j = fru j)
  | 0, y, m + 1, fpl, fru, hy, hyM, _ => by
    refine ⟨fpl, fru, ?_, fun j h1 h2 => by omega, fun _ _ => ⟨rfl, rfl⟩⟩
    show bx_addsStep_140 n fs fp p0 p1 p2 p3 (lx_addsStep_140 n fs fp p0 p1 p2 p3 m) _ _ _ _ _ _ _ = _
    unfold bx_addsStep_140
    rw [if_pos (by rw [nI_le_iff (by omega) (by omega)]; omega), xl_eq, show (21 : Int32) = nI 21 from rfl, nI_mul (by omega) (by decide) (by omega), xl_eq]
  | k + 1, y, m + 1, fpl, fru, hy, hyM, hm => by
    obtain ⟨z, rfl⟩ : ∃ z, y = z + 1 := ⟨y - 1, by omega⟩
    obtain ⟨fpl', fru', g1, g2, g3⟩ := lx_addsStep_140_ok (n := n) (fs := fs) (fp := fp) (fr := fr) (p0 := p0) (p1 := p1) (p2 := p2) (p3 := p3) (tm := tm) hM hto k z m (upd fpl (z + 1) (fpl z)) (upd fru (z + 1) (fru z)) (by omega) (by omega) (by omega)
    refine ⟨fpl', fru', ?_, fun j h1 h2 => ?_, fun j h1 => ?_⟩
    · show bx_addsStep_140 n fs fp p0 p1 p2 p3 (lx_addsStep_140 n fs fp p0 p1 p2 p3 m) _ _ _ _ _ _ _ = _
      unfold bx_addsStep_140
      rw [if_neg (by rw [nI_le_iff (by omega) (by omega)]; omega), xl_eq, nI_pred, xr_n (by omega) (by decide), xw_n (by omega) (by decide), xl_eq, xr_n (by omega) (by decide), xw_n (by omega) (by decide), xl_eq, nI_dec]
      exact g1
    · by_cases q9 : j = z + 1
      · rw [(g3 j (Or.inr (by omega))).1, (g3 j (Or.inr (by omega))).2, q9, upd_eq, upd_eq]; exact ⟨rfl, rfl⟩
      · rw [(g2 j h1 (by omega)).1, (g2 j h1 (by omega)).2, upd_ne (by omega), upd_ne (by omega)]; exact ⟨rfl, rfl⟩
    · rw [(g3 j (by omega)).1, (g3 j (by omega)).2, upd_ne (by omega), upd_ne (by omega)]; exact ⟨rfl, rfl⟩
