/-! ===== terms filled ===== -/
def filT (so : Nat → Nat) (un : Nat → Option Nat) (sg : Nat → List Nat) : Nat → List Nat → List Nat
  | 0, _ => []
  | d + 1, t => match t with
    | [] => []
    | c :: l => if c < 512 then sg c else if ar c = 0 then [c] else stand so un (c / 512 - 1) ((pts (c :: l)).map (filT so un sg d))
theorem filT_s {so : Nat → Nat} {un : Nat → Option Nat} {sg : Nat → List Nat} {d c : Nat} {l : List Nat} : filT so un sg (d + 1) (c :: l) = if c < 512 then sg c else if ar c = 0 then [c] else stand so un (c / 512 - 1) ((pts (c :: l)).map (filT so un sg d)) := rfl
/-- what the variables of a term have: terms that may stand, of a bounded size -/
def vok (so : Nat → Nat) (sg : Nat → List Nat) (K : Nat) (t : List Nat) : Prop := ∀ c ∈ t, c < 512 → okt so (sg c) ∧ (sg c).length ≤ K
theorem mem_pts {c d : Nat} {l t : List Nat} (h : wf 1 (c :: l)) (ht : t ∈ pts (c :: l)) (hd : d ∈ t) : d ∈ c :: l := by
  obtain ⟨_, _, h3⟩ := pts_of h
  refine List.mem_cons_of_mem _ ?_
  rw [← h3]; exact List.mem_flatten.mpr ⟨t, ht, hd⟩
theorem pts_short {c : Nat} {l t : List Nat} (h : wf 1 (c :: l)) (ht : t ∈ pts (c :: l)) : t.length ≤ l.length := by
  obtain ⟨_, _, h3⟩ := pts_of h
  have := (List.sublist_flatten_of_mem ht).length_le
  rw [h3] at this; exact this
theorem okt_op {so : Nat → Nat} {c : Nat} {l : List Nat} (h : okt so (c :: l)) (q : ¬ c < 512) : 512 ≤ c ∧ c < 5632 ∧ (c / 512 - 1 < 10 ∧ so (c / 512 - 1) ≠ 3) := by
  have := cok_lt (col_cons.mp h.2.1).1
  have h3 := (h.2.2 c (List.mem_cons_self ..) (by omega)).1
  omega
theorem map_flat_len {g : List Nat → List Nat} {K : Nat} : ∀ {ts : List (List Nat)}, (∀ t ∈ ts, (g t).length ≤ K * t.length) → (ts.map g).flatten.length ≤ K * ts.flatten.length
  | [], _ => by simp
  | t :: ts, h => by
    have h1 := h t (List.mem_cons_self ..)
    have h2 := map_flat_len (ts := ts) (fun q hq => h q (List.mem_cons_of_mem _ hq))
    simp only [List.map_cons, List.flatten_cons, List.length_append, Nat.mul_add]; omega
theorem filT_ok {so : Nat → Nat} {un : Nat → Option Nat} {sg : Nat → List Nat} (hsu : SU so un) : ∀ (d : Nat) (t : List Nat), okt so t → t.length ≤ d → t.length ≤ 21 → vok so sg 20 t → okt so (filT so un sg d t) ∧ (filT so un sg d t).length ≤ 21 * t.length
  | 0, t, h, hd, _, _ => absurd (wf_pos h.1) (by omega)
  | d + 1, [], h, _, _, _ => absurd (wf_pos h.1) (by simp)
  | d + 1, c :: l, h, hd, h21, hv => by
    simp only [List.length_cons] at hd h21 ⊢
    rw [filT_s]
    by_cases q : c < 512
    · rw [if_pos q]
      have := hv c (List.mem_cons_self ..) q
      exact ⟨this.1, by omega⟩
    · rw [if_neg q]
      obtain ⟨q1, q2, q3⟩ := okt_op h q
      by_cases q4 : ar c = 0
      · rw [if_pos q4]
        refine ⟨⟨wf_mk (by rw [q4]; rfl), col_cons.mpr ⟨(col_cons.mp h.2.1).1, col_nil⟩, ?_⟩, by simp; omega⟩
        intro e he
        rw [List.mem_singleton.mp he]
        exact h.2.2 c (List.mem_cons_self ..)
      · rw [if_neg q4]
        obtain ⟨k1, k2, k3⟩ := pts_of h.1
        have hp := okt_pts h
        have ih : ∀ t ∈ pts (c :: l), okt so (filT so un sg d t) ∧ (filT so un sg d t).length ≤ 21 * t.length := fun t ht => by
          have hs := pts_short h.1 ht
          exact filT_ok hsu d t (hp t ht) (by omega) (by omega) (fun e he => hv e (mem_pts h.1 ht he))
        have hfl := map_flat_len (g := filT so un sg d) (K := 21) (ts := pts (c :: l)) (fun t ht => (ih t ht).2)
        rw [k3] at hfl
        obtain ⟨r1, r2⟩ := stand_okt (un := un) (op := c / 512 - 1) (ts := (pts (c :: l)).map (filT so un sg d)) hsu q3 (fun t ht => by
          obtain ⟨u, hu, rfl⟩ := List.mem_map.mp ht
          exact (ih u hu).1) (fun _ e => by
            have := congrArg List.length e
            rw [List.length_map, k2] at this; exact q4 this) (by omega)
        exact ⟨r1, by omega⟩
theorem fx_foundAt_ok {n m v : Nat} (hm : m ≤ 400) (hv : v ≤ 600) : fx_foundAt n (nI m) (nI v) = some (nI (21 * (5 * m + v))) := by
  unfold fx_foundAt
  rw [xl_eq, show (5 : Int32) = nI 5 from rfl, nI_mul (by omega) (by decide) (by omega), xl_eq, nI_add, xl_eq, show (21 : Int32) = nI 21 from rfl, nI_mul (by omega) (by decide) (by omega)]
theorem lx_fills_33_ok {slf : Nat → (Nat → Int32) → (Nat → Int32) → (Nat → Int32) → Int32 → (Nat → Int32) → (Nat → Int32) → Int32 → Int32 → SRes} {n : Nat} {fs fu ff fsp : Nat → Int32} {p0 p1 x3 : Int32} : ∀ (l : List Nat) (k : Nat) (f : Nat → Int32) (a t m : Nat), la ff a l → wf k l → col l → a + l.length ≤ 31710 → t + l.length ≤ 60000 → l.length < m →
    lx_fills_33 slf n fs fu ff p0 p1 m x3 (nI k) (nI a) f (nI t) fsp = some (x3, put f t l, nI (t + l.length), fsp)
  | [], k, f, a, t, m + 1, _, hw, _, _, _, _ => by
    have : k = 0 := hw
    subst this
    show bx_fills_33 slf n fs fu ff p0 p1 (lx_fills_33 slf n fs fu ff p0 p1 m) _ _ _ _ _ _ = _
    unfold bx_fills_33
    rw [if_pos (show nI 0 ≤ (0 : Int32) by decide)]; rfl
  | c :: l, 0, f, a, t, m + 1, _, hw, _, _, _, _ => absurd hw.1 (Nat.lt_irrefl 0)
  | c :: l, k + 1, f, a, t, m + 1, hl, hw, hc, ha, ht, hm => by
    have hk := wf_len hw
    simp only [List.length_cons] at hk ha ht hm ⊢
    have hcc := cok_lt (col_cons.mp hc).1
    show bx_fills_33 slf n fs fu ff p0 p1 (lx_fills_33 slf n fs fu ff p0 p1 m) _ _ _ _ _ _ = _
    unfold bx_fills_33
    rw [if_neg (nI_nle (by omega) (by omega)), xr_n (by omega) (by decide), hl.1, xw_n (by omega) (by decide), fx_partsAt_ok (upd_eq f t (nI c)) hcc (by omega), xb1_s, xl_eq, xl_eq, nI_bal, xl_eq, nI_1, xl_eq, nI_1]
    have h2 := hw.2
    rw [show k + 1 - 1 + ar c = k + ar c by omega] at h2
    rw [lx_fills_33_ok l (k + ar c) (upd f t (nI c)) (a + 1) (t + 1) m hl.2 h2 (col_cons.mp hc).2 (by omega) (by omega) (by omega), show t + (l.length + 1) = t + 1 + l.length by omega]; rfl
/-- a function fills terms of at most d cells -/
def FOK (slf : Nat → (Nat → Int32) → (Nat → Int32) → (Nat → Int32) → Int32 → (Nat → Int32) → (Nat → Int32) → Int32 → Int32 → SRes) (n : Nat) (fs fu ff : Nat → Int32) (so : Nat → Nat) (un : Nat → Option Nat) (sg : Nat → List Nat) (m d : Nat) : Prop :=
  ∀ (t : List Nat) (a top : Nat) (fp fsp : Nat → Int32), la fp a t → okt so t → t.length ≤ d → t.length ≤ 20 → a + t.length ≤ top → (∀ c ∈ t, c < 512 → la ff (21 * (5 * m + c)) (sg c)) → vok so sg 20 t → top + 42 * t.length ≤ 59000 →
    ∃ fp' fsp' : Nat → Int32, slf n fs fu fp (nI top) fsp ff (nI a) (nI m) = some (nI top, fp', nI (top + (filT so un sg d t).length), fsp') ∧ la fp' top (filT so un sg d t) ∧ ∀ i : Nat, i < top → fp' i = fp i
theorem lx_fills_134_ok {slf : Nat → (Nat → Int32) → (Nat → Int32) → (Nat → Int32) → Int32 → (Nat → Int32) → (Nat → Int32) → Int32 → Int32 → SRes} {n : Nat} {fs fu ff : Nat → Int32} {so : Nat → Nat} {un : Nat → Option Nat} {sg : Nat → List Nat} {m d a c from_ B : Nat} (hslf : FOK slf n fs fu ff so un sg m d) (hsg : SG fs fu so un) (hsu : SU so un) (hn : 100000 ≤ n) (hc : c < 5632) (hc2 : 512 ≤ c ∧ so (c / 512 - 1) ≠ 3) (hb : from_ + 42 * (B + 1) ≤ 59000) (hB : B ≤ 19) :
    ∀ (qs : List (List Nat)) (rs : List (List Nat)) (f fsp : Nat → Int32) (b k M j : Nat), la f b qs.flatten → okts so qs → (∀ q ∈ qs, q.length ≤ d) → b + qs.flatten.length ≤ from_ → (∀ q ∈ qs, ∀ e ∈ q, e < 512 → la ff (21 * (5 * m + e)) (sg e)) → (∀ q ∈ qs, vok so sg 20 q) →
      la f from_ rs.flatten → okts so rs → f a = nI c → a < from_ → rs.flatten.length ≤ 21 * j → j + qs.flatten.length ≤ B → (rs ≠ [] ∨ qs ≠ []) → k = rs.length + qs.length → qs.length < M →
      ∃ fp' fsp' : Nat → Int32, lx_fills_134 slf n fs fu ff (nI a) (nI m) M (nI from_) (nI k) (nI b) (nI rs.length) f (nI (from_ + rs.flatten.length)) fsp = some (nI from_, fp', nI (from_ + (stand so un (c / 512 - 1) (rs ++ qs.map (filT so un sg d))).length), fsp') ∧ la fp' from_ (stand so un (c / 512 - 1) (rs ++ qs.map (filT so un sg d))) ∧ ∀ i : Nat, i < from_ → fp' i = f i
  | [], rs, f, fsp, b, k, M + 1, j, _, _, _, _, _, _, hl, hr, hfa, haf, hj, hj2, h0, hk, _ => by
    simp only [List.flatten_nil, List.length_nil, Nat.add_zero] at hj2 hk
    subst hk
    have ho : c / 512 - 1 < 10 ∧ so (c / 512 - 1) ≠ 3 := by omega
    have hne : rs ≠ [] := h0.resolve_right (fun q => q rfl)
    obtain ⟨f', fsp', g1, g2, g3⟩ := fx_stands_ok2 (fsp := fsp) hsg ho hn hl hr (fun _ => hne) (by omega) (by omega)
    simp only [List.map_nil, List.append_nil]
    refine ⟨f', fsp', ?_, g2, g3⟩
    show bx_fills_134 slf n fs fu ff (nI a) (nI m) (lx_fills_134 slf n fs fu ff (nI a) (nI m) M) _ _ _ _ _ _ _ = _
    unfold bx_fills_134
    rw [if_pos (Int32.le_refl _), fx_operatorAt_ok hfa hc (by omega), xb1_s, opI_op hc2.1, g1, xb4_s]
  | q :: qs, rs, f, fsp, b, k, M + 1, j, hlq, hq, hqd, hbq, hqv, hqw, hl, hr, hfa, haf, hj, hj2, _, hk, hM => by
    rw [List.flatten_cons] at hlq hbq hj2
    rw [List.length_append] at hbq hj2
    simp only [List.length_cons] at hk hM
    have h1 := la_app.mp hlq
    have hq1 := (okts_cons.mp hq).1
    have hrk : rs.length ≤ rs.flatten.length := wf_len (wf_flat (okts_wfs hr))
    have hqk : qs.length ≤ qs.flatten.length := wf_len (wf_flat (okts_wfs (okts_cons.mp hq).2))
    obtain ⟨f1, fsp1, g1, g2, g3⟩ := hslf q b (from_ + rs.flatten.length) f fsp h1.1 hq1 (hqd q (List.mem_cons_self ..)) (by omega) (by omega) (hqv q (List.mem_cons_self ..)) (hqw q (List.mem_cons_self ..)) (by omega)
    obtain ⟨o1, o2⟩ := filT_ok hsu d q hq1 (hqd q (List.mem_cons_self ..)) (by omega) (hqw q (List.mem_cons_self ..))
    have hfl : (rs ++ [filT so un sg d q]).flatten = rs.flatten ++ filT so un sg d q := by simp
    obtain ⟨fp', fsp', k1, k2, k3⟩ := lx_fills_134_ok (a := a) hslf hsg hsu hn hc hc2 hb hB qs (rs ++ [filT so un sg d q]) f1 fsp1 (b + q.length) k M (j + q.length)
      (la_congr (fun i hi => g3 _ (by omega)) h1.2) (okts_cons.mp hq).2 (fun z hz => hqd z (List.mem_cons_of_mem _ hz)) (by omega) (fun z hz => hqv z (List.mem_cons_of_mem _ hz)) (fun z hz => hqw z (List.mem_cons_of_mem _ hz))
      (by rw [hfl]; exact la_app.mpr ⟨la_congr (fun i hi => g3 _ (by omega)) hl, g2⟩) (okts_app.mpr ⟨hr, okts_cons.mpr ⟨o1, okts_nil⟩⟩) ((g3 a (by omega)).trans hfa) haf (by rw [hfl, List.length_append]; omega) (by omega) (Or.inl (by simp)) (by simp; omega) (by omega)
    have e1 : rs ++ [filT so un sg d q] ++ qs.map (filT so un sg d) = rs ++ (q :: qs).map (filT so un sg d) := by simp
    rw [e1] at k1 k2
    refine ⟨fp', fsp', ?_, k2, fun i hi => by rw [k3 i hi, g3 i (by omega)]⟩
    show bx_fills_134 slf n fs fu ff (nI a) (nI m) (lx_fills_134 slf n fs fu ff (nI a) (nI m) M) _ _ _ _ _ _ _ = _
    unfold bx_fills_134
    rw [if_neg (by rw [nI_le_iff (by omega) (by omega)]; omega), g1, xb4_s, fx_behind_ok (la_congr (fun i hi => g3 _ (by omega)) h1.1) hq1.1 hq1.2.1 (by omega) hn, xb1_s, xl_eq, nI_1]
    rw [hfl, List.length_append, List.length_append, List.length_singleton] at k1
    rw [show from_ + rs.flatten.length + (filT so un sg d q).length = from_ + (rs.flatten.length + (filT so un sg d q).length) by omega]
    exact k1
theorem fx_fills_ok {n : Nat} {fs fu ff : Nat → Int32} {so : Nat → Nat} {un : Nat → Option Nat} {sg : Nat → List Nat} {m : Nat} (hsg : SG fs fu so un) (hsu : SU so un) (hn : 100000 ≤ n) (hm : m ≤ 301) : ∀ d : Nat, FOK (fx_fills d) n fs fu ff so un sg m d
  | 0 => fun t a top fp fsp hl h hd _ _ _ _ _ => absurd (wf_pos h.1) (by omega)
  | d + 1 => fun t a top fp fsp hl h hd h20 ha hv hvo hb => by
    have ih := fx_fills_ok (ff := ff) (sg := sg) hsg hsu hn hm d
    cases t with
    | nil => exact absurd (wf_pos h.1) (by simp)
    | cons c l =>
      simp only [List.length_cons] at hd h20 ha hb
      have hcc := cok_lt (col_cons.mp h.2.1).1
      show ∃ fp' fsp' : Nat → Int32, gx_fills (fx_fills d) n fs fu fp (nI top) fsp ff (nI a) (nI m) = _ ∧ _
      unfold gx_fills
      rw [xr_n (by omega) (by decide), hl.1, filT_s, show (512 : Int32) = nI 512 from rfl]
      by_cases q : c < 512
      · have hvc := hvo c (List.mem_cons_self ..) q
        have hc5 : c < 5 := by rcases (col_cons.mp h.2.1).1 with g | g <;> omega
        rw [if_neg (by rw [nI_le_iff (by decide) (by omega)]; omega), if_pos q, xr_n (by omega) (by decide), hl.1, fx_foundAt_ok (by omega) (by omega), xb1_s, show (1 : Int32) = nI 1 from rfl, lx_fills_33_ok (sg c) 1 fp _ top n (hv c (List.mem_cons_self ..) q) hvc.1.1 hvc.1.2.1 (by omega) (by omega) (by omega)]
        exact ⟨_, _, rfl, put_la, fun i hi => put_out (Or.inl hi)⟩
      · obtain ⟨q1, q2, q3⟩ := okt_op h q
        rw [if_pos (by rw [nI_le_iff (by decide) (by omega)]; omega), if_neg q, fx_partsAt_ok hl.1 hcc (by omega), xb1_s, show (0 : Int32) = nI 0 from rfl]
        have har := ar_lt (c := c)
        by_cases q4 : ar c = 0
        · rw [if_pos (by rw [q4]), if_pos q4, xr_n (by omega) (by decide), hl.1, xw_n (by omega) (by decide), xl_eq, nI_1]
          exact ⟨_, _, rfl, ⟨upd_eq _ _ _, trivial⟩, fun i hi => upd_ne (by omega)⟩
        · rw [if_neg (by rw [nI_inj (by omega) (by decide)]; exact q4), if_neg q4, xl_eq, nI_1]
          obtain ⟨k1, k2, k3⟩ := pts_of h.1
          have hl2 : la fp (a + 1) (pts (c :: l)).flatten := by rw [k3]; exact hl.2
          obtain ⟨fp', fsp', r1, r2, r3⟩ := lx_fills_134_ok (a := a) ih hsg hsu hn hcc ⟨q1, q3.2⟩ (from_ := top) (B := l.length) (by omega) (by omega) (pts (c :: l)) [] fp fsp (a + 1) (ar c) n 0 hl2 (okt_pts h) (fun z hz => by have := pts_short h.1 hz; omega) (by rw [k3]; omega) (fun z hz e he => hv e (mem_pts h.1 hz he)) (fun z hz e he => hvo e (mem_pts h.1 hz he)) trivial okts_nil hl.1 (by omega) (by simp) (by rw [k3]; omega) (Or.inr (fun e => by rw [e] at k2; simp at k2; omega)) (by simp [k2]) (by omega)
          exact ⟨fp', fsp', r1, r2, r3⟩
