/-! ===== goesOn: what each has got ===== -/
def gf (i : Nat) : List Nat → List (List Nat) → List (List Nat)
  | a :: A, h :: H => if a = i then h :: gf i A H else gf i A H
  | _, _ => []
def ct (i : Nat) : List Nat → Nat
  | [] => 0
  | a :: A => (if a = i then 1 else 0) + ct i A
theorem gf_len {i : Nat} : ∀ {A : List Nat} {H : List (List Nat)}, A.length = H.length → (gf i A H).length = ct i A
  | [], _, _ => rfl
  | _ :: _, [], h => by simp at h
  | a :: A, y :: H, h => by
    show (if a = i then y :: gf i A H else gf i A H).length = (if a = i then 1 else 0) + ct i A
    have := gf_len (i := i) (A := A) (H := H) (by simpa using h)
    split
    · rw [List.length_cons]; omega
    · omega
theorem gf_snoc {i x : Nat} {y : List Nat} : ∀ {A : List Nat} {H : List (List Nat)}, A.length = H.length → gf i (A ++ [x]) (H ++ [y]) = gf i A H ++ (if x = i then [y] else [])
  | [], [], _ => by show (if x = i then y :: gf i [] [] else gf i [] []) = _; split <;> rfl
  | [], _ :: _, h => by simp at h
  | _ :: _, [], h => by simp at h
  | a :: A, z :: H, h => by
    show (if a = i then z :: gf i (A ++ [x]) (H ++ [y]) else gf i (A ++ [x]) (H ++ [y])) = (if a = i then z :: gf i A H else gf i A H) ++ _
    rw [gf_snoc (by simpa using h)]
    split <;> rfl
theorem grp_gf {i : Nat} : ∀ {b : List Nat} {d : List (List Nat)}, b.length = d.length → grp i b d = gf i b.reverse d.reverse
  | [], [], _ => rfl
  | [], _ :: _, h => by simp at h
  | _ :: _, [], h => by simp at h
  | x :: b, y :: d, h => by
    have hl : b.length = d.length := by simpa using h
    rw [grp_cons, List.reverse_cons, List.reverse_cons, gf_snoc (by simp [hl]), grp_gf hl]
    split <;> simp
theorem gf_sub {i : Nat} : ∀ {A : List Nat} {H : List (List Nat)}, (gf i A H).Sublist H
  | [], H => List.nil_sublist H
  | _ :: _, [] => List.nil_sublist []
  | a :: A, h :: H => by
    show (if a = i then h :: gf i A H else gf i A H).Sublist (h :: H)
    split
    · exact (gf_sub (A := A) (H := H)).cons₂ h
    · exact (gf_sub (A := A) (H := H)).cons h
theorem lx_manyTo_ok {n : Nat} {fw : Nat → Int32} {to M i : Nat} (hi : i < 1000) : ∀ (A : List Nat) (c j m : Nat), la fw (to + j) A → (∀ a ∈ A, a < 1000) → j + A.length = M → to + M ≤ 4096 → c ≤ j → A.length < m →
    lx_manyTo_6 n fw (nI to) (nI M) (nI i) m (nI c) (nI j) = some (nI (c + ct i A))
  | [], c, j, m + 1, _, _, hj, _, _, _ => by
    show bx_manyTo_6 n fw (nI to) (nI M) (nI i) (lx_manyTo_6 n fw (nI to) (nI M) (nI i) m) _ _ = _
    unfold bx_manyTo_6
    simp only [List.length_nil, Nat.add_zero] at hj
    rw [hj, if_pos (Int32.le_refl _)]; rfl
  | a :: A, c, j, m + 1, hl, ha, hj, hb', hc, hm => by
    simp only [List.length_cons] at hj hm
    have ha1 := ha a (List.mem_cons_self ..)
    have hl2 : la fw (to + (j + 1)) A := by rw [show to + (j + 1) = to + j + 1 by omega]; exact hl.2
    show bx_manyTo_6 n fw (nI to) (nI M) (nI i) (lx_manyTo_6 n fw (nI to) (nI M) (nI i) m) _ _ = _
    unfold bx_manyTo_6
    rw [if_neg (by rw [nI_le_iff (by omega) (by omega)]; omega), xl_eq, nI_add, xr_n (by omega) (by decide), hl.1]
    show _ = some (nI (c + ((if a = i then 1 else 0) + ct i A)))
    by_cases q : a = i
    · rw [if_pos (by rw [q]), if_pos q, xl_eq, nI_1, xl_eq, nI_1, lx_manyTo_ok hi A (c + 1) (j + 1) m hl2 (fun x hx => ha x (List.mem_cons_of_mem _ hx)) (by omega) hb' (by omega) (by omega), Nat.add_assoc]
    · rw [if_neg (by rw [nI_inj (by omega) (by omega)]; exact q), if_neg q, xl_eq, show (0 : Int32) = nI 0 from rfl, nI_add, xl_eq, nI_1, Nat.add_zero, lx_manyTo_ok hi A c (j + 1) m hl2 (fun x hx => ha x (List.mem_cons_of_mem _ hx)) (by omega) hb' (by omega) (by omega), Nat.zero_add]
theorem fx_manyTo_ok {n : Nat} {fw : Nat → Int32} {to i : Nat} {A : List Nat} (hl : la fw to A) (ha : ∀ a ∈ A, a < 1000) (hi : i < 1000) (hb' : to + A.length ≤ 4096) (hn : 100000 ≤ n) : fx_manyTo n fw (nI to) (nI A.length) (nI i) = some (nI (ct i A)) := by
  unfold fx_manyTo
  have := lx_manyTo_ok (n := n) (to := to) (M := A.length) hi A 0 0 n hl ha (by omega) hb' (by omega) (by omega)
  rw [Nat.zero_add] at this
  exact this
theorem ct_le {i : Nat} : ∀ {A : List Nat}, ct i A ≤ A.length
  | [] => Nat.le_refl _
  | a :: A => by
    have := ct_le (i := i) (A := A)
    show (if a = i then 1 else 0) + ct i A ≤ A.length + 1
    split <;> omega
/-- whether what stands in a pattern must be just one part -/
theorem fx_isOne_ok {n : Nat} {fs fu fp : Nat → Int32} {so : Nat → Nat} {un : Nat → Option Nat} {a : Nat} {p : List Nat} (hsg : SG fs fu so un) (hl : la fp a p) (h : okt so p) (ha : a + p.length ≤ 60000) : ∃ r : Int32, fx_isOne n fs fu fp (nI a) = some r ∧ (r = 0 ↔ ¬ isOneP so un p) := by
  cases p with
  | nil => exact absurd (wf_pos h.1) (by simp)
  | cons c l =>
    simp only [List.length_cons] at ha
    have hcc := cok_lt (col_cons.mp h.2.1).1
    unfold fx_isOne
    rw [xr_n (by omega) (by decide), hl.1, show (512 : Int32) = nI 512 from rfl]
    by_cases q : c < 512
    · rw [if_pos (by rw [nI_lt_iff (by omega) (by decide)]; exact q)]
      exact ⟨0, rfl, ⟨fun _ g => by have : 512 ≤ c := g.1; omega, fun _ => rfl⟩⟩
    · obtain ⟨q1, q2, q3⟩ := okt_op h q
      have hso := hsg _ q3
      rw [if_neg (by rw [nI_lt_iff (by omega) (by decide)]; exact q), fx_operatorAt_ok hl.1 hcc (by omega), xb1_s, opI_op q1, xr_n q3.1 (by decide), hso.1, show (2 : Int32) = nI 2 from rfl]
      by_cases q4 : so (c / 512 - 1) = 2
      · rw [if_pos (by rw [q4]), xb1_s, xr_n q3.1 (by decide)]
        cases hun : un (c / 512 - 1) with
        | none =>
          rw [hso.2.2.1 hun, if_pos rfl]
          exact ⟨1, rfl, ⟨fun g => absurd g (by decide), fun g => absurd ⟨q1, Or.inr hun⟩ g⟩⟩
        | some u =>
          rw [(hso.2.2.2 u hun).1, if_neg (nI_m1 (by have := (hso.2.2.2 u hun).2; omega))]
          refine ⟨0, rfl, ⟨fun _ g => ?_, fun _ => rfl⟩⟩
          rcases g.2 with g2 | g2
          · exact g2 q4
          · have g3 : un (c / 512 - 1) = none := g2
            rw [hun] at g3; exact absurd g3 (by simp)
      · rw [if_neg (by rw [nI_inj (by omega) (by decide)]; exact q4)]
        exact ⟨1, rfl, ⟨fun g => absurd g (by decide), fun g => absurd ⟨q1, Or.inl q4⟩ g⟩⟩
theorem sub_flat {l m : List (List Nat)} (h : l.Sublist m) : l.flatten.length ≤ m.flatten.length := by
  induction h with
  | slnil => exact Nat.le_refl _
  | cons a _ ih => rw [List.flatten_cons, List.length_append]; omega
  | cons_cons a _ ih => rw [List.flatten_cons, List.flatten_cons, List.length_append, List.length_append]; omega
/-- some parts of a sum, as they stand -/
theorem row_ok {so : Nat → Nat} {un : Nat → Option Nat} {op i : Nat} {A : List Nat} {t : List Nat} (hsu : SU so un) (ho : op < 10 ∧ so op ≠ 3) (h2 : so op = 2) (ht : nok so un t) (htl : t.length ≤ 20) (hu : gf i A (flat1 so un op t) = [] → un op ≠ none) :
    nok so un (mkt so un op (gf i A (flat1 so un op t))) ∧ (mkt so un op (gf i A (flat1 so un op t))).length ≤ 20 := by
  obtain ⟨a1, a2, a3, a4⟩ := nf_as hsu ho h2 ht (by omega)
  have hwt := okts_wfs (noks_okts a4)
  have hst : (flat1 so un op t).Pairwise leL := by rw [← a2]; exact srt_sorted hwt
  have hsub := gf_sub (i := i) (A := A) (H := flat1 so un op t)
  have hfl := flat1_len (so := so) (un := un) (op := op) ht.1.1
  have hsf := sub_flat hsub
  have hsl := hsub.length_le
  have hg1 : ∀ q ∈ gf i A (flat1 so un op t), plain so un op q := fun q hq => a1 q (hsub.mem hq)
  have hg2 : noks so un (gf i A (flat1 so un op t)) := fun q hq => a4 q (hsub.mem hq)
  have hg3 := hst.sublist hsub
  have hm1 : flat1 so un op t = pts t ∨ (flat1 so un op t).length ≤ 1 := by
    unfold flat1
    rw [if_pos h2]
    split
    · exact Or.inl rfl
    · right; split <;> simp
  generalize gf i A (flat1 so un op t) = g at *
  match g, hg1, hg2, hg3, hu, hsf, hsl with
  | [], _, _, _, hu, _, _ =>
    cases hun : un op with
    | none => exact absurd hun (hu rfl)
    | some u =>
      obtain ⟨u1, u2⟩ := hsu op u ho hun
      have hk := (mkt_okt (un := un) (ys := []) hsu ho okts_nil (by simp) (fun _ _ => by rw [hun]; simp)).1
      rw [mkt_nil h2 hun] at hk ⊢
      exact ⟨⟨hk, nf_leaf (ar_code (by decide))⟩, by simp⟩
  | [y], _, hg2, _, _, hsf, _ =>
    rw [mkt_one h2]
    simp at hsf
    refine ⟨hg2 y (List.mem_singleton.mpr rfl), ?_⟩
    have : y.length ≤ (flat1 so un op t).flatten.length := by rw [List.length_flatten]; exact hsf
    omega
  | y :: z :: g, hg1, hg2, hg3, _, hsf, hsl =>
    have e : stand so un op (y :: z :: g) = mkt so un op (y :: z :: g) := by
      unfold stand; rw [if_neg (by omega), flats_plain hg1, srt_id (okts_wfs (noks_okts hg2)) hg3]
    have hN : (y :: z :: g).flatten.length < 512 := by omega
    have hk := stand_nf (op := op) hsu ho hg2 (by simp) hN
    rw [e] at hk
    refine ⟨hk, ?_⟩
    rw [mkt_many (fun _ => by simp), List.length_cons]
    rcases hm1 with m | m
    · rw [m] at hsf
      cases t with
      | nil => exact absurd (wf_pos ht.1.1) (by simp)
      | cons c l =>
        rw [(pts_of ht.1.1).2.2] at hsf
        simp only [List.length_cons] at htl; omega
    · simp only [List.length_cons] at hsl; omega
/-- the parts that go to one are copied -/
theorem lx_goesOn_197_ok {slf : SLF} {n : Nat} {fs fu : Nat → Int32} {pv p0 p1 x7 x9 x10 wt fm tm : Int32} {k101 : Int32 → Int32 → Int32 → (Nat → Int32) → Int32 → (Nat → Int32) → (Nat → Int32) → (Nat → Int32) → (Nat → Int32) → Int32 → Int32 → (Nat → Int32) → Int32 → MRes} {fgp fgt fb fw ff : Nat → Int32} {base k h to i T : Nat} (hn : 100000 ≤ n) (hi : i < 1000) (hto : to = base + k + h) (hW : to + h ≤ 4096) :
    ∀ (A : List Nat) (xs : List (Nat × List Nat)) (j : Nat) (f : Nat → Int32) (top m : Nat), la fw (to + j) A → la fw (base + k + j) (adr xs) → (∀ a ∈ A, a < 1000) → A.length = xs.length → j + xs.length = h → (∀ x ∈ xs, okp f x ∧ x.1 + x.2.length ≤ T) → T ≤ top → top + (xs.map Prod.snd).flatten.length ≤ 60000 → A.length < m →
      lx_goesOn_197 slf n fs fu pv p0 p1 (nI base) (nI k) (nI h) k101 m (nI to) x7 (nI i) x9 x10 (nI j) f (nI top) fgp fgt fb fw wt fm ff tm = jx_goesOn_246 slf n fs fu pv p0 p1 (nI base) (nI k) (nI h) k101 (nI to) x7 (nI i) x9 x10 (put f top (gf i A (xs.map Prod.snd)).flatten) (nI (top + (gf i A (xs.map Prod.snd)).flatten.length)) fgp fgt fb fw wt fm ff tm
  | [], [], j, f, top, m + 1, _, _, _, _, hj, _, _, _, _ => by
    simp only [List.length_nil, Nat.add_zero] at hj
    show bx_goesOn_197 slf n fs fu pv p0 p1 (nI base) (nI k) (nI h) k101 (lx_goesOn_197 slf n fs fu pv p0 p1 (nI base) (nI k) (nI h) k101 m) _ _ _ _ _ _ _ _ _ _ _ _ _ _ _ _ = _
    unfold bx_goesOn_197
    rw [hj, if_pos (Int32.le_refl _)]; rfl
  | [], _ :: _, _, _, _, _, _, _, _, h9, _, _, _, _, _ => by simp at h9
  | _ :: _, [], _, _, _, _, _, _, _, h9, _, _, _, _, _ => by simp at h9
  | a :: A, x :: xs, j, f, top, m + 1, hA, hx, ha, hl, hj, hok, hT, hb', hm => by
    simp only [List.length_cons, List.map_cons, List.flatten_cons, List.length_append] at hl hj hb' hm
    have ha1 := ha a (List.mem_cons_self ..)
    obtain ⟨o1, o2⟩ := hok x (List.mem_cons_self ..)
    have hA2 : la fw (to + (j + 1)) A := by rw [show to + (j + 1) = to + j + 1 by omega]; exact hA.2
    have hx2 : la fw (base + k + (j + 1)) (adr xs) := by rw [show base + k + (j + 1) = base + k + j + 1 by omega]; exact hx.2
    show bx_goesOn_197 slf n fs fu pv p0 p1 (nI base) (nI k) (nI h) k101 (lx_goesOn_197 slf n fs fu pv p0 p1 (nI base) (nI k) (nI h) k101 m) _ _ _ _ _ _ _ _ _ _ _ _ _ _ _ _ = _
    unfold bx_goesOn_197
    rw [if_neg (by rw [nI_le_iff (by omega) (by omega)]; omega), xl_eq, nI_add, xr_n (by omega) (by decide), hA.1]
    have eg : gf i (a :: A) ((x :: xs).map Prod.snd) = if a = i then x.2 :: gf i A (xs.map Prod.snd) else gf i A (xs.map Prod.snd) := rfl
    rw [eg]
    by_cases q : a = i
    · rw [if_pos (by rw [q]), if_pos q, xl_eq, nI_add, xl_eq, nI_add, xr_n (by omega) (by decide), hx.1, fx_copies_ok o1.1 o1.2.1 o1.2.2.1 (by omega) (by omega) hn, xb3_s, xl_eq, nI_1]
      have := lx_goesOn_197_ok (slf := slf) (fs := fs) (fu := fu) (pv := pv) (p0 := p0) (p1 := p1) (x7 := x7) (x9 := x9) (x10 := x10) (wt := wt) (fm := fm) (tm := tm) (k101 := k101) (fgp := fgp) (fgt := fgt) (fb := fb) (ff := ff) (T := T) hn hi hto hW A xs (j + 1) (put f top x.2) (top + x.2.length) m hA2 hx2 (fun z hz => ha z (List.mem_cons_of_mem _ hz)) (by omega) (by omega) (fun z hz => by
          obtain ⟨z1, z2⟩ := hok z (List.mem_cons_of_mem _ hz)
          exact ⟨⟨la_put (Or.inl (by omega)) z1.1, z1.2⟩, z2⟩) (by omega) (by omega) (by omega)
      rw [this, List.flatten_cons, put_app, List.length_append, Nat.add_assoc]
    · rw [if_neg (by rw [nI_inj (by omega) (by omega)]; exact q), if_neg q, xl_eq, nI_1]
      exact lx_goesOn_197_ok hn hi hto hW A xs (j + 1) f top m hA2 hx2 (fun z hz => ha z (List.mem_cons_of_mem _ hz)) (by omega) (by omega) (fun z hz => hok z (List.mem_cons_of_mem _ hz)) hT (by omega) (by omega)
