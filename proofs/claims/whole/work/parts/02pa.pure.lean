/-! ===== a term with another one at one of its places ===== -/
def rebT (so : Nat → Nat) (un : Nat → Option Nat) (p : Nat) (b : List Nat) : Nat → Nat × List Nat → List Nat
  | 0, _ => []
  | d + 1, (a, t) => if a = p then b else match t with
    | [] => []
    | c :: l => if ar c = 0 then c :: l else stand so un (c / 512 - 1) ((prs (a + 1) (pts (c :: l))).map (rebT so un p b d))
theorem rebT_s {so : Nat → Nat} {un : Nat → Option Nat} {p : Nat} {b : List Nat} {d a c : Nat} {l : List Nat} : rebT so un p b (d + 1) (a, c :: l) = if a = p then b else if ar c = 0 then c :: l else stand so un (c / 512 - 1) ((prs (a + 1) (pts (c :: l))).map (rebT so un p b d)) := rfl
/-- b's cells, if a place is within -/
def inr (p a k bl : Nat) : Nat := if a ≤ p ∧ p < a + k then bl else 0
def rpot (p bl : Nat) : Nat → List (List Nat) → Nat
  | _, [] => 0
  | a, q :: qs => q.length + inr p a q.length bl + rpot p bl (a + q.length) qs
theorem rpot_le {p bl : Nat} : ∀ {qs : List (List Nat)} {a : Nat}, rpot p bl a qs ≤ qs.flatten.length + inr p a qs.flatten.length bl
  | [], _ => Nat.zero_le _
  | q :: qs, a => by
    have ih := rpot_le (p := p) (bl := bl) (qs := qs) (a := a + q.length)
    show q.length + inr p a q.length bl + rpot p bl (a + q.length) qs ≤ (q ++ qs.flatten).length + inr p a (q ++ qs.flatten).length bl
    rw [List.length_append]
    have : inr p a q.length bl + inr p (a + q.length) qs.flatten.length bl ≤ inr p a (q.length + qs.flatten.length) bl := by
      unfold inr
      repeat' split
      all_goals omega
    omega
/-- a function rebuilds terms of at most d cells -/
def ROK (slf : Nat → (Nat → Int32) → (Nat → Int32) → (Nat → Int32) → Int32 → (Nat → Int32) → Int32 → Int32 → Int32 → SRes) (n : Nat) (fs fu : Nat → Int32) (so : Nat → Nat) (un : Nat → Option Nat) (p : Nat) (b : List Nat) (ba d : Nat) : Prop :=
  ∀ (t : List Nat) (a top : Nat) (fp fsp : Nat → Int32), la fp a t → okt so t → t.length ≤ d → t.length ≤ 20 → a + t.length ≤ top → la fp ba b → ba + b.length ≤ top → top + 2 * (t.length + inr p a t.length b.length) ≤ 59000 →
    ∃ fp' fsp' : Nat → Int32, slf n fs fu fp (nI top) fsp (nI a) (nI p) (nI ba) = some (nI top, fp', nI (top + (rebT so un p b d (a, t)).length), fsp') ∧ la fp' top (rebT so un p b d (a, t)) ∧ (okt so (rebT so un p b d (a, t)) ∧ (rebT so un p b d (a, t)).length ≤ t.length + inr p a t.length b.length) ∧ ∀ i : Nat, i < top → fp' i = fp i
theorem lx_rebuilds_43_ok {slf : Nat → (Nat → Int32) → (Nat → Int32) → (Nat → Int32) → Int32 → (Nat → Int32) → Int32 → Int32 → Int32 → SRes} {n : Nat} {fs fu : Nat → Int32} {so : Nat → Nat} {un : Nat → Option Nat} {p ba d a c from_ B : Nat} {b : List Nat} (hslf : ROK slf n fs fu so un p b ba d) (hsg : SG fs fu so un) (hsu : SU so un) (hn : 100000 ≤ n) (hc : c < 5632) (hc2 : 512 ≤ c ∧ so (c / 512 - 1) ≠ 3) (hb : from_ + 2 * (B + 1) ≤ 59000) (hB : B ≤ 500) :
    ∀ (qs : List (List Nat)) (rs : List (List Nat)) (f fsp : Nat → Int32) (g k M : Nat), la f g qs.flatten → okts so qs → (∀ q ∈ qs, q.length ≤ d ∧ q.length ≤ 20) → g + qs.flatten.length ≤ from_ →
      la f from_ rs.flatten → okts so rs → la f ba b → ba + b.length ≤ from_ → f a = nI c → a < from_ → rs.flatten.length + rpot p b.length g qs ≤ B → (rs ≠ [] ∨ qs ≠ []) → k = rs.length + qs.length → qs.length < M →
      ∃ fp' fsp' : Nat → Int32, lx_rebuilds_43 slf n fs fu (nI a) (nI p) (nI ba) M (nI from_) (nI k) (nI g) (nI rs.length) f (nI (from_ + rs.flatten.length)) fsp = some (nI from_, fp', nI (from_ + (stand so un (c / 512 - 1) (rs ++ (prs g qs).map (rebT so un p b d))).length), fsp') ∧ la fp' from_ (stand so un (c / 512 - 1) (rs ++ (prs g qs).map (rebT so un p b d))) ∧ (okt so (stand so un (c / 512 - 1) (rs ++ (prs g qs).map (rebT so un p b d))) ∧ (stand so un (c / 512 - 1) (rs ++ (prs g qs).map (rebT so un p b d))).length ≤ B + 1) ∧ ∀ i : Nat, i < from_ → fp' i = f i
  | [], rs, f, fsp, g, k, M + 1, _, _, _, _, hl, hr, _, _, hfa, haf, hj, h0, hk, _ => by
    simp only [rpot, List.length_nil, Nat.add_zero] at hj hk
    subst hk
    have ho : c / 512 - 1 < 10 ∧ so (c / 512 - 1) ≠ 3 := by omega
    have hne : rs ≠ [] := h0.resolve_right (fun q => q rfl)
    obtain ⟨f', fsp', g1, g2, g3⟩ := fx_stands_ok2 (fsp := fsp) hsg ho hn hl hr (fun _ => hne) (by omega) (by omega)
    obtain ⟨s1, s2⟩ := stand_okt (un := un) (op := c / 512 - 1) hsu ho hr (fun _ => hne) (by omega)
    simp only [prs, List.map_nil, List.append_nil]
    refine ⟨f', fsp', ?_, g2, ⟨s1, by omega⟩, g3⟩
    show bx_rebuilds_43 slf n fs fu (nI a) (nI p) (nI ba) (lx_rebuilds_43 slf n fs fu (nI a) (nI p) (nI ba) M) _ _ _ _ _ _ _ = _
    unfold bx_rebuilds_43
    rw [if_pos (Int32.le_refl _), fx_operatorAt_ok hfa hc (by omega), xb1_s, opI_op hc2.1, g1, xb4_s]
  | q :: qs, rs, f, fsp, g, k, M + 1, hlq, hq, hqd, hbq, hl, hr, hba, hba2, hfa, haf, hj, _, hk, hM => by
    rw [List.flatten_cons] at hlq hbq
    rw [List.length_append] at hbq
    simp only [List.length_cons] at hk hM
    have hj2 : rs.flatten.length + (q.length + inr p g q.length b.length + rpot p b.length (g + q.length) qs) ≤ B := hj
    have h1 := la_app.mp hlq
    have hq1 := (okts_cons.mp hq).1
    have hqd1 := hqd q (List.mem_cons_self ..)
    have hrk : rs.length ≤ rs.flatten.length := wf_len (wf_flat (okts_wfs hr))
    have hqk : qs.length ≤ qs.flatten.length := wf_len (wf_flat (okts_wfs (okts_cons.mp hq).2))
    obtain ⟨f1, fsp1, g1, g2, ⟨o1, o2⟩, g3⟩ := hslf q g (from_ + rs.flatten.length) f fsp h1.1 hq1 hqd1.1 hqd1.2 (by omega) hba (by omega) (by omega)
    have hfl : (rs ++ [rebT so un p b d (g, q)]).flatten = rs.flatten ++ rebT so un p b d (g, q) := by simp
    obtain ⟨fp', fsp', k1, k2, k4, k3⟩ := lx_rebuilds_43_ok (a := a) hslf hsg hsu hn hc hc2 hb hB qs (rs ++ [rebT so un p b d (g, q)]) f1 fsp1 (g + q.length) k M
      (la_congr (fun i hi => g3 _ (by omega)) h1.2) (okts_cons.mp hq).2 (fun z hz => hqd z (List.mem_cons_of_mem _ hz)) (by omega)
      (by rw [hfl]; exact la_app.mpr ⟨la_congr (fun i hi => g3 _ (by omega)) hl, g2⟩) (okts_app.mpr ⟨hr, okts_cons.mpr ⟨o1, okts_nil⟩⟩) (la_congr (fun i hi => g3 _ (by omega)) hba) hba2 ((g3 a (by omega)).trans hfa) haf (by rw [hfl, List.length_append]; omega) (Or.inl (by simp)) (by simp; omega) (by omega)
    have e1 : rs ++ [rebT so un p b d (g, q)] ++ (prs (g + q.length) qs).map (rebT so un p b d) = rs ++ (prs g (q :: qs)).map (rebT so un p b d) := by simp [prs]
    rw [e1] at k1 k2 k4
    refine ⟨fp', fsp', ?_, k2, k4, fun i hi => by rw [k3 i hi, g3 i (by omega)]⟩
    show bx_rebuilds_43 slf n fs fu (nI a) (nI p) (nI ba) (lx_rebuilds_43 slf n fs fu (nI a) (nI p) (nI ba) M) _ _ _ _ _ _ _ = _
    unfold bx_rebuilds_43
    rw [if_neg (by rw [nI_le_iff (by omega) (by omega)]; omega), g1, xb4_s, fx_behind_ok (la_congr (fun i hi => g3 _ (by omega)) h1.1) hq1.1 hq1.2.1 (by omega) hn, xb1_s, xl_eq, nI_1]
    rw [hfl, List.length_append, List.length_append, List.length_singleton] at k1
    rw [show from_ + rs.flatten.length + (rebT so un p b d (g, q)).length = from_ + (rs.flatten.length + (rebT so un p b d (g, q)).length) by omega]
    exact k1
theorem fx_rebuilds_ok {n : Nat} {fs fu : Nat → Int32} {so : Nat → Nat} {un : Nat → Option Nat} {p ba : Nat} {b : List Nat} (hsg : SG fs fu so un) (hsu : SU so un) (hn : 100000 ≤ n) (hb1 : okt so b) (hb2 : b.length ≤ 470) (hp : p < 60000) : ∀ d : Nat, ROK (fx_rebuilds d) n fs fu so un p b ba d
  | 0 => fun t a top fp fsp hl h hd _ _ _ _ _ => absurd (wf_pos h.1) (by omega)
  | d + 1 => fun t a top fp fsp hl h hd h20 ha hba hba2 hT => by
    have ih := fx_rebuilds_ok (ba := ba) hsg hsu hn hb1 hb2 hp d
    cases t with
    | nil => exact absurd (wf_pos h.1) (by simp)
    | cons c l =>
      have hT2 := hT
      simp only [List.length_cons] at hd h20 ha hT2
      have hcc := cok_lt (col_cons.mp h.2.1).1
      show ∃ fp' fsp' : Nat → Int32, gx_rebuilds (fx_rebuilds d) n fs fu fp (nI top) fsp (nI a) (nI p) (nI ba) = _ ∧ _
      unfold gx_rebuilds
      rw [rebT_s]
      by_cases q : a = p
      · have hin : inr p a (l.length + 1) b.length = b.length := by unfold inr; rw [if_pos (by omega)]
        rw [hin] at hT2
        rw [if_pos (by rw [nI_inj (by omega) (by omega)]; exact q), if_pos q, fx_copies_ok hba hb1.1 hb1.2.1 hba2 (by omega) hn, xb3_s]
        exact ⟨_, _, rfl, put_la, ⟨hb1, by simp only [List.length_cons]; rw [hin]; omega⟩, fun i hi => put_out (Or.inl hi)⟩
      · rw [if_neg (by rw [nI_inj (by omega) (by omega)]; exact q), if_neg q, fx_partsAt_ok hl.1 hcc (by omega), xb1_s, show (0 : Int32) = nI 0 from rfl]
        have har := ar_lt (c := c)
        by_cases q4 : ar c = 0
        · rw [if_pos (by rw [q4]), if_pos q4, fx_copies_ok hl h.1 h.2.1 (by simp only [List.length_cons]; omega) (by simp only [List.length_cons]; omega) hn, xb3_s]
          exact ⟨_, _, rfl, put_la, ⟨h, by omega⟩, fun i hi => put_out (Or.inl hi)⟩
        · have hc512 : ¬ c < 512 := fun e => q4 (by unfold ar; rw [if_pos e])
          obtain ⟨q1, q2, q3⟩ := okt_op h hc512
          rw [if_neg (by rw [nI_inj (by omega) (by decide)]; exact q4), if_neg q4, xl_eq, nI_1]
          obtain ⟨k1, k2, k3⟩ := pts_of h.1
          have hl2 : la fp (a + 1) (pts (c :: l)).flatten := by rw [k3]; exact hl.2
          have hrp := rpot_le (p := p) (bl := b.length) (qs := pts (c :: l)) (a := a + 1)
          rw [k3] at hrp
          have hinr : inr p (a + 1) l.length b.length ≤ inr p a (l.length + 1) b.length := by
            unfold inr; repeat' split
            all_goals omega
          have hinb : inr p a (l.length + 1) b.length ≤ b.length := by unfold inr; split <;> omega
          obtain ⟨fp', fsp', r1, r2, r4, r3⟩ := lx_rebuilds_43_ok (a := a) ih hsg hsu hn hcc ⟨q1, q3.2⟩ (from_ := top) (B := l.length + inr p a (l.length + 1) b.length) (by omega) (by omega) (pts (c :: l)) [] fp fsp (a + 1) (ar c) n hl2 (okt_pts h) (fun z hz => by have := pts_short h.1 hz; omega) (by rw [k3]; omega) trivial okts_nil hba hba2 hl.1 (by omega) (by simp only [List.flatten_nil, List.length_nil]; omega) (Or.inr (fun e => by rw [e] at k2; simp at k2; omega)) (by simp [k2]) (by omega)
          exact ⟨fp', fsp', r1, r2, ⟨r4.1, by simp only [List.length_cons]; have := r4.2; simp only [List.nil_append] at this; omega⟩, r3⟩
