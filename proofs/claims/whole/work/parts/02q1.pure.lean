/-! ===== goesSome: some parts of a sum match, right and the others come ===== -/
theorem stand_nil {so : Nat → Nat} {un : Nat → Option Nat} {op u : Nat} (h2 : so op = 2) (hu : un op = some u) : stand so un op [] = [cdo u 0] := by
  unfold stand
  rw [if_neg (by omega)]
  exact mkt_nil h2 hu
theorem leaf_nok {so : Nat → Nat} {un : Nat → Option Nat} {op u : Nat} (hsu : SU so un) (ho : op < 10 ∧ so op ≠ 3) (hu : un op = some u) : nok so un [cdo u 0] := by
  obtain ⟨q1, q2⟩ := hsu op u ho hu
  have ha : ar (cdo u 0) = 0 := ar_code (by decide)
  refine ⟨⟨wf_mk (by rw [ha]; rfl), col_cons.mpr ⟨cok_code q1 (by decide), col_nil⟩, ?_⟩, nf_leaf ha⟩
  intro e he _
  rw [List.mem_singleton.mp he, show cdo u 0 / 512 - 1 = u by unfold cdo; omega]; omega
theorem stand_nok {so : Nat → Nat} {un : Nat → Option Nat} {op : Nat} {ts : List (List Nat)} (hsu : SU so un) (ho : op < 10 ∧ so op ≠ 3) (h : noks so un ts) (h0 : ts = [] → so op = 2 ∧ un op ≠ none) (hN : ts.flatten.length < 512) : nok so un (stand so un op ts) ∧ (stand so un op ts).length ≤ ts.flatten.length + 1 := by
  by_cases q : ts = []
  · obtain ⟨h2, hu⟩ := h0 q
    subst q
    cases e : un op with
    | none => exact absurd e hu
    | some u =>
      rw [stand_nil h2 e]
      exact ⟨leaf_nok hsu ho e, by simp⟩
  · exact ⟨stand_nf hsu ho h q hN, (stand_okt hsu ho (noks_okts h) (fun _ => q) hN).2⟩
theorem sel_mem {s : Nat} {o : Bool} : ∀ {k : Nat} {qs : List (List Nat)} {q : List Nat}, q ∈ sel s o k qs → q ∈ qs
  | _, [], q, h => absurd h List.not_mem_nil
  | k, x :: qs, q, h => by
    have h' : q ∈ (if s.testBit k = o then sel s o (k + 1) qs else x :: sel s o (k + 1) qs) := h
    split at h'
    · exact List.mem_cons_of_mem _ (sel_mem h')
    · rcases List.mem_cons.mp h' with e | e
      · rw [e]; exact List.mem_cons_self ..
      · exact List.mem_cons_of_mem _ (sel_mem e)
theorem sel_len {s : Nat} {o : Bool} : ∀ {k : Nat} {qs : List (List Nat)}, (sel s o k qs).flatten.length ≤ qs.flatten.length
  | _, [] => Nat.le_refl _
  | k, x :: qs => by
    have ih := sel_len (s := s) (o := o) (k := k + 1) (qs := qs)
    show (if s.testBit k = o then sel s o (k + 1) qs else x :: sel s o (k + 1) qs).flatten.length ≤ _
    rw [List.flatten_cons, List.length_append]
    split
    · omega
    · rw [List.flatten_cons, List.length_append]; omega
/-- rows that a rule makes of some parts of a sum at a place -/
def stB (so : Nat → Nat) (un : Nat → Option Nat) (left right w : List Nat) (pl op s : Nat) (x : List Nat) : Prop := ∃ sg : Nat → List Nat, von so un sg left ∧ fil so un sg left = stand so un op (sel s false 0 (pts (sbt w pl))) ∧ x = reb so un pl (stand so un op (fil so un sg right :: sel s true 0 (pts (sbt w pl)))) w
abbrev HRes := Option ((Nat → Int32) × Int32 × (Nat → Int32) × (Nat → Int32) × (Nat → Int32) × (Nat → Int32) × (Nat → Int32) × Int32 × Int32 × Int32 × (Nat → Int32) × Int32 × (Nat → Int32) × (Nat → Int32) × (Nat → Int32) × Int32)
theorem lx_goesSome_stop {n m : Nat} {fs fu ff fp fsp fgp fgt fb fw fpl fru fr : Nat → Int32} {p0 p1 p2 p3 p4 p5 x7 x8 x9 x10 x11 x12 top wt fm pv M : Int32} : lx_goesSome_61 n fs fu p0 p1 p2 p3 p4 p5 (m + 1) x7 x8 x9 x10 x11 x12 fp top fsp fgp fgt fb fw wt fm pv ff 1 fpl fru fr M = some (fp, x9, fsp, fgp, fgt, fb, fw, wt, fm, pv, ff, 1, fpl, fru, fr, M) := by
  show bx_goesSome_61 n fs fu p0 p1 p2 p3 p4 p5 (lx_goesSome_61 n fs fu p0 p1 p2 p3 p4 p5 m) _ _ _ _ _ _ _ _ _ _ _ _ _ _ _ _ _ _ _ _ _ _ = _
  unfold bx_goesSome_61
  by_cases q : fm ≤ x12
  · rw [if_pos q]
  · rw [if_neg q, if_neg (by decide)]
theorem lx_goesSome_ok {n : Nat} {fs fu ff fgp fgt fb fw : Nat → Int32} {so : Nat → Nat} {un : Nat → Option Nat} {pv p3 x9 x10 wt : Int32} {T wa ra pl ru op bits : Nat} {w left right : List Nat} {S0 : List StpE} {P : List Nat → Prop} (hn : 100000 ≤ n) (hsg : SG fs fu so un) (hsu : SU so un) (hw : nok so un w) (hwl : w.length ≤ 20) (hwa : wa + w.length ≤ T) (hr : okt so right) (hrl : right.length ≤ 20) (hra : ra + right.length ≤ T) (hT : T ≤ 48020) (hl : okt so left) (hvs : vsub left right) (hpv : pvs pv left) (hpl : pl < w.length) (hru : ru < 1000) (hS : S0ok S0 pl ru) (ho : op < 10 ∧ so op ≠ 3) (hbits : bits < 64) (h6 : (pts (sbt w pl)).length ≤ 6) :
    ∀ (B A : List (List Nat)) (fp fsp fpl fru fr : Nat → Int32) (M tm : Int32) (m : Nat), KS (A ++ B) → (A ++ B).length ≤ 300 → la ff 0 (A ++ B).flatten → (∀ k ∈ A ++ B, Mat so un pv left (stand so un op (sel bits false 0 (pts (sbt w pl)))) k) → la fp wa w → la fp ra right →
      GX so S0 pl ru (fun x => P x ∨ ((∃ k ∈ A, ∃ sg : Nat → List Nat, von so un sg left ∧ fil so un sg left = stand so un op (sel bits false 0 (pts (sbt w pl))) ∧ key pv sg = k ∧ x = reb so un pl (stand so un op (fil so un sg right :: sel bits true 0 (pts (sbt w pl)))) w) ∧ good so w x)) tm fpl fru fr M → B.length + 1 < m →
      ∃ (fp' fsp' : Nat → Int32) (tm' : Int32) (fpl' fru' fr' : Nat → Int32) (M' : Int32), lx_goesSome_61 n fs fu (nI wa) (nI pl) (nI ru) p3 (nI ra) (nI bits) m (nI (wa + pl)) (nI op) x9 x10 (nI T) (nI A.length) fp (nI T) fsp fgp fgt fb fw wt (nI (A ++ B).length) pv ff tm fpl fru fr M = some (fp', x9, fsp', fgp, fgt, fb, fw, wt, nI (A ++ B).length, pv, ff, tm', fpl', fru', fr', M') ∧ (∀ i : Nat, i < T → fp' i = fp i) ∧
        GX so S0 pl ru (fun x => P x ∨ ((∃ k ∈ A ++ B, ∃ sg : Nat → List Nat, von so un sg left ∧ fil so un sg left = stand so un op (sel bits false 0 (pts (sbt w pl))) ∧ key pv sg = k ∧ x = reb so un pl (stand so un op (fil so un sg right :: sel bits true 0 (pts (sbt w pl)))) w) ∧ good so w x)) tm' fpl' fru' fr' M' := by
  intro B
  obtain ⟨ns1, ns2, ns3, ns4⟩ := sbt_nok hw hpl
  have hpk : (pts (sbt w pl)).flatten.length ≤ 19 := by
    cases e : sbt w pl with
    | nil => rw [e] at ns1; exact absurd (wf_pos ns1.1.1) (by simp)
    | cons c l =>
      rw [e] at ns1 ns2
      rw [(pts_of ns1.1.1).2.2]; simp only [List.length_cons] at ns2; omega
  have hos : (sel bits true 0 (pts (sbt w pl))).flatten.length ≤ 19 := Nat.le_trans sel_len hpk
  have hosn : noks so un (sel bits true 0 (pts (sbt w pl))) := fun q hq => nok_pts ns1 q (sel_mem hq)
  induction B with
  | nil =>
    intro A fp fsp fpl fru fr M tm m _ _ _ _ _ _ hG hm
    cases m with
    | zero => omega
    | succ m =>
      refine ⟨fp, fsp, tm, fpl, fru, fr, M, ?_, fun _ _ => rfl, by rw [List.append_nil]; exact hG⟩
      show bx_goesSome_61 n fs fu _ _ _ p3 _ _ (lx_goesSome_61 n fs fu _ _ _ p3 _ _ m) _ _ _ _ _ _ _ _ _ _ _ _ _ _ _ _ _ _ _ _ _ _ = _
      unfold bx_goesSome_61
      rw [List.append_nil, if_pos (Int32.le_refl _)]
  | cons k B ih =>
    intro A fp fsp fpl fru fr M tm m hK hN hff hF hlw hlr hG hm
    simp only [List.length_cons] at hm
    cases m with
    | zero => omega
    | succ m =>
    by_cases ht : tm = 0
    · subst ht
      obtain ⟨sg, s1, s2, s3⟩ := hF k (List.mem_append_right _ (List.mem_cons_self ..))
      have hAB : (A ++ k :: B).length = A.length + (B.length + 1) := by simp
      have hvr := von_sub hvs s1
      have hpvl : ∀ v : Nat, v < 5 → hb pv v = true → (sg v).length ≤ 20 := fun v hv q => (von_pv hpv s1 v hv q).2
      rw [s3] at hff
      have hrow := found_row hpvl (fun q hq => hK.1 q (List.mem_append_left _ hq)) hff
      rw [← s3] at hff
      have hvok := von_vok hvr
      obtain ⟨f1, sp1, g1, g2, g3⟩ := fx_fills_ok (ff := ff) (sg := sg) (m := A.length) hsg hsu hn (by omega) 21 right ra T fp fsp hlr hr (by omega) hrl hra (fun c hc q => by
        have h5 : c < 5 := by rcases hr.2.1 c hc with h | h <;> omega
        exact hrow c h5 ((hpv c h5).mpr (hvs c hc q))) hvok (by omega)
      obtain ⟨b1, b2⟩ := filT_ok hsu 21 right hr (by omega) (by omega) hvok
      have eb : filT so un sg 21 right = fil so un sg right := rfl
      rw [eb] at g1 g2 b1 b2
      have hb4 : (fil so un sg right).length ≤ 420 := by omega
      have hlw1 : la f1 wa w := la_congr (fun i hi => g3 _ (by omega)) hlw
      have hls1 := ns4 f1 wa hlw1
      have su := fx_sumOf_ok (n := n) (s := bits) (o := true) (top := T + (fil so un sg right).length) hn hbits hls1 ns1.1 h6 (by omega) (by omega)
      have hfl : (fil so un sg right :: sel bits true 0 (pts (sbt w pl))).flatten.length = (fil so un sg right).length + (sel bits true 0 (pts (sbt w pl))).flatten.length := by rw [List.flatten_cons, List.length_append]
      have hfe : (fil so un sg right :: sel bits true 0 (pts (sbt w pl))).flatten = fil so un sg right ++ (sel bits true 0 (pts (sbt w pl))).flatten := List.flatten_cons ..
      have hok2 : okts so (fil so un sg right :: sel bits true 0 (pts (sbt w pl))) := okts_cons.mpr ⟨b1, noks_okts hosn⟩
      obtain ⟨f3, sp3, d1, d2, d3⟩ := fx_stands_ok2 (fsp := sp1) (from_ := T) (op := op) hsg ho hn (ts := fil so un sg right :: sel bits true 0 (pts (sbt w pl))) (fp := put f1 (T + (fil so un sg right).length) (sel bits true 0 (pts (sbt w pl))).flatten) (by rw [hfe]; exact la_app.mpr ⟨la_put (Or.inl (Nat.le_refl _)) g2, put_la⟩) hok2 (fun _ e => by simp at e) (by omega) (by omega)
      obtain ⟨c1, c2⟩ := stand_okt (un := un) (op := op) hsu ho hok2 (fun _ e => by simp at e) (by omega)
      rw [hfl] at c2 d1
      rw [Nat.add_assoc] at su
      have hg5 : ∀ i : Nat, i < T → f3 i = fp i := fun i hi => by rw [d3 i hi, put_out (Or.inl (by omega)), g3 i hi]
      have hlw3 : la f3 wa w := la_congr (fun i hi => hg5 _ (by omega)) hlw
      obtain ⟨f2, sp2, h1, h2, ⟨h3, h4⟩, h5⟩ := fx_rebuilds_ok (ba := T) (p := wa + pl) hsg hsu hn c1 (by omega) (by omega) 21 w wa (T + (stand so un op (fil so un sg right :: sel bits true 0 (pts (sbt w pl)))).length) f3 sp3 hlw3 hw.1 (by omega) hwl (by omega) d2 (Nat.le_refl _) (by unfold inr; split <;> omega)
      rw [reb_at] at h1 h2 h3 h4
      have hin : inr (wa + pl) wa w.length (stand so un op (fil so un sg right :: sel bits true 0 (pts (sbt w pl)))).length ≤ (stand so un op (fil so un sg right :: sel bits true 0 (pts (sbt w pl)))).length := by unfold inr; split <;> omega
      have hlw2 : la f2 wa w := la_congr (fun i hi => h5 _ (by omega)) hlw3
      obtain ⟨tm', fpl', fru', fr', M', a1, a2⟩ := addsStep_GX (fs := fs) hn hsg h2 h3 (by omega) hlw2 hw.1 (by omega) (by omega) hru hS hG
      have hAk : A ++ k :: B = (A ++ [k]) ++ B := by simp
      obtain ⟨fp', fsp', tm2, fpl2, fru2, fr2, M2, z1, z2, z3⟩ := ih (A ++ [k]) f2 sp2 fpl' fru' fr' M' tm' m (by rw [← hAk]; exact hK) (by rw [← hAk]; exact hN) (by rw [← hAk]; exact hff) (by rw [← hAk]; exact hF) hlw2 (la_congr (fun i hi => by rw [h5 _ (by omega), hg5 _ (by omega)]) hlr) (GX_iff (fun x => by
        constructor
        · rintro ((h | ⟨⟨k', q1, q2⟩, q3⟩) | ⟨q1, q2⟩)
          · exact Or.inl h
          · exact Or.inr ⟨⟨k', List.mem_append_left _ q1, q2⟩, q3⟩
          · exact Or.inr ⟨⟨k, List.mem_append_right _ (List.mem_singleton.mpr rfl), sg, s1, s2, s3.symm, q1⟩, q2⟩
        · rintro (h | ⟨⟨k', q1, sg', q2, q3, q4, q5⟩, q6⟩)
          · exact Or.inl (Or.inl h)
          · rcases List.mem_append.mp q1 with h | h
            · exact Or.inl (Or.inr ⟨⟨k', h, sg', q2, q3, q4, q5⟩, q6⟩)
            · have e := List.mem_singleton.mp h
              subst e
              refine Or.inr ⟨?_, q6⟩
              have := key_inj hpv q2 s1 hl.2.1 (q4.trans s3)
              rw [q5, fil_congr hr.1 hrl (fun c hc q => this c (hvs c hc q) q)]) a2) (by omega)
      refine ⟨fp', fsp', tm2, fpl2, fru2, fr2, M2, ?_, fun i hi => by rw [z2 i hi, h5 i (by omega), hg5 i hi], by rw [hAk]; exact z3⟩
      show bx_goesSome_61 n fs fu _ _ _ p3 _ _ (lx_goesSome_61 n fs fu _ _ _ p3 _ _ m) _ _ _ _ _ _ _ _ _ _ _ _ _ _ _ _ _ _ _ _ _ _ = _
      unfold bx_goesSome_61
      rw [if_neg (by rw [nI_le_iff (by omega) (by omega)]; omega), if_pos rfl, g1, xb4_s, show (1 : Int32) = ob true from rfl, su, xb2_s, d1, xb4_s, h1, xb4_s, a1, xb5_s, xl_eq, show ob true = (1 : Int32) from rfl, nI_1, hAk]
      have hAl : (A ++ [k]).length = A.length + 1 := by simp
      rw [hAl] at z1
      exact z1
    · have ht1 : tm = 1 := by
        rcases hG with ⟨a, _⟩ | ⟨a, _⟩
        · exact absurd a ht
        · exact a
      have hG2 := GX_more (Q := fun x => P x ∨ ((∃ k' ∈ A ++ k :: B, ∃ sg : Nat → List Nat, von so un sg left ∧ fil so un sg left = stand so un op (sel bits false 0 (pts (sbt w pl))) ∧ key pv sg = k' ∧ x = reb so un pl (stand so un op (fil so un sg right :: sel bits true 0 (pts (sbt w pl)))) w) ∧ good so w x)) ht (fun x h => by
        rcases h with h | ⟨⟨k', q1, q2⟩, q3⟩
        · exact Or.inl h
        · exact Or.inr ⟨⟨k', List.mem_append_left _ q1, q2⟩, q3⟩) hG
      subst ht1
      exact ⟨fp, fsp, 1, fpl, fru, fr, M, lx_goesSome_stop, fun _ _ => rfl, hG2⟩
