/-! ===== laysSteps, whole ===== -/
/-- all steps are told, in order, or it is too much -/
def LSO (so : Nat → Nat) (un : Nat → Option Nat) (R : RulL) (on : Int32) (np : Nat) (w : List Nat) (tm : Int32) (fpl fru fr : Nat → Int32) (M : Int32) : Prop :=
  (tm = 0 ∧ ¬ TMs so un R on np w ∧ ∃ S : List StpE, S.Pairwise slt ∧ (∀ s ∈ S, sok so s.2.2) ∧ S.length ≤ 200 ∧ SL fpl fru fr S ∧ M = nI S.length ∧ ∀ s : StpE, s ∈ S ↔ isSt so un R on np w s) ∨ (tm = 1 ∧ TMs so un R on np w)
theorem STo_end {so : Nat → Nat} {un : Nat → Option Nat} {R : RulL} {on : Int32} {np : Nat} {w : List Nat} {tm M : Int32} {fpl fru fr : Nat → Int32} (h : STo so un R on np w np 0 tm fpl fru fr M) : LSO so un R on np w tm fpl fru fr M := by
  rcases h with ⟨a, b, S, c, d, e, f, g, h⟩ | h
  · have hm : ∀ s : StpE, s ∈ S ↔ isSt so un R on np w s := fun s => (h s).trans ⟨fun q => q.1, fun q => ⟨q, Or.inl q.1⟩⟩
    refine Or.inl ⟨a, ?_, S, c, d, e, f, g, hm⟩
    rintro (⟨pl, r, h1, h2, h3, h4⟩ | ⟨L, h1, h2, h3⟩)
    · exact b pl r (Or.inl h1) h2 h3 h4
    · have := nodup_le h1 (fun s hs => (hm s).mpr (h3 s hs))
      omega
  · exact Or.inr h
theorem lx_laysSteps_25_ok {n : Nat} {fs fu fk : Nat → Int32} {so : Nat → Nat} {un : Nat → Option Nat} {on p2 : Int32}
    {T wa np : Nat} {w : List Nat} {R : RulL} (hn : 100000 ≤ n) (hsg : SG fs fu so un) (hsu : SU so un) (hw : nok so un w) (hwl : w.length ≤ 20) (hgr : great so w = false) (hwa : wa + w.length ≤ T) (hKR : KR so un fk R) (hT : T ≤ 46000) (hnp : np ≤ w.length) :
    ∀ (d pl m : Nat) (fp fsp fgp fgt fb fw ff fpl fru fr : Nat → Int32) (wt fm pv tm M : Int32), pl + d = np → la fp wa w → STo so un R on np w pl 0 tm fpl fru fr M → d + 1 < m →
      ∃ (fp' fsp' fgp' fgt' fb' fw' : Nat → Int32) (wt' fm' pv' : Int32) (ff' : Nat → Int32) (tm' : Int32) (fpl' fru' fr' : Nat → Int32) (M' : Int32), lx_laysSteps_25 n fs fu fk (nI R.length) (nI wa) on p2 m (nI np) (nI pl) fp (nI T) fsp fgp fgt fb fw wt fm pv ff tm fpl fru fr M = some (fp', nI T, fsp', fgp', fgt', fb', fw', wt', fm', pv', ff', tm', fpl', fru', fr', M') ∧ (∀ i : Nat, i < T → fp' i = fp i) ∧ LSO so un R on np w tm' fpl' fru' fr' M' := by
  intro d
  induction d with
  | zero =>
    intro pl m fp fsp fgp fgt fb fw ff fpl fru fr wt fm pv tm M hd hlw hS hm
    cases m with
    | zero => omega
    | succ m =>
      have hd' : pl = np := by omega
      subst hd'
      refine ⟨fp, fsp, fgp, fgt, fb, fw, wt, fm, pv, ff, tm, fpl, fru, fr, M, ?_, fun _ _ => rfl, STo_end hS⟩
      show bx_laysSteps_25 n fs fu fk (nI R.length) (nI wa) on p2 (lx_laysSteps_25 n fs fu fk (nI R.length) (nI wa) on p2 m) _ _ _ _ _ _ _ _ _ _ _ _ _ _ _ _ _ _ = _
      unfold bx_laysSteps_25
      rw [if_pos (Int32.le_refl _)]
  | succ d ih =>
    intro pl m fp fsp fgp fgt fb fw ff fpl fru fr wt fm pv tm M hd hlw hS hm
    cases m with
    | zero => omega
    | succ m =>
      have hR := hKR.1
      obtain ⟨f5, sp5, gp5, gt5, b5, w5, wt5, fm5, pv5, ff5, tm5, pl5, ru5, fr5, M5, y1, y2, y3⟩ := lx_laysSteps_35_ok (on := on) (p2 := p2) (x4 := nI np) (k25 := lx_laysSteps_25 n fs fu fk (nI R.length) (nI wa) on p2 m) (np := np) (pl := pl) hn hsg hsu hw hwl hgr hwa hKR hT (by omega) (by omega) R.length 0 n fp fsp fgp fgt fb fw ff fpl fru fr wt fm pv tm M (by omega) hlw hS (by omega)
      obtain ⟨fp', fsp', fgp', fgt', fb', fw', wt', fm', pv', ff', tm', fpl', fru', fr', M', x1, x2, x3⟩ := ih (pl + 1) m f5 sp5 gp5 gt5 b5 w5 ff5 pl5 ru5 fr5 wt5 fm5 pv5 tm5 M5 (by omega) (la_congr (fun i hi => y2 _ (by omega)) hlw) y3 (by omega)
      refine ⟨fp', fsp', fgp', fgt', fb', fw', wt', fm', pv', ff', tm', fpl', fru', fr', M', ?_, fun i hi => by rw [x2 i hi, y2 i hi], x3⟩
      show bx_laysSteps_25 n fs fu fk (nI R.length) (nI wa) on p2 (lx_laysSteps_25 n fs fu fk (nI R.length) (nI wa) on p2 m) _ _ _ _ _ _ _ _ _ _ _ _ _ _ _ _ _ _ = _
      unfold bx_laysSteps_25
      rw [if_neg (by rw [nI_le_iff (by omega) (by omega)]; omega)]
      exact y1.trans x1
/-- how many places are looked at -/
def npl (top : Bool) (w : List Nat) : Nat := if top then 1 else w.length
theorem fx_laysSteps_ok {n : Nat} {fs fu fk fp fsp fgp fgt fb fw ff fpl fru fr : Nat → Int32} {so : Nat → Nat} {un : Nat → Option Nat} {on wt fm pv M : Int32} {T wa : Nat} {w : List Nat} {R : RulL} {top : Bool} (hn : 100000 ≤ n) (hsg : SG fs fu so un) (hsu : SU so un) (hw : nok so un w) (hgr : great so w = false) (hwa : wa + w.length ≤ T) (hKR : KR so un fk R) (hT : T ≤ 46000) (hlw : la fp wa w) :
    ∃ (fp' fsp' fgp' fgt' fb' fw' : Nat → Int32) (wt' fm' pv' : Int32) (ff' : Nat → Int32) (tm' : Int32) (fpl' fru' fr' : Nat → Int32) (M' : Int32), fx_laysSteps n fs fu fp (nI T) fsp fk (nI R.length) fgp fgt fb fw wt fm pv ff 0 fpl fru fr M (nI wa) on (ob top) = some (fp', nI T, fsp', fgp', fgt', fb', fw', wt', fm', pv', ff', tm', fpl', fru', fr', M') ∧ (∀ i : Nat, i < T → fp' i = fp i) ∧ LSO so un R on (npl top w) w tm' fpl' fru' fr' M' := by
  have hwl : w.length ≤ 20 := by
    unfold great at hgr
    simp only [Bool.or_eq_false_iff, decide_eq_false_iff_not] at hgr
    omega
  have hw0 := wf_pos hw.1.1
  have h0 : ∀ np : Nat, STo so un R on np w 0 0 0 fpl fru fr 0 := fun np => Or.inl ⟨rfl, fun p r h _ _ => by omega, [], List.Pairwise.nil, fun s hs => absurd hs List.not_mem_nil, by simp, ⟨trivial, trivial, trivial⟩, rfl, fun s => ⟨fun h => absurd h List.not_mem_nil, fun h => by rcases h.2 with h | h <;> omega⟩⟩
  unfold fx_laysSteps
  cases top with
  | false =>
    show ∃ (fp' fsp' fgp' fgt' fb' fw' : Nat → Int32) (wt' fm' pv' : Int32) (ff' : Nat → Int32) (tm' : Int32) (fpl' fru' fr' : Nat → Int32) (M' : Int32), _ ∧ _ ∧ LSO so un R on w.length w tm' fpl' fru' fr' M'
    have := lx_laysSteps_25_ok (on := on) (p2 := ob false) (np := w.length) hn hsg hsu hw hwl hgr hwa hKR hT (Nat.le_refl _) w.length 0 n fp fsp fgp fgt fb fw ff fpl fru fr wt fm pv 0 0 (by omega) hlw (h0 _) (by omega)
    rw [if_pos (show ob false = 0 from rfl), fx_behind_ok hlw hw.1.1 hw.1.2.1 (by omega) hn, xb1_s, nI_sub (by omega), show wa + w.length - wa = w.length by omega, xl_eq]
    exact this
  | true =>
    show ∃ (fp' fsp' fgp' fgt' fb' fw' : Nat → Int32) (wt' fm' pv' : Int32) (ff' : Nat → Int32) (tm' : Int32) (fpl' fru' fr' : Nat → Int32) (M' : Int32), _ ∧ _ ∧ LSO so un R on 1 w tm' fpl' fru' fr' M'
    have := lx_laysSteps_25_ok (on := on) (p2 := ob true) (np := 1) hn hsg hsu hw hwl hgr hwa hKR hT (by omega) 1 0 n fp fsp fgp fgt fb fw ff fpl fru fr wt fm pv 0 0 (by omega) hlw (h0 _) (by omega)
    rw [if_neg (show ¬ ob true = 0 by decide)]
    exact this
/-! ===== steps stand as terms ===== -/
theorem fil_nok2 {so : Nat → Nat} {un : Nat → Option Nat} {sg : Nat → List Nat} {t : List Nat} (hsu : SU so un) (h : okt so t) (hl : t.length ≤ 20) (hv : von so un sg t) : nok so un (fil so un sg t) ∧ (fil so un sg t).length ≤ 420 := by
  refine ⟨fil_nok hsu 21 t h (by omega) (by omega) hv, ?_⟩
  have h := (filT_ok hsu 21 t h (by omega) (by omega) (von_vok hv)).2
  have e : filT so un sg 21 t = fil so un sg t := rfl
  rw [e] at h; omega
theorem reb_parts {so : Nat → Nat} {un : Nat → Option Nat} {p d : Nat} {b : List Nat} (hd : ∀ (a : Nat) (q : List Nat), nok so un q → q.length ≤ d → q.length ≤ 20 → nok so un (rebT so un p b d (a, q)) ∧ (rebT so un p b d (a, q)).length ≤ q.length + inr p a q.length b.length) : ∀ (qs : List (List Nat)) (a : Nat), noks so un qs → (∀ q ∈ qs, q.length ≤ d ∧ q.length ≤ 20) → noks so un ((prs a qs).map (rebT so un p b d)) ∧ ((prs a qs).map (rebT so un p b d)).flatten.length ≤ rpot p b.length a qs
  | [], _, _, _ => ⟨fun t ht => absurd ht List.not_mem_nil, Nat.le_refl _⟩
  | q :: qs, a, h, hl => by
    obtain ⟨h1, h2⟩ := hd a q (h q (List.mem_cons_self ..)) (hl q (List.mem_cons_self ..)).1 (hl q (List.mem_cons_self ..)).2
    obtain ⟨h3, h4⟩ := reb_parts hd qs (a + q.length) (fun t ht => h t (List.mem_cons_of_mem _ ht)) (fun t ht => hl t (List.mem_cons_of_mem _ ht))
    show noks so un (rebT so un p b d (a, q) :: (prs (a + q.length) qs).map (rebT so un p b d)) ∧ (rebT so un p b d (a, q) :: (prs (a + q.length) qs).map (rebT so un p b d)).flatten.length ≤ q.length + inr p a q.length b.length + rpot p b.length (a + q.length) qs
    refine ⟨fun t ht => ?_, ?_⟩
    · rcases List.mem_cons.mp ht with e | e
      · rw [e]; exact h1
      · exact h3 t e
    · rw [List.flatten_cons, List.length_append]; omega
theorem rebT_nok {so : Nat → Nat} {un : Nat → Option Nat} {p : Nat} {b : List Nat} (hsu : SU so un) (hb1 : nok so un b) (hb2 : b.length ≤ 470) : ∀ (d a : Nat) (t : List Nat), nok so un t → t.length ≤ d → t.length ≤ 20 → nok so un (rebT so un p b d (a, t)) ∧ (rebT so un p b d (a, t)).length ≤ t.length + inr p a t.length b.length
  | 0, a, t, h, hd, _ => absurd (wf_pos h.1.1) (by omega)
  | d + 1, a, [], h, _, _ => absurd (wf_pos h.1.1) (by simp)
  | d + 1, a, c :: l, h, hd, h20 => by
    simp only [List.length_cons] at hd h20
    rw [rebT_s]
    by_cases q : a = p
    · rw [if_pos q]
      refine ⟨hb1, ?_⟩
      unfold inr
      rw [if_pos (by simp only [List.length_cons]; omega)]; omega
    · rw [if_neg q]
      by_cases q4 : ar c = 0
      · rw [if_pos q4]; exact ⟨h, by omega⟩
      · rw [if_neg q4]
        obtain ⟨k1, k2, k3⟩ := pts_of h.1.1
        have hc5 : ¬ c < 512 := fun hc => q4 (by unfold ar; rw [if_pos hc])
        obtain ⟨q1, q2, q3⟩ := okt_op h.1 hc5
        have hp := nok_pts h
        obtain ⟨r1, r2⟩ := reb_parts (p := p) (b := b) (fun a' q' hq hl hl2 => rebT_nok hsu hb1 hb2 d a' q' hq hl hl2) (pts (c :: l)) (a + 1) hp (fun t ht => by have := pts_short h.1.1 ht; omega)
        have r3 := rpot_le (p := p) (bl := b.length) (qs := pts (c :: l)) (a := a + 1)
        rw [k3] at r3
        have r4 : inr p (a + 1) l.length b.length ≤ b.length := by unfold inr; split <;> omega
        have hne : (prs (a + 1) (pts (c :: l))).map (rebT so un p b d) ≠ [] := fun e => by
          have := congrArg List.length e
          rw [List.length_map, prs_len, k2] at this; exact q4 this
        refine ⟨stand_nf hsu q3 r1 hne (by omega), ?_⟩
        have := (stand_okt (un := un) (op := c / 512 - 1) hsu q3 (noks_okts r1) (fun _ => hne) (by omega)).2
        have r5 : inr p (a + 1) l.length b.length ≤ inr p a (c :: l).length b.length := by
          unfold inr
          simp only [List.length_cons]
          split
          · rw [if_pos (by omega)]; exact Nat.le_refl _
          · exact Nat.zero_le _
        simp only [List.length_cons] at r5 ⊢
        omega
theorem reb_nok {so : Nat → Nat} {un : Nat → Option Nat} {pl : Nat} {b w : List Nat} (hsu : SU so un) (hb1 : nok so un b) (hb2 : b.length ≤ 470) (hw : nok so un w) (hl : w.length ≤ 20) : nok so un (reb so un pl b w) := (rebT_nok hsu hb1 hb2 21 0 w hw (by omega) hl).1
theorem sel_noks {so : Nat → Nat} {un : Nat → Option Nat} {s k : Nat} {o : Bool} {qs : List (List Nat)} (h : noks so un qs) : noks so un (sel s o k qs) := fun q hq => h q (sel_mem hq)
/-- a term is not too great -/
theorem great_len {so : Nat → Nat} {w : List Nat} (h : great so w = false) : w.length ≤ 20 := by
  unfold great at h
  simp only [Bool.or_eq_false_iff, decide_eq_false_iff_not] at h
  omega
theorem stG_nok {so : Nat → Nat} {un : Nat → Option Nat} {l r w x : List Nat} {pl : Nat} (hsu : SU so un) (hw : nok so un w) (hl : w.length ≤ 20) (hpl : pl < w.length) (hr : rok so un (l, r)) (h : stG so un l r w pl x) : nok so un x ∧ great so x = false := by
  obtain ⟨rk1, rk2, rk3, rk4, rk5, rk6, rk7⟩ := hr
  have rk5 : nok so un r := rk5
  have rk6 : r.length ≤ 20 := rk6
  have rk7 : vsub l r := rk7
  obtain ⟨h1, h2⟩ := h
  refine ⟨?_, h1.1⟩
  rcases h2 with ⟨sg, a, b, c⟩ | ⟨bits, hb', sg, a, b, c⟩
  · obtain ⟨e1, e2⟩ := fil_nok2 (un := un) hsu rk5.1 rk6 (von_sub rk7 a)
    rw [c]; exact reb_nok hsu e1 (by omega) hw hl
  · obtain ⟨e1, e2⟩ := fil_nok2 (un := un) hsu rk5.1 rk6 (von_sub rk7 a)
    obtain ⟨ns1, ns2, ns3, ns4⟩ := sbt_nok hw hpl
    have ho : opn l < 10 ∧ so (opn l) ≠ 3 := by
      cases l with
      | nil => exact absurd (wf_pos rk1.1.1) (by simp)
      | cons c1 l1 => exact (okt_op rk1.1 (show ¬ c1 < 512 from Nat.not_lt.mpr rk4)).2.2
    have hpk : (pts (sbt w pl)).flatten.length + 1 ≤ (sbt w pl).length := by
      cases e : sbt w pl with
      | nil => rw [e] at ns1; exact absurd (wf_pos ns1.1.1) (by simp)
      | cons c l => rw [e] at ns1; rw [(pts_of ns1.1.1).2.2]; simp
    have hfl : (fil so un sg r :: sel bits true 0 (pts (sbt w pl))).flatten.length ≤ 439 := by
      rw [List.flatten_cons, List.length_append]
      have := sel_len (s := bits) (o := true) (k := 0) (qs := pts (sbt w pl))
      omega
    have hns : noks so un (fil so un sg r :: sel bits true 0 (pts (sbt w pl))) := fun t ht => by
      rcases List.mem_cons.mp ht with e | e
      · rw [e]; exact e1
      · exact sel_noks (nok_pts ns1) t e
    obtain ⟨f1, f2⟩ := stand_nok (op := opn l) hsu ho hns (fun e => by simp at e) (by omega)
    rw [c]; exact reb_nok hsu f1 (by omega) hw hl
theorem isSt_nok {so : Nat → Nat} {un : Nat → Option Nat} {R : RulL} {on : Int32} {np : Nat} {w : List Nat} {s : StpE} (hsu : SU so un) (hw : nok so un w) (hl : w.length ≤ 20) (hnp : np ≤ w.length) (hR : ∀ x ∈ R, rok so un x) (h : isSt so un R on np w s) : nok so un s.2.2 ∧ great so s.2.2 = false := stG_nok hsu hw hl (by have := h.1; omega) (hR _ (rul_mem h.2.1)) h.2.2.2
