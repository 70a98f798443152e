/-! ===== all choices of parts of a sum ===== -/
theorem pw6 : ∀ k : Fin 7, ((1 : Int32) <<< (nI k.val &&& 31)) - 1 = nI (2 ^ k.val - 1) := by decide +kernel
theorem sel_bits {s : Nat} : ∀ {k : Nat} {qs : List (List Nat)}, sel s false k qs = [] → ∀ i : Nat, i < qs.length → s.testBit (k + i) = false
  | _, [], _, i, hi => absurd hi (Nat.not_lt_zero _)
  | k, x :: qs, h, i, hi => by
    have h' : (if s.testBit k = false then sel s false (k + 1) qs else x :: sel s false (k + 1) qs) = [] := h
    by_cases q : s.testBit k = false
    · rw [if_pos q] at h'
      cases i with
      | zero => exact q
      | succ i =>
        simp only [List.length_cons] at hi
        have := sel_bits h' i (by omega)
        rw [show k + (i + 1) = k + 1 + i by omega]; exact this
    · rw [if_neg q] at h'; exact absurd h' (by simp)
theorem sel_none {s : Nat} {qs : List (List Nat)} (h : sel s false 0 qs = []) (hs : s < 2 ^ qs.length) : s = 0 := by
  refine Nat.eq_of_testBit_eq (fun i => ?_)
  rw [Nat.zero_testBit]
  by_cases q : i < qs.length
  · have := sel_bits h i q
    rw [Nat.zero_add] at this; exact this
  · exact Nat.testBit_lt_two_pow (Nat.lt_of_lt_of_le hs (Nat.pow_le_pow_right (by decide) (by omega)))
def opn (l : List Nat) : Nat := hd0 l / 512 - 1
/-- some parts that left may take -/
def bitok (so : Nat → Nat) (un : Nat → Option Nat) (l w : List Nat) (pl bits : Nat) : Prop := so (opn l) = 2 ∧ isop (opn l) (sbt w pl) = true ∧ (un (opn l) = none → 1 ≤ bits) ∧ bits + 1 < 2 ^ (pts (sbt w pl)).length
/-- rows that a rule makes at a place -/
def stG (so : Nat → Nat) (un : Nat → Option Nat) (l r w : List Nat) (pl : Nat) (x : List Nat) : Prop := good so w x ∧ (stA so un l r w pl x ∨ ∃ bits : Nat, bitok so un l w pl bits ∧ stB so un l r w pl (opn l) bits x)
/-- some matches that it asks for are too many -/
def TMg (so : Nat → Nat) (un : Nat → Option Nat) (l w : List Nat) (pl : Nat) : Prop := TMm so un l (sbt w pl) ∨ ∃ bits : Nat, bitok so un l w pl bits ∧ TMm so un l (stand so un (opn l) (sel bits false 0 (pts (sbt w pl))))
def GT (so : Nat → Nat) (un : Nat → Option Nat) (S0 : List StpE) (pl ru : Nat) (l r w : List Nat) (K : Nat → Prop) (tm : Int32) (fpl fru fr : Nat → Int32) (M : Int32) : Prop :=
  (tm = 0 ∧ ¬ TMm so un l (sbt w pl) ∧ (∀ bits : Nat, K bits → ¬ TMm so un l (stand so un (opn l) (sel bits false 0 (pts (sbt w pl))))) ∧ GX so S0 pl ru (fun x => good so w x ∧ (stA so un l r w pl x ∨ ∃ bits : Nat, K bits ∧ stB so un l r w pl (opn l) bits x)) 0 fpl fru fr M) ∨
  (tm = 1 ∧ TMg so un l w pl) ∨ (tm = 1 ∧ ∃ L : List (List Nat), L.Nodup ∧ 200 < S0.length + L.length ∧ ∀ x ∈ L, stG so un l r w pl x)
theorem GT_iff {so : Nat → Nat} {un : Nat → Option Nat} {S0 : List StpE} {pl ru : Nat} {l r w : List Nat} {K K' : Nat → Prop} {tm M : Int32} {fpl fru fr : Nat → Int32} (h : ∀ b : Nat, K b ↔ K' b) (hg : GT so un S0 pl ru l r w K tm fpl fru fr M) : GT so un S0 pl ru l r w K' tm fpl fru fr M := by
  rcases hg with ⟨a, b, c, d⟩ | h1 | h1
  · refine Or.inl ⟨a, b, fun bits hb' => c bits ((h bits).mpr hb'), GX_iff (fun x => ?_) d⟩
    constructor
    · rintro ⟨q1, q2 | ⟨bits, q3, q4⟩⟩
      · exact ⟨q1, Or.inl q2⟩
      · exact ⟨q1, Or.inr ⟨bits, (h bits).mp q3, q4⟩⟩
    · rintro ⟨q1, q2 | ⟨bits, q3, q4⟩⟩
      · exact ⟨q1, Or.inl q2⟩
      · exact ⟨q1, Or.inr ⟨bits, (h bits).mpr q3, q4⟩⟩
  · exact Or.inr (Or.inl h1)
  · exact Or.inr (Or.inr h1)
theorem GT_tm {so : Nat → Nat} {un : Nat → Option Nat} {S0 : List StpE} {pl ru : Nat} {l r w : List Nat} {K : Nat → Prop} {tm M : Int32} {fpl fru fr : Nat → Int32} (hg : GT so un S0 pl ru l r w K tm fpl fru fr M) : tm = 0 ∨ tm = 1 := by
  rcases hg with ⟨a, _⟩ | ⟨a, _⟩ | ⟨a, _⟩
  · exact Or.inl a
  · exact Or.inr a
  · exact Or.inr a
/-- what is too much stays too much -/
theorem GT_one {so : Nat → Nat} {un : Nat → Option Nat} {S0 : List StpE} {pl ru : Nat} {l r w : List Nat} {K K' : Nat → Prop} {M : Int32} {fpl fru fr : Nat → Int32} (hg : GT so un S0 pl ru l r w K 1 fpl fru fr M) : GT so un S0 pl ru l r w K' 1 fpl fru fr M := by
  rcases hg with ⟨a, _⟩ | h1 | h1
  · exact absurd a (by decide)
  · exact Or.inr (Or.inl h1)
  · exact Or.inr (Or.inr h1)
/-- a rule that may stand: left is no variable, right has none but left's -/
def rok (so : Nat → Nat) (un : Nat → Option Nat) (x : List Nat × List Nat) : Prop := nok so un x.1 ∧ x.1.length ≤ 20 ∧ c2 so x.1 ∧ 512 ≤ hd0 x.1 ∧ nok so un x.2 ∧ x.2.length ≤ 20 ∧ vsub x.1 x.2
theorem lx_laysSteps_166_ok {n : Nat} {fs fu fk : Nat → Int32} {so : Nat → Nat} {un : Nat → Option Nat} {mr p1 p2 x4 x10 : Int32} {k25 : Int32 → Int32 → (Nat → Int32) → Int32 → (Nat → Int32) → (Nat → Int32) → (Nat → Int32) → (Nat → Int32) → (Nat → Int32) → Int32 → Int32 → Int32 → (Nat → Int32) → Int32 → (Nat → Int32) → (Nat → Int32) → (Nat → Int32) → Int32 → HRes} {k35 : Int32 → Int32 → Int32 → (Nat → Int32) → Int32 → (Nat → Int32) → (Nat → Int32) → (Nat → Int32) → (Nat → Int32) → (Nat → Int32) → Int32 → Int32 → Int32 → (Nat → Int32) → Int32 → (Nat → Int32) → (Nat → Int32) → (Nat → Int32) → Int32 → HRes}
    {T T0 wa la9 ra pl ru c : Nat} {w left right l : List Nat} {S0 : List StpE} (hn : 100000 ≤ n) (hsg : SG fs fu so un) (hsu : SU so un) (hw : nok so un w) (hwl : w.length ≤ 20) (hwa : wa + w.length ≤ T) (hrk : rok so un (left, right)) (hra : ra + right.length ≤ T) (hT : T ≤ 47000) (hla : la9 + left.length ≤ T) (hpl : pl < w.length) (hru : ru < 1000) (hS : S0ok S0 pl ru) (h6 : (pts (sbt w pl)).length ≤ 6) (hs : sbt w pl = c :: l) (hc : 512 ≤ c) (hop : c / 512 - 1 = opn left) (h2 : so (opn left) = 2) :
    ∀ (d b m : Nat) (fp fsp fgp fgt fb fw ff fpl fru fr : Nat → Int32) (wt fm pv tm M : Int32), b + d + 1 = 2 ^ (pts (sbt w pl)).length → (un (opn left) = none → 1 ≤ b) → la fp wa w → la fp la9 left → la fp ra right → GT so un S0 pl ru left right w (fun bits => bitok so un left w pl bits ∧ bits < b) tm fpl fru fr M → d + 1 < m →
      ∃ (fp' fsp' fgp' fgt' fb' fw' : Nat → Int32) (wt' fm' pv' : Int32) (ff' : Nat → Int32) (tm' : Int32) (fpl' fru' fr' : Nat → Int32) (M' : Int32), lx_laysSteps_166 n fs fu fk mr (nI wa) p1 p2 k25 k35 m x4 (nI pl) (nI ru) (nI T0) (nI la9) (nI ra) x10 (nI b) fp (nI T) fsp fgp fgt fb fw wt fm pv ff tm fpl fru fr M = k35 x4 (nI pl) (nI (ru + 1)) fp' (nI T0) fsp' fgp' fgt' fb' fw' wt' fm' pv' ff' tm' fpl' fru' fr' M' ∧ (∀ i : Nat, i < T → fp' i = fp i) ∧ GT so un S0 pl ru left right w (bitok so un left w pl) tm' fpl' fru' fr' M' := by
  obtain ⟨rk1, rk2, rk3, rk4, rk5, rk6, rk7⟩ := hrk
  have rk1' : nok so un left := rk1
  have rk2' : left.length ≤ 20 := rk2
  have rk6' : right.length ≤ 20 := rk6
  obtain ⟨ns1, ns2, ns3, ns4⟩ := sbt_nok hw hpl
  have hcc : c < 5632 := by rw [hs] at ns1; exact cok_lt (col_cons.mp ns1.1.2.1).1
  have hK : (pts (sbt w pl)).length = ar c := by rw [hs] at ns1 ⊢; exact (pts_of ns1.1.1).2.1
  have hp6 := pw6 ⟨(pts (sbt w pl)).length, by omega⟩
  have hp6' : ((1 : Int32) <<< (nI (pts (sbt w pl)).length &&& 31)) - 1 = nI (2 ^ (pts (sbt w pl)).length - 1) := hp6
  have h64 : 2 ^ (pts (sbt w pl)).length ≤ 64 := by
    have := Nat.pow_le_pow_right (n := 2) (by decide) h6
    exact this
  have hisop : isop (opn left) (sbt w pl) = true := by rw [hs]; simp [isop, hc, hop]
  have part : ∀ fp : Nat → Int32, la fp wa w → fx_partsAt n fp (nI (wa + pl)) = some (nI (pts (sbt w pl)).length) := fun fp h => by
    have := ns4 fp wa h
    rw [hs] at this
    rw [fx_partsAt_ok this.1 hcc (by omega), hK]
  intro d
  induction d with
  | zero =>
    intro b m fp fsp fgp fgt fb fw ff fpl fru fr wt fm pv tm M hb9 hb1 hlw hll hlr hG hm
    cases m with
    | zero => omega
    | succ m =>
      refine ⟨fp, fsp, fgp, fgt, fb, fw, wt, fm, pv, ff, tm, fpl, fru, fr, M, ?_, fun _ _ => rfl, GT_iff (fun bits => ⟨fun h => h.1, fun h => ⟨h, by have := h.2.2.2; omega⟩⟩) hG⟩
      show bx_laysSteps_166 n fs fu fk mr (nI wa) p1 p2 k25 k35 (lx_laysSteps_166 n fs fu fk mr (nI wa) p1 p2 k25 k35 m) _ _ _ _ _ _ _ _ _ _ _ _ _ _ _ _ _ _ _ _ _ _ _ _ = _
      unfold bx_laysSteps_166
      rw [xl_eq, nI_add, part fp hlw, xb1_s, xl_eq, xl_eq, hp6', if_pos (by rw [nI_le_iff (by omega) (by omega)]; omega), xl_eq, nI_1]
  | succ d ih =>
    intro b m fp fsp fgp fgt fb fw ff fpl fru fr wt fm pv tm M hb9 hb1 hlw hll hlr hG hm
    cases m with
    | zero => omega
    | succ m =>
    by_cases ht : tm = 0
    · subst ht
      rcases hG with ⟨g1, g2, g3, g4⟩ | ⟨g1, _⟩ | ⟨g1, _⟩
      · have hbk : bitok so un left w pl b := ⟨h2, hisop, hb1, by omega⟩
        have hse : sel b false 0 (pts (sbt w pl)) = [] → un (opn left) ≠ none := fun e hu => by
          have := sel_none e (by omega)
          have := hb1 hu
          omega
        obtain ⟨f1, sp1, gp1, gt1, b1, w1, wt1, fm1, pv1, ff1, tm1, pl1, ru1, fr1, M1, z1, z2, z3⟩ := fx_goesSome_ok (ff := ff) (fsp := fsp) (fgp := fgp) (fgt := fgt) (fb := fb) (fw := fw) (pv := pv) (fm := fm) (wt := wt) hn hsg hsu hw hwl hwa rk5.1 rk6' hra hT rk1' rk2' rk3 hla rk7 hpl hru hS (by omega) h6 hs hc hop h2 hse hlw hll hlr g4
        have hG1 : GT so un S0 pl ru left right w (fun bits => bitok so un left w pl bits ∧ bits < b + 1) tm1 pl1 ru1 fr1 M1 := by
          rcases z3 with ⟨y1, y2⟩ | ⟨y1, y2⟩
          · rcases y2 with ⟨v1, v2⟩ | ⟨v1, L, v2, v3, v4⟩
            · refine Or.inl ⟨v1, g2, fun bits hb' => ?_, Or.inl ⟨rfl, ?_⟩⟩
              · by_cases q : bits = b
                · rw [q]; exact y1
                · exact g3 bits ⟨hb'.1, by omega⟩
              · obtain ⟨D, u1, u2, u3, u4, u5, u6⟩ := v2
                refine ⟨D, u1, u2, u3, u4, u5, fun x => (u6 x).trans ?_⟩
                constructor
                · rintro (⟨q1, q2 | ⟨bits, q3, q4⟩⟩ | ⟨q1, q2⟩)
                  · exact ⟨q1, Or.inl q2⟩
                  · exact ⟨q1, Or.inr ⟨bits, ⟨q3.1, by omega⟩, q4⟩⟩
                  · exact ⟨q2, Or.inr ⟨b, ⟨hbk, by omega⟩, q1⟩⟩
                · rintro ⟨q1, q2 | ⟨bits, q3, q4⟩⟩
                  · exact Or.inl ⟨q1, Or.inl q2⟩
                  · by_cases q : bits = b
                    · rw [q] at q4; exact Or.inr ⟨q4, q1⟩
                    · exact Or.inl ⟨q1, Or.inr ⟨bits, ⟨q3.1, by omega⟩, q4⟩⟩
            · refine Or.inr (Or.inr ⟨v1, L, v2, v3, fun x hx => ?_⟩)
              rcases v4 x hx with ⟨q1, q2 | ⟨bits, q3, q4⟩⟩ | ⟨q1, q2⟩
              · exact ⟨q1, Or.inl q2⟩
              · exact ⟨q1, Or.inr ⟨bits, q3.1, q4⟩⟩
              · exact ⟨q2, Or.inr ⟨b, hbk, q1⟩⟩
          · exact Or.inr (Or.inl ⟨y1, Or.inr ⟨b, hbk, y2⟩⟩)
        obtain ⟨fp', fsp', fgp', fgt', fb', fw', wt', fm', pv', ff', tm', fpl', fru', fr', M', x1, x2, x3⟩ := ih (b + 1) m f1 sp1 gp1 gt1 b1 w1 ff1 pl1 ru1 fr1 wt1 fm1 pv1 tm1 M1 (by omega) (fun _ => by omega) (la_congr (fun i hi => z2 _ (by omega)) hlw) (la_congr (fun i hi => z2 _ (by omega)) hll) (la_congr (fun i hi => z2 _ (by omega)) hlr) hG1 (by omega)
        refine ⟨fp', fsp', fgp', fgt', fb', fw', wt', fm', pv', ff', tm', fpl', fru', fr', M', ?_, fun i hi => by rw [x2 i hi, z2 i hi], x3⟩
        show bx_laysSteps_166 n fs fu fk mr (nI wa) p1 p2 k25 k35 (lx_laysSteps_166 n fs fu fk mr (nI wa) p1 p2 k25 k35 m) _ _ _ _ _ _ _ _ _ _ _ _ _ _ _ _ _ _ _ _ _ _ _ _ = _
        unfold bx_laysSteps_166
        rw [xl_eq, nI_add, part fp hlw, xb1_s, xl_eq, xl_eq, hp6', if_neg (by rw [nI_le_iff (by omega) (by omega)]; omega), if_pos rfl, z1, xb16_s, xl_eq, nI_1]
        exact x1
      · exact absurd g1 (by decide)
      · exact absurd g1 (by decide)
    · have ht1 : tm = 1 := (GT_tm hG).resolve_left ht
      subst ht1
      refine ⟨fp, fsp, fgp, fgt, fb, fw, wt, fm, pv, ff, 1, fpl, fru, fr, M, ?_, fun _ _ => rfl, GT_one hG⟩
      show bx_laysSteps_166 n fs fu fk mr (nI wa) p1 p2 k25 k35 (lx_laysSteps_166 n fs fu fk mr (nI wa) p1 p2 k25 k35 m) _ _ _ _ _ _ _ _ _ _ _ _ _ _ _ _ _ _ _ _ _ _ _ _ = _
      unfold bx_laysSteps_166
      rw [xl_eq, nI_add, part fp hlw, xb1_s, xl_eq, xl_eq, hp6', if_neg (by rw [nI_le_iff (by omega) (by omega)]; omega), if_neg (by decide), xl_eq, nI_1]
