/-! ===== all matches of a pattern and a term ===== -/
def Mat (so : Nat → Nat) (un : Nat → Option Nat) (pv : Int32) (p t : List Nat) (k : List Nat) : Prop := ∃ sg : Nat → List Nat, von so un sg p ∧ fil so un sg p = t ∧ k = key pv sg
theorem fx_laysMatches_ok {n : Nat} {fs fu : Nat → Int32} {so : Nat → Nat} {un : Nat → Option Nat} (hn : 100000 ≤ n) (hsg : SG fs fu so un) (hsu : SU so un) {fp fgp fgt fb fw ff : Nat → Int32} {T pa ta : Nat} {wt fm pv : Int32} {p t : List Nat} (hg : gok so un fp T (pa, p, ta, t)) (hT : T ≤ 48000) :
    ∃ (fp' fgp' fgt' fb' fw' : Nat → Int32) (fm' pv' : Int32) (ff' : Nat → Int32) (tm' : Int32), fx_laysMatches n fs fu fp (nI T) fgp fgt fb fw wt fm pv ff 0 (nI pa) (nI ta) = some (fp', nI T, fgp', fgt', fb', fw', nI 0, fm', pv', ff', tm') ∧ (∀ i : Nat, i < T → fp' i = fp i) ∧ (∀ v : Nat, v < 5 → (hb pv' v = true ↔ v ∈ p)) ∧ EXS (Mat so un pv' p t) fm' ff' tm' := by
  have hg0 := hg
  obtain ⟨⟨a1, a2, a3, a4, a5⟩, _⟩ := hg
  have a1' : la fp pa p := a1
  have a2' : nok so un p := a2
  have a4' : p.length ≤ 20 := a4
  have a5' : pa + p.length ≤ T := a5
  obtain ⟨pv', v1, v2⟩ := fx_variablesAt_ok (n := n) a1' a2'.1.1 a2'.1.2.1 (by omega) hn
  have loop : ∀ (c j m : Nat) (fb : Nat → Int32), j + c = 5 → (∀ v : Nat, v < j → fb v = -1) → c < m →
      ∃ (fp' fgp' fgt' fb' fw' : Nat → Int32) (fm' : Int32) (ff' : Nat → Int32) (tm' : Int32), lx_laysMatches_21 n fs fu (nI pa) (nI ta) m (nI j) fp (nI T) fgp fgt fb fw (nI 0) (nI 0) pv' ff 0 = some (fp', nI T, fgp', fgt', fb', fw', nI 0, fm', pv', ff', tm') ∧ (∀ i : Nat, i < T → fp' i = fp i) ∧ EXS (Mat so un pv' p t) fm' ff' tm' := by
    intro c
    induction c with
    | zero =>
      intro j m fb hj hb' hm
      cases m with
      | zero => omega
      | succ m =>
        have hbn : bnd so un fp fb T (fun _ => none) := fun v hv => Or.inl ⟨rfl, hb' v (by omega)⟩
        have hcv : cov pv' (fun _ => none) [(pa, p, ta, t)] := fun v hv hh => Or.inr ⟨_, List.mem_singleton.mpr rfl, (v2 v hv).mp hh⟩
        have he : EXS (fun _ => False) (nI 0) ff 0 := Or.inl ⟨rfl, [], ⟨fun k hk => absurd hk List.not_mem_nil, List.Pairwise.nil⟩, by simp, rfl, trivial, fun k => by simp⟩
        obtain ⟨fp', fgp', fgt', fb', fw', fm', ff', tm', r1, r2, _, _, _, r6⟩ := fx_solves_ok (pv := pv') hn hsg hsu 21 fp (upd fgp 0 (nI pa)) (upd fgt 0 (nI ta)) fb fw T 0 (nI 0) ff 0 [(pa, p, ta, t)] (fun _ => none) (fun _ => False)
          (fun g hg' => by rw [List.mem_singleton.mp hg']; exact hg0) ⟨upd_eq _ _ _, trivial⟩ ⟨upd_eq _ _ _, trivial⟩ hbn (by show p.length + 0 < 21; omega) (by show p.length + 0 ≤ 20; omega) (by omega) (by omega) hcv he
        show ∃ (fp' fgp' fgt' fb' fw' : Nat → Int32) (fm' : Int32) (ff' : Nat → Int32) (tm' : Int32), bx_laysMatches_21 n fs fu (nI pa) (nI ta) (lx_laysMatches_21 n fs fu (nI pa) (nI ta) m) (nI j) fp (nI T) fgp fgt fb fw (nI 0) (nI 0) pv' ff 0 = _ ∧ _
        unfold bx_laysMatches_21
        have hj5 : j = 5 := by omega
        have hl1 : nI [((pa, p, ta, t) : Goal)].length = (1 : Int32) := rfl
        rw [hl1] at r1
        rw [hj5, if_pos (by decide), show fx_aims n fgp fgt (0 : Int32) (nI pa) (nI ta) = some (upd fgp 0 (nI pa), upd fgt 0 (nI ta)) from fx_aims_ok (i := 0) (by decide), xb2_s, r1, xb10_s]
        refine ⟨fp', fgp', fgt', fb', fw', fm', ff', tm', rfl, r2, EXS_iff (fun k => ?_) r6⟩
        constructor
        · rintro (h | ⟨sg, _, s2, s3⟩)
          · exact h.elim
          · have := s2 _ (List.mem_singleton.mpr rfl)
            exact ⟨sg, this.1, this.2, s3⟩
        · rintro ⟨sg, s1, s2, s3⟩
          exact Or.inr ⟨sg, fun v _ r hr => by simp at hr, fun g hg' => by rw [List.mem_singleton.mp hg']; exact ⟨s1, s2⟩, s3⟩
    | succ c ih =>
      intro j m fb hj hb' hm
      cases m with
      | zero => omega
      | succ m =>
        obtain ⟨fp', fgp', fgt', fb', fw', fm', ff', tm', r1, r2, r3⟩ := ih (j + 1) m (upd fb j (-1)) (by omega) (fun v hv => by
          by_cases q : v = j
          · rw [q, upd_eq]
          · rw [upd_ne q]; exact hb' v (by omega)) (by omega)
        refine ⟨fp', fgp', fgt', fb', fw', fm', ff', tm', ?_, r2, r3⟩
        show bx_laysMatches_21 n fs fu (nI pa) (nI ta) (lx_laysMatches_21 n fs fu (nI pa) (nI ta) m) (nI j) fp (nI T) fgp fgt fb fw (nI 0) (nI 0) pv' ff 0 = _
        unfold bx_laysMatches_21
        rw [show (5 : Int32) = nI 5 from rfl, if_neg (by rw [nI_le_iff (by decide) (by omega)]; omega), xw_n (by omega) (by decide), xl_eq, nI_1]
        exact r1
  obtain ⟨fp', fgp', fgt', fb', fw', fm', ff', tm', r1, r2, r3⟩ := loop 5 0 n fb (by omega) (fun v hv => absurd hv (Nat.not_lt_zero v)) (by omega)
  refine ⟨fp', fgp', fgt', fb', fw', fm', pv', ff', tm', ?_, r2, v2, r3⟩
  unfold fx_laysMatches
  rw [v1, xb1_s]
  exact r1
