/-! ===== before a signature is told ===== -/
theorem isn_0 {x : Int32} : ¬ isn x 0 := fun h => by
  obtain ⟨i, i1, _⟩ := isn_of (by decide) h
  exact absurd i1 (Nat.not_lt_zero _)
theorem SHC_none {so ma : Nat → Nat} {un : Nat → Option Nat} {nv : Nat} {nmL : Nat → List Nat} {sh : Option (List Nat)} {sw rw0 : Nat → Nat → Int32} (hs : SHC sw rw0 so ma un nv nmL sh) (h : RWS 1 rw0 []) : none = sh := by
  cases sh with
  | none => rfl
  | some t => exact absurd (h.2.1.symm.trans hs.2.1.2.1) (show ¬ (nI 0 = nI 1) by decide)
/-- the class's cells when nothing is told -/
def CLS0 (xx h v ga rt rs sw rw : Nat → Nat → Int32) (w : Nat → Nat → Int64) (fault : Int32) (L : List Nat) : Prop :=
  TPC h L ∧ h 0 0 = nI L.length ∧ SGC ga (soF []) (maF []) (unF []) 0 0 (nmF [] []) ∧ RWS 30 rt [] ∧ RWS 16 rs [] ∧ xx 0 0 = 0 ∧ xx 0 1 = fault ∧ SHC sw rw (soF []) (maF []) (unF []) 0 (nmF [] []) none ∧ ∃ (las : Nat → Bool) (N : List (List Nat)), TB v w las N
theorem SIG_nil {nm nmm fs fm fu : Nat → Int32} : SIG nm nmm fs fm fu (soF []) (maF []) (unF []) 0 0 (nmF [] []) := by
  have s3 : ∀ o : Nat, soF [] o = 3 := fun o => soF_ge (Nat.not_lt_zero _)
  refine ⟨fun o h => absurd (s3 o) h.2, ⟨by decide, fun o h => ?_, fun o h => ?_, fun o u h => ?_⟩, fun i h => ?_, ⟨by decide, fun q h => absurd h (Nat.not_lt_zero _)⟩, fun q h => absurd h (Nat.not_lt_zero _)⟩
  · rw [s3 o] at h; exact absurd h (by decide)
  · rw [s3 o] at h; exact absurd h (by decide)
  · unfold unF at h
    rw [if_neg (show ¬ o < ([] : List OpE).length from Nat.not_lt_zero _)] at h
    exact nomatch h
  · rcases h with h | h
    · exact absurd (s3 i) h.2
    · omega
theorem RFS_nil {f nm nmm fs fm fu fk shr tx : Nat → Int32} : RFS f nm nmm fs fm fu fk shr tx 0 0 0 0 0 0 0 [] [] [] [] [] none :=
  ⟨TPE_nil, rfl, SIG_nil, rfl, rfl, ⟨by decide, fun _ hx => absurd hx List.not_mem_nil, List.nodup_nil, fun i hi => absurd hi (Nat.not_lt_zero i)⟩, rfl, ⟨⟨by decide, fun _ hx => absurd hx List.not_mem_nil, fun i hi => absurd hi (Nat.not_lt_zero i)⟩, fun _ hx => absurd hx List.not_mem_nil⟩, rfl, ⟨rfl, rfl⟩, by decide, by decide⟩
theorem st0_matches {n : Nat} {f nm nmm fs fm9 fu fk shr tx fp fgp fgt fb fw ff : Nat → Int32} {taped ops9 vs9 terms rules iss shn on fault th top wt fm pv tm x y : Int32} {xx h v ga rt rs sw rw0 u : Nat → Nat → Int32} {w : Nat → Nat → Int64} {L : List Nat} (hn : 100000000 ≤ n) (hr : RFS f nm nmm fs fm9 fu fk shr tx taped ops9 vs9 terms rules iss shn L [] [] [] [] none) (hc : CLS0 xx h v ga rt rs sw rw0 w fault L) :
    ∃ (r : Int32) (th' : Int32) (fp' : Nat → Int32) (top' : Int32) (fgp' : Nat → Int32) (fgt' : Nat → Int32) (fb' : Nat → Int32) (fw' : Nat → Int32) (wt' : Int32) (fm' : Int32) (pv' : Int32) (ff' : Nat → Int32) (tm' : Int32), fx_matches n th fs fu fp top fk terms fgp fgt fb fw wt fm pv ff tm x y = some (r, th', fp', top', fgp', fgt', fb', fw', wt', fm', pv', ff', tm') ∧ fx_X9_matches n rt v w ga u x y = some (3, 0, v, w, u) ∧ AG [(1, 3), (2, 2)] th' 3 r 0 ∧
      RFS f nm nmm fs fm9 fu fk shr tx taped ops9 vs9 terms rules iss shn L [] [] [] [] none := by
  obtain ⟨r1, rfl, r3, rfl, rfl, r6, rfl, r8, rfl, r10, r11, r12⟩ := hr
  obtain ⟨c1, c2, c3, c4, c5, c6, c7, c8, c9⟩ := hc
  have hn5 : 100000 ≤ n := by omega
  have q0 : ¬ isn x ([] : List (List Nat)).length := isn_0
  have g : fx_X9_matches n rt v w ga u x y = some (3, 0, v, w, u) := by
    unfold fx_X9_matches
    rw [fx_checkTerm_c c4, xb1_s, if_neg q0, if_neg (by decide)]
  obtain ⟨r, th', fp', top', fgp', fgt', fb', fw', wt', fm', pv', ff', tm', e, hAa⟩ := fx_matches_ok (fs := fs) (fu := fu) (fk := fk) (fp := fp) (fgp := fgp) (fgt := fgt) (fb := fb) (fw := fw) (ff := ff) (th := th) (top := top) (wt := wt) (fm := fm) (pv := pv) (tm := tm) (x := x) (y := y) hn5 r3.1 r3.2.1 r6
  have agg : AG [(1, 3), (2, 2)] th' 3 r 0 := an_matches r6.1 hAa (by first | exact Or.inr (Or.inr ⟨q0, rfl, rfl⟩) | exact Or.inr (Or.inr ⟨fun g => q0 g.1, rfl, rfl⟩) | exact Or.inr ⟨q0, rfl, rfl, rfl, rfl⟩ | exact Or.inr ⟨fun g => q0 g.1, rfl, rfl, rfl, rfl⟩ | exact Or.inr (Or.inr ⟨q0, rfl, rfl, rfl, rfl⟩) | exact Or.inr (Or.inr ⟨fun g => q0 g.1, rfl, rfl, rfl, rfl⟩) | exact Or.inr ⟨Or.inr (Or.inr ⟨q0, rfl⟩), rfl, rfl, rfl⟩)
  exact ⟨r, th', fp', top', fgp', fgt', fb', fw', wt', fm', pv', ff', tm', e, g, agg, ⟨r1, rfl, r3, rfl, rfl, r6, rfl, r8, rfl, r10, r11, r12⟩⟩
theorem st0_bound {n : Nat} {f nm nmm fs fm9 fu fk shr tx fp fsp fgp fgt fb fw ff : Nat → Int32} {taped ops9 vs9 terms rules iss shn on fault th top wt fm pv tm x y k z : Int32} {xx h v ga rt rs sw rw0 u rc : Nat → Nat → Int32} {w : Nat → Nat → Int64} {L : List Nat} (hn : 100000000 ≤ n) (hr : RFS f nm nmm fs fm9 fu fk shr tx taped ops9 vs9 terms rules iss shn L [] [] [] [] none) (hc : CLS0 xx h v ga rt rs sw rw0 w fault L) :
    ∃ (r : Int32) (th' : Int32) (fp' : Nat → Int32) (top' : Int32) (fsp' : Nat → Int32) (fgp' : Nat → Int32) (fgt' : Nat → Int32) (fb' : Nat → Int32) (fw' : Nat → Int32) (wt' : Int32) (fm' : Int32) (pv' : Int32) (ff' : Nat → Int32) (tm' : Int32) (shr' : Nat → Int32) (tx' : Nat → Int32) (iss' : Int32) (shn' : Int32), fx_bound n th nm nmm fs fu vs9 fp top fsp fk terms fgp fgt fb fw wt fm pv ff tm shr tx iss shn x y k z = some (r, th', fp', top', fsp', fgp', fgt', fb', fw', wt', fm', pv', ff', tm', shr', tx', iss', shn') ∧ fx_X9_bound n rt v w ga u rc sw rw0 x y k z = some (3, 0, v, w, u, rc, sw, rw0) ∧ AG [(1, 3), (2, 4), (3, 2)] th' 3 r 0 ∧
      RFS f nm nmm fs fm9 fu fk shr' tx' taped ops9 vs9 terms rules iss' shn' L [] [] [] [] none := by
  obtain ⟨r1, rfl, r3, rfl, rfl, r6, rfl, r8, rfl, r10, r11, r12⟩ := hr
  obtain ⟨c1, c2, c3, c4, c5, c6, c7, c8, c9⟩ := hc
  have hn5 : 100000 ≤ n := by omega
  have q0 : ¬ isn x ([] : List (List Nat)).length := isn_0
  have g : fx_X9_bound n rt v w ga u rc sw rw0 x y k z = some (3, 0, v, w, u, rc, sw, rw0) := by
    unfold fx_X9_bound
    rw [fx_checkTerm_c c4, xb1_s, if_neg q0, if_neg (by decide)]
  obtain ⟨r, th', fp', top', fsp', fgp', fgt', fb', fw', wt', fm', pv', ff', tm', shr', tx', iss', shn', e, hAa⟩ := fx_bound_ok (nm := nm) (nmm := nmm) (fs := fs) (fu := fu) (fk := fk) (fp := fp) (fsp := fsp) (fgp := fgp) (fgt := fgt) (fb := fb) (fw := fw) (ff := ff) (shr := shr) (tx := tx) (th := th) (top := top) (wt := wt) (fm := fm) (pv := pv) (tm := tm) (iss := iss) (shn := shn) (x := x) (y := y) (k := k) (z := z) hn5 r3.1 r3.2.1 r3.2.2.1 r6
  obtain ⟨agg, sh', q1, q2⟩ : AG [(1, 3), (2, 4), (3, 2)] th' 3 r 0 ∧ SH2 (soF []) (maF []) (unF []) 0 (nmF [] []) shr' tx' iss' shn' sw rw0 := an_bound r6.1 r12 r6.2.1 ⟨none, r10, c8⟩ hAa (by first | exact Or.inr (Or.inr ⟨q0, rfl, rfl⟩) | exact Or.inr (Or.inr ⟨fun g => q0 g.1, rfl, rfl⟩) | exact Or.inr ⟨q0, rfl, rfl, rfl, rfl⟩ | exact Or.inr ⟨fun g => q0 g.1, rfl, rfl, rfl, rfl⟩ | exact Or.inr (Or.inr ⟨q0, rfl, rfl, rfl, rfl⟩) | exact Or.inr (Or.inr ⟨fun g => q0 g.1, rfl, rfl, rfl, rfl⟩) | exact Or.inr ⟨Or.inr (Or.inr ⟨q0, rfl⟩), rfl, rfl, rfl⟩)
  obtain rfl := SHC_none q2 c8.1
  exact ⟨r, th', fp', top', fsp', fgp', fgt', fb', fw', wt', fm', pv', ff', tm', shr', tx', iss', shn', e, g, agg, ⟨r1, rfl, r3, rfl, rfl, r6, rfl, r8, rfl, q1, r11, r12⟩⟩
theorem st0_fill {n : Nat} {f nm nmm fs fm9 fu fk shr tx fp fsp ff : Nat → Int32} {taped ops9 vs9 terms rules iss shn on fault th top fm tm x z y : Int32} {xx h v ga rt rs sw rw0 bi rc : Nat → Nat → Int32} {w : Nat → Nat → Int64} {L : List Nat} (hn : 100000000 ≤ n) (hr : RFS f nm nmm fs fm9 fu fk shr tx taped ops9 vs9 terms rules iss shn L [] [] [] [] none) (hc : CLS0 xx h v ga rt rs sw rw0 w fault L) :
    ∃ (r : Int32) (th' : Int32) (fp' : Nat → Int32) (top' : Int32) (fsp' : Nat → Int32) (fm' : Int32) (ff' : Nat → Int32) (tm' : Int32) (shr' : Nat → Int32) (tx' : Nat → Int32) (iss' : Int32) (shn' : Int32), fx_fill n th nm nmm fs fu vs9 fp top fsp fk terms fm ff tm shr tx iss shn x z y = some (r, th', fp', top', fsp', fm', ff', tm', shr', tx', iss', shn') ∧ fx_X9_fill n rt v w ga bi rc sw rw0 x z y = some (3, 0, v, w, bi, rc, sw, rw0) ∧ AG [(1, 3), (2, 2)] th' 3 r 0 ∧
      RFS f nm nmm fs fm9 fu fk shr' tx' taped ops9 vs9 terms rules iss' shn' L [] [] [] [] none := by
  obtain ⟨r1, rfl, r3, rfl, rfl, r6, rfl, r8, rfl, r10, r11, r12⟩ := hr
  obtain ⟨c1, c2, c3, c4, c5, c6, c7, c8, c9⟩ := hc
  have hn5 : 100000 ≤ n := by omega
  have q0 : ¬ isn x ([] : List (List Nat)).length := isn_0
  have g : fx_X9_fill n rt v w ga bi rc sw rw0 x z y = some (3, 0, v, w, bi, rc, sw, rw0) := by
    unfold fx_X9_fill
    rw [fx_checkTerm_c c4, xb1_s, if_neg q0, if_neg (by decide)]
  obtain ⟨r, th', fp', top', fsp', fm', ff', tm', shr', tx', iss', shn', e, hAa⟩ := fx_fill_ok (nm := nm) (nmm := nmm) (fs := fs) (fu := fu) (fk := fk) (fp := fp) (fsp := fsp) (ff := ff) (shr := shr) (tx := tx) (th := th) (top := top) (fm := fm) (tm := tm) (iss := iss) (shn := shn) (x := x) (z := z) (y := y) hn5 r3.1 r3.2.1 r3.2.2.1 r6
  obtain ⟨agg, sh', q1, q2⟩ : AG [(1, 3), (2, 2)] th' 3 r 0 ∧ SH2 (soF []) (maF []) (unF []) 0 (nmF [] []) shr' tx' iss' shn' sw rw0 := an_fill r6.1 r12 ⟨none, r10, c8⟩ hAa (by first | exact Or.inr (Or.inr ⟨q0, rfl, rfl⟩) | exact Or.inr (Or.inr ⟨fun g => q0 g.1, rfl, rfl⟩) | exact Or.inr ⟨q0, rfl, rfl, rfl, rfl⟩ | exact Or.inr ⟨fun g => q0 g.1, rfl, rfl, rfl, rfl⟩ | exact Or.inr (Or.inr ⟨q0, rfl, rfl, rfl, rfl⟩) | exact Or.inr (Or.inr ⟨fun g => q0 g.1, rfl, rfl, rfl, rfl⟩) | exact Or.inr ⟨Or.inr (Or.inr ⟨q0, rfl⟩), rfl, rfl, rfl⟩)
  obtain rfl := SHC_none q2 c8.1
  exact ⟨r, th', fp', top', fsp', fm', ff', tm', shr', tx', iss', shn', e, g, agg, ⟨r1, rfl, r3, rfl, rfl, r6, rfl, r8, rfl, q1, r11, r12⟩⟩
theorem st0_place {n : Nat} {f nm nmm fs fm9 fu fk shr tx fp : Nat → Int32} {taped ops9 vs9 terms rules iss shn on fault th top tm x y : Int32} {xx h v ga rt rs sw rw0 rc : Nat → Nat → Int32} {w : Nat → Nat → Int64} {L : List Nat} (hn : 100000000 ≤ n) (hr : RFS f nm nmm fs fm9 fu fk shr tx taped ops9 vs9 terms rules iss shn L [] [] [] [] none) (hc : CLS0 xx h v ga rt rs sw rw0 w fault L) :
    ∃ (r : Int32) (th' : Int32) (fp' : Nat → Int32) (top' : Int32) (tm' : Int32) (shr' : Nat → Int32) (tx' : Nat → Int32) (iss' : Int32) (shn' : Int32), fx_place n th nm nmm fp top fk terms tm shr tx iss shn x y = some (r, th', fp', top', tm', shr', tx', iss', shn') ∧ fx_X9_place n rt rc sw ga rw0 x y = some (3, 0, rc, sw, rw0) ∧ AG [(1, 3), (2, 4)] th' 3 r 0 ∧
      RFS f nm nmm fs fm9 fu fk shr' tx' taped ops9 vs9 terms rules iss' shn' L [] [] [] [] none := by
  obtain ⟨r1, rfl, r3, rfl, rfl, r6, rfl, r8, rfl, r10, r11, r12⟩ := hr
  obtain ⟨c1, c2, c3, c4, c5, c6, c7, c8, c9⟩ := hc
  have hn5 : 100000 ≤ n := by omega
  have q0 : ¬ isn x ([] : List (List Nat)).length := isn_0
  have g : fx_X9_place n rt rc sw ga rw0 x y = some (3, 0, rc, sw, rw0) := by
    unfold fx_X9_place
    rw [fx_checkTerm_c c4, xb1_s, if_neg q0, if_neg (by decide)]
  obtain ⟨r, th', fp', top', tm', shr', tx', iss', shn', e, hAa⟩ := fx_place_ok (nm := nm) (nmm := nmm) (fk := fk) (fp := fp) (shr := shr) (tx := tx) (th := th) (top := top) (tm := tm) (iss := iss) (shn := shn) (p := x) (k := y) hn5 r3.2.2.1 r12 r6
  obtain ⟨agg, sh', q1, q2⟩ : AG [(1, 3), (2, 4)] th' 3 r 0 ∧ SH2 (soF []) (maF []) (unF []) 0 (nmF [] []) shr' tx' iss' shn' sw rw0 := an_place r6.1 r6.2.1 ⟨none, r10, c8⟩ hAa (by first | exact Or.inr (Or.inr ⟨q0, rfl, rfl⟩) | exact Or.inr (Or.inr ⟨fun g => q0 g.1, rfl, rfl⟩) | exact Or.inr ⟨q0, rfl, rfl, rfl, rfl⟩ | exact Or.inr ⟨fun g => q0 g.1, rfl, rfl, rfl, rfl⟩ | exact Or.inr (Or.inr ⟨q0, rfl, rfl, rfl, rfl⟩) | exact Or.inr (Or.inr ⟨fun g => q0 g.1, rfl, rfl, rfl, rfl⟩) | exact Or.inr ⟨Or.inr (Or.inr ⟨q0, rfl⟩), rfl, rfl, rfl⟩)
  obtain rfl := SHC_none q2 c8.1
  exact ⟨r, th', fp', top', tm', shr', tx', iss', shn', e, g, agg, ⟨r1, rfl, r3, rfl, rfl, r6, rfl, r8, rfl, q1, r11, r12⟩⟩
theorem st0_steps {n : Nat} {f nm nmm fs fm9 fu fk shr tx fp fsp fgp fgt fb fw ff fpl fru fr : Nat → Int32} {taped ops9 vs9 terms rules iss shn on fault th top wt fm pv tm M x : Int32} {xx h v ga rt rs sw rw0 sp rf u : Nat → Nat → Int32} {w : Nat → Nat → Int64} {L : List Nat} (hn : 100000000 ≤ n) (hr : RFS f nm nmm fs fm9 fu fk shr tx taped ops9 vs9 terms rules iss shn L [] [] [] [] none) (hc : CLS0 xx h v ga rt rs sw rw0 w fault L) :
    ∃ (r : Int32) (th' : Int32) (fp' : Nat → Int32) (top' : Int32) (fsp' : Nat → Int32) (fgp' : Nat → Int32) (fgt' : Nat → Int32) (fb' : Nat → Int32) (fw' : Nat → Int32) (wt' : Int32) (fm' : Int32) (pv' : Int32) (ff' : Nat → Int32) (tm' : Int32) (fpl' : Nat → Int32) (fru' : Nat → Int32) (fr' : Nat → Int32) (M' : Int32), fx_steps n th fs fu fp top fsp fk terms rules on fgp fgt fb fw wt fm pv ff tm fpl fru fr M x = some (r, th', fp', top', fsp', fgp', fgt', fb', fw', wt', fm', pv', ff', tm', fpl', fru', fr', M') ∧ fx_X9_steps n xx rt rs sp rf u v w ga x = some (3, 0, sp, rf, u, v, w) ∧ AG [(1, 3), (2, 2)] th' 3 r 0 ∧
      RFS f nm nmm fs fm9 fu fk shr tx taped ops9 vs9 terms rules iss shn L [] [] [] [] none := by
  obtain ⟨r1, rfl, r3, rfl, rfl, r6, rfl, r8, rfl, r10, r11, r12⟩ := hr
  obtain ⟨c1, c2, c3, c4, c5, c6, c7, c8, c9⟩ := hc
  have hn5 : 100000 ≤ n := by omega
  have q0 : ¬ isn x ([] : List (List Nat)).length := isn_0
  have g : fx_X9_steps n xx rt rs sp rf u v w ga x = some (3, 0, sp, rf, u, v, w) := by
    unfold fx_X9_steps
    rw [fx_checkTerm_c c4, xb1_s, if_neg q0, if_neg (by decide)]
  obtain ⟨r, th', fp', top', fsp', fgp', fgt', fb', fw', wt', fm', pv', ff', tm', fpl', fru', fr', M', e, hAa⟩ := fx_steps_ok (fs := fs) (fu := fu) (fk := fk) (fp := fp) (fsp := fsp) (fgp := fgp) (fgt := fgt) (fb := fb) (fw := fw) (ff := ff) (fpl := fpl) (fru := fru) (fr := fr) (th := th) (top := top) (on := on) (wt := wt) (fm := fm) (pv := pv) (tm := tm) (M := M) (x := x) hn5 r3.1 r3.2.1 r6 r8
  have agg : AG [(1, 3), (2, 2)] th' 3 r 0 := an_steps r6.1 hAa (by first | exact Or.inr (Or.inr ⟨q0, rfl, rfl⟩) | exact Or.inr (Or.inr ⟨fun g => q0 g.1, rfl, rfl⟩) | exact Or.inr ⟨q0, rfl, rfl, rfl, rfl⟩ | exact Or.inr ⟨fun g => q0 g.1, rfl, rfl, rfl, rfl⟩ | exact Or.inr (Or.inr ⟨q0, rfl, rfl, rfl, rfl⟩) | exact Or.inr (Or.inr ⟨fun g => q0 g.1, rfl, rfl, rfl, rfl⟩) | exact Or.inr ⟨Or.inr (Or.inr ⟨q0, rfl⟩), rfl, rfl, rfl⟩)
  exact ⟨r, th', fp', top', fsp', fgp', fgt', fb', fw', wt', fm', pv', ff', tm', fpl', fru', fr', M', e, g, agg, ⟨r1, rfl, r3, rfl, rfl, r6, rfl, r8, rfl, r10, r11, r12⟩⟩
theorem st0_step {n : Nat} {f nm nmm fs fm9 fu fk shr tx fp fsp fgp fgt fb fw ff fpl fru fr : Nat → Int32} {taped ops9 vs9 terms rules iss shn on fault th top wt fm pv tm M x k : Int32} {xx h v ga rt rs sw rw0 sp rf u : Nat → Nat → Int32} {w : Nat → Nat → Int64} {L : List Nat} (hn : 100000000 ≤ n) (hr : RFS f nm nmm fs fm9 fu fk shr tx taped ops9 vs9 terms rules iss shn L [] [] [] [] none) (hc : CLS0 xx h v ga rt rs sw rw0 w fault L) :
    ∃ (r : Int32) (th' : Int32) (fp' : Nat → Int32) (top' : Int32) (fsp' : Nat → Int32) (fgp' : Nat → Int32) (fgt' : Nat → Int32) (fb' : Nat → Int32) (fw' : Nat → Int32) (wt' : Int32) (fm' : Int32) (pv' : Int32) (ff' : Nat → Int32) (tm' : Int32) (fpl' : Nat → Int32) (fru' : Nat → Int32) (fr' : Nat → Int32) (M' : Int32) (shr' : Nat → Int32) (tx' : Nat → Int32) (iss' : Int32) (shn' : Int32), fx_step n th nm nmm fs fu fp top fsp fk terms rules on fgp fgt fb fw wt fm pv ff tm fpl fru fr M shr tx iss shn x k = some (r, th', fp', top', fsp', fgp', fgt', fb', fw', wt', fm', pv', ff', tm', fpl', fru', fr', M', shr', tx', iss', shn') ∧ fx_X9_step n xx rt rs sw rw0 sp rf u v w ga x k = some (3, 0, sw, rw0, sp, rf, u, v, w) ∧ AG [(1, 3), (2, 4), (3, 2)] th' 3 r 0 ∧
      RFS f nm nmm fs fm9 fu fk shr' tx' taped ops9 vs9 terms rules iss' shn' L [] [] [] [] none := by
  obtain ⟨r1, rfl, r3, rfl, rfl, r6, rfl, r8, rfl, r10, r11, r12⟩ := hr
  obtain ⟨c1, c2, c3, c4, c5, c6, c7, c8, c9⟩ := hc
  have hn5 : 100000 ≤ n := by omega
  have q0 : ¬ isn x ([] : List (List Nat)).length := isn_0
  have g : fx_X9_step n xx rt rs sw rw0 sp rf u v w ga x k = some (3, 0, sw, rw0, sp, rf, u, v, w) := by
    unfold fx_X9_step
    rw [fx_checkTerm_c c4, xb1_s, if_neg q0, if_neg (by decide)]
  obtain ⟨r, th', fp', top', fsp', fgp', fgt', fb', fw', wt', fm', pv', ff', tm', fpl', fru', fr', M', shr', tx', iss', shn', e, hAa⟩ := fx_step_ok (nm := nm) (nmm := nmm) (fs := fs) (fu := fu) (fk := fk) (fp := fp) (fsp := fsp) (fgp := fgp) (fgt := fgt) (fb := fb) (fw := fw) (ff := ff) (fpl := fpl) (fru := fru) (fr := fr) (shr := shr) (tx := tx) (th := th) (top := top) (on := on) (wt := wt) (fm := fm) (pv := pv) (tm := tm) (M := M) (iss := iss) (shn := shn) (x := x) (k := k) hn5 r3.1 r3.2.1 r3.2.2.1 r6 r8
  obtain ⟨agg, sh', q1, q2⟩ : AG [(1, 3), (2, 4), (3, 2)] th' 3 r 0 ∧ SH2 (soF []) (maF []) (unF []) 0 (nmF [] []) shr' tx' iss' shn' sw rw0 := an_step r6.1 ⟨none, r10, c8⟩ hAa (by first | exact Or.inr (Or.inr ⟨q0, rfl, rfl⟩) | exact Or.inr (Or.inr ⟨fun g => q0 g.1, rfl, rfl⟩) | exact Or.inr ⟨q0, rfl, rfl, rfl, rfl⟩ | exact Or.inr ⟨fun g => q0 g.1, rfl, rfl, rfl, rfl⟩ | exact Or.inr (Or.inr ⟨q0, rfl, rfl, rfl, rfl⟩) | exact Or.inr (Or.inr ⟨fun g => q0 g.1, rfl, rfl, rfl, rfl⟩) | exact Or.inr ⟨Or.inr (Or.inr ⟨q0, rfl⟩), rfl, rfl, rfl⟩)
  obtain rfl := SHC_none q2 c8.1
  exact ⟨r, th', fp', top', fsp', fgp', fgt', fb', fw', wt', fm', pv', ff', tm', fpl', fru', fr', M', shr', tx', iss', shn', e, g, agg, ⟨r1, rfl, r3, rfl, rfl, r6, rfl, r8, rfl, q1, r11, r12⟩⟩
theorem st0_stepAt {n : Nat} {f nm nmm fs fm9 fu fk shr tx fp fsp fgp fgt fb fw ff fpl fru fr : Nat → Int32} {taped ops9 vs9 terms rules iss shn on fault th top wt fm pv tm M x k y : Int32} {xx h v ga rt rs sw rw0 sp rf u : Nat → Nat → Int32} {w : Nat → Nat → Int64} {L : List Nat} (hn : 100000000 ≤ n) (hr : RFS f nm nmm fs fm9 fu fk shr tx taped ops9 vs9 terms rules iss shn L [] [] [] [] none) (hc : CLS0 xx h v ga rt rs sw rw0 w fault L) :
    ∃ (r : Int32) (th' : Int32) (fp' : Nat → Int32) (top' : Int32) (fsp' : Nat → Int32) (fgp' : Nat → Int32) (fgt' : Nat → Int32) (fb' : Nat → Int32) (fw' : Nat → Int32) (wt' : Int32) (fm' : Int32) (pv' : Int32) (ff' : Nat → Int32) (tm' : Int32) (fpl' : Nat → Int32) (fru' : Nat → Int32) (fr' : Nat → Int32) (M' : Int32), fx_stepAt n th fs fu fp top fsp fk terms rules on fgp fgt fb fw wt fm pv ff tm fpl fru fr M x k y = some (r, th', fp', top', fsp', fgp', fgt', fb', fw', wt', fm', pv', ff', tm', fpl', fru', fr', M') ∧ fx_X9_stepAt n xx rt rs sp rf u v w ga x k y = some (3, 0, sp, rf, u, v, w) ∧ AG [(1, 3), (2, 4), (3, 2)] th' 3 r 0 ∧
      RFS f nm nmm fs fm9 fu fk shr tx taped ops9 vs9 terms rules iss shn L [] [] [] [] none := by
  obtain ⟨r1, rfl, r3, rfl, rfl, r6, rfl, r8, rfl, r10, r11, r12⟩ := hr
  obtain ⟨c1, c2, c3, c4, c5, c6, c7, c8, c9⟩ := hc
  have hn5 : 100000 ≤ n := by omega
  have q0 : ¬ isn x ([] : List (List Nat)).length := isn_0
  have g : fx_X9_stepAt n xx rt rs sp rf u v w ga x k y = some (3, 0, sp, rf, u, v, w) := by
    unfold fx_X9_stepAt
    rw [fx_checkTerm_c c4, xb1_s, if_neg q0, if_neg (by decide)]
  obtain ⟨r, th', fp', top', fsp', fgp', fgt', fb', fw', wt', fm', pv', ff', tm', fpl', fru', fr', M', e, hAa⟩ := fx_stepAt_ok (fs := fs) (fu := fu) (fk := fk) (fp := fp) (fsp := fsp) (fgp := fgp) (fgt := fgt) (fb := fb) (fw := fw) (ff := ff) (fpl := fpl) (fru := fru) (fr := fr) (th := th) (top := top) (on := on) (wt := wt) (fm := fm) (pv := pv) (tm := tm) (M := M) (x := x) (k := k) (y := y) hn5 r3.1 r3.2.1 r6 r8
  have agg : AG [(1, 3), (2, 4), (3, 2)] th' 3 r 0 := an_stepAt r6.1 hAa (by first | exact Or.inr (Or.inr ⟨q0, rfl, rfl⟩) | exact Or.inr (Or.inr ⟨fun g => q0 g.1, rfl, rfl⟩) | exact Or.inr ⟨q0, rfl, rfl, rfl, rfl⟩ | exact Or.inr ⟨fun g => q0 g.1, rfl, rfl, rfl, rfl⟩ | exact Or.inr (Or.inr ⟨q0, rfl, rfl, rfl, rfl⟩) | exact Or.inr (Or.inr ⟨fun g => q0 g.1, rfl, rfl, rfl, rfl⟩) | exact Or.inr ⟨Or.inr (Or.inr ⟨q0, rfl⟩), rfl, rfl, rfl⟩)
  exact ⟨r, th', fp', top', fsp', fgp', fgt', fb', fw', wt', fm', pv', ff', tm', fpl', fru', fr', M', e, g, agg, ⟨r1, rfl, r3, rfl, rfl, r6, rfl, r8, rfl, r10, r11, r12⟩⟩
theorem st0_atTop {n : Nat} {f nm nmm fs fm9 fu fk shr tx fp fsp fgp fgt fb fw ff fpl fru fr : Nat → Int32} {taped ops9 vs9 terms rules iss shn on fault th top wt fm pv tm M x y : Int32} {xx h v ga rt rs sw rw0 sp rf u : Nat → Nat → Int32} {w : Nat → Nat → Int64} {L : List Nat} (hn : 100000000 ≤ n) (hr : RFS f nm nmm fs fm9 fu fk shr tx taped ops9 vs9 terms rules iss shn L [] [] [] [] none) (hc : CLS0 xx h v ga rt rs sw rw0 w fault L) :
    ∃ (r : Int32) (th' : Int32) (fp' : Nat → Int32) (top' : Int32) (fsp' : Nat → Int32) (fgp' : Nat → Int32) (fgt' : Nat → Int32) (fb' : Nat → Int32) (fw' : Nat → Int32) (wt' : Int32) (fm' : Int32) (pv' : Int32) (ff' : Nat → Int32) (tm' : Int32) (fpl' : Nat → Int32) (fru' : Nat → Int32) (fr' : Nat → Int32) (M' : Int32), fx_atTop n th fs fu fp top fsp fk terms rules fgp fgt fb fw wt fm pv ff tm fpl fru fr M x y = some (r, th', fp', top', fsp', fgp', fgt', fb', fw', wt', fm', pv', ff', tm', fpl', fru', fr', M') ∧ fx_X9_atTop n rt rs sp rf u v w ga x y = some (3, 0, sp, rf, u, v, w) ∧ AG [(1, 3), (2, 2)] th' 3 r 0 ∧
      RFS f nm nmm fs fm9 fu fk shr tx taped ops9 vs9 terms rules iss shn L [] [] [] [] none := by
  obtain ⟨r1, rfl, r3, rfl, rfl, r6, rfl, r8, rfl, r10, r11, r12⟩ := hr
  obtain ⟨c1, c2, c3, c4, c5, c6, c7, c8, c9⟩ := hc
  have hn5 : 100000 ≤ n := by omega
  have q0 : ¬ isn x ([] : List (List Nat)).length := isn_0
  have g : fx_X9_atTop n rt rs sp rf u v w ga x y = some (3, 0, sp, rf, u, v, w) := by
    unfold fx_X9_atTop
    rw [fx_checkTerm_c c4, xb1_s, if_neg q0, if_neg (by decide)]
  obtain ⟨r, th', fp', top', fsp', fgp', fgt', fb', fw', wt', fm', pv', ff', tm', fpl', fru', fr', M', e, hAa⟩ := fx_atTop_ok (fs := fs) (fu := fu) (fk := fk) (fp := fp) (fsp := fsp) (fgp := fgp) (fgt := fgt) (fb := fb) (fw := fw) (ff := ff) (fpl := fpl) (fru := fru) (fr := fr) (th := th) (top := top) (wt := wt) (fm := fm) (pv := pv) (tm := tm) (M := M) (x := x) (y := y) hn5 r3.1 r3.2.1 r6 r8
  have agg : AG [(1, 3), (2, 2)] th' 3 r 0 := an_atTop r6.1 hAa (by first | exact Or.inr (Or.inr ⟨q0, rfl, rfl⟩) | exact Or.inr (Or.inr ⟨fun g => q0 g.1, rfl, rfl⟩) | exact Or.inr ⟨q0, rfl, rfl, rfl, rfl⟩ | exact Or.inr ⟨fun g => q0 g.1, rfl, rfl, rfl, rfl⟩ | exact Or.inr (Or.inr ⟨q0, rfl, rfl, rfl, rfl⟩) | exact Or.inr (Or.inr ⟨fun g => q0 g.1, rfl, rfl, rfl, rfl⟩) | exact Or.inr ⟨Or.inr (Or.inr ⟨q0, rfl⟩), rfl, rfl, rfl⟩)
  exact ⟨r, th', fp', top', fsp', fgp', fgt', fb', fw', wt', fm', pv', ff', tm', fpl', fru', fr', M', e, g, agg, ⟨r1, rfl, r3, rfl, rfl, r6, rfl, r8, rfl, r10, r11, r12⟩⟩
theorem st0_walk {n : Nat} {f nm nmm fs fm9 fu fk shr tx fp fsp fgp fgt fb fw ff fpl fru fr : Nat → Int32} {taped ops9 vs9 terms rules iss shn on fault th top wt fm pv tm M x : Int32} {xx h v ga rt rs sw rw0 rc sp rf u : Nat → Nat → Int32} {w : Nat → Nat → Int64} {L : List Nat} (hn : 100000000 ≤ n) (hr : RFS f nm nmm fs fm9 fu fk shr tx taped ops9 vs9 terms rules iss shn L [] [] [] [] none) (hc : CLS0 xx h v ga rt rs sw rw0 w fault L) :
    ∃ (r : Int32) (th' : Int32) (fp' : Nat → Int32) (top' : Int32) (fsp' : Nat → Int32) (fgp' : Nat → Int32) (fgt' : Nat → Int32) (fb' : Nat → Int32) (fw' : Nat → Int32) (wt' : Int32) (fm' : Int32) (pv' : Int32) (ff' : Nat → Int32) (tm' : Int32) (fpl' : Nat → Int32) (fru' : Nat → Int32) (fr' : Nat → Int32) (M' : Int32) (shr' : Nat → Int32) (tx' : Nat → Int32) (iss' : Int32) (shn' : Int32), fx_walk n th nm nmm fs fu fp top fsp fk terms rules on fgp fgt fb fw wt fm pv ff tm fpl fru fr M shr tx iss shn x = some (r, th', fp', top', fsp', fgp', fgt', fb', fw', wt', fm', pv', ff', tm', fpl', fru', fr', M', shr', tx', iss', shn') ∧ fx_X9_walk n xx rt rs rc sw rw0 sp rf u v w ga x = some (3, 0, rc, sw, rw0, sp, rf, u, v, w) ∧ AG [(1, 3), (2, 2)] th' 3 r 0 ∧
      RFS f nm nmm fs fm9 fu fk shr' tx' taped ops9 vs9 terms rules iss' shn' L [] [] [] [] none := by
  obtain ⟨r1, rfl, r3, rfl, rfl, r6, rfl, r8, rfl, r10, r11, r12⟩ := hr
  obtain ⟨c1, c2, c3, c4, c5, c6, c7, c8, c9⟩ := hc
  have hn5 : 100000 ≤ n := by omega
  have q0 : ¬ isn x ([] : List (List Nat)).length := isn_0
  have g : fx_X9_walk n xx rt rs rc sw rw0 sp rf u v w ga x = some (3, 0, rc, sw, rw0, sp, rf, u, v, w) := by
    unfold fx_X9_walk
    rw [fx_checkTerm_c c4, xb1_s, if_neg q0, if_neg (by decide)]
  obtain ⟨r, th', fp', top', fsp', fgp', fgt', fb', fw', wt', fm', pv', ff', tm', fpl', fru', fr', M', shr', tx', iss', shn', e, hAa⟩ := fx_walk_ok (nm := nm) (nmm := nmm) (fs := fs) (fu := fu) (fk := fk) (fp := fp) (fsp := fsp) (fgp := fgp) (fgt := fgt) (fb := fb) (fw := fw) (ff := ff) (fpl := fpl) (fru := fru) (fr := fr) (shr := shr) (tx := tx) (th := th) (top := top) (on := on) (wt := wt) (fm := fm) (pv := pv) (tm := tm) (M := M) (iss := iss) (shn := shn) (x := x) hn5 r3.1 r3.2.1 r3.2.2.1 r6 r8
  obtain ⟨agg, sh', q1, q2⟩ : AG [(1, 3), (2, 2)] th' 3 r 0 ∧ SH2 (soF []) (maF []) (unF []) 0 (nmF [] []) shr' tx' iss' shn' sw rw0 := an_walk r6.1 ⟨none, r10, c8⟩ hAa (by first | exact Or.inr (Or.inr ⟨q0, rfl, rfl⟩) | exact Or.inr (Or.inr ⟨fun g => q0 g.1, rfl, rfl⟩) | exact Or.inr ⟨q0, rfl, rfl, rfl, rfl⟩ | exact Or.inr ⟨fun g => q0 g.1, rfl, rfl, rfl, rfl⟩ | exact Or.inr (Or.inr ⟨q0, rfl, rfl, rfl, rfl⟩) | exact Or.inr (Or.inr ⟨fun g => q0 g.1, rfl, rfl, rfl, rfl⟩) | exact Or.inr ⟨Or.inr (Or.inr ⟨q0, rfl⟩), rfl, rfl, rfl⟩)
  obtain rfl := SHC_none q2 c8.1
  exact ⟨r, th', fp', top', fsp', fgp', fgt', fb', fw', wt', fm', pv', ff', tm', fpl', fru', fr', M', shr', tx', iss', shn', e, g, agg, ⟨r1, rfl, r3, rfl, rfl, r6, rfl, r8, rfl, q1, r11, r12⟩⟩
theorem st0_reach {n : Nat} {f nm nmm fs fm9 fu fk shr tx fre frm frd : Nat → Int32} {taped ops9 vs9 terms rules iss shn on fault th x y z : Int32} {xx h v ga rt rs sw rw0 se re sp rf u : Nat → Nat → Int32} {w : Nat → Nat → Int64} {L : List Nat} {N0 ns : Int64} (s : WS) (hn : 100000000 ≤ n) (hr : RFS f nm nmm fs fm9 fu fk shr tx taped ops9 vs9 terms rules iss shn L [] [] [] [] none) (hc : CLS0 xx h v ga rt rs sw rw0 w fault L) :
    ∃ (r : Int32) (th' : Int32) (s' : WS) (fre' : Nat → Int32) (frm' : Nat → Int32) (frd' : Nat → Int32) (N' : Int64), fx_reach n th fs fu s.fp s.top s.fsp fk terms rules on s.fgp s.fgt s.fb s.fw s.wt s.fm s.pv s.ff s.tm s.fpl s.fru s.fr s.M fre frm frd N0 x y z = some (r, th', s'.fp, s'.top, s'.fsp, s'.fgp, s'.fgt, s'.fb, s'.fw, s'.wt, s'.fm, s'.pv, s'.ff, s'.tm, s'.fpl, s'.fru, s'.fr, s'.M, fre', frm', frd', N') ∧ fx_X9_reach n xx rt rs se ns re sp rf u v w ga x y z = some (3, 0, se, ns, re, sp, rf, u, v, w) ∧ AG [(1, 3), (2, 1), (3, 2)] th' 3 r 0 ∧
      RFS f nm nmm fs fm9 fu fk shr tx taped ops9 vs9 terms rules iss shn L [] [] [] [] none := by
  obtain ⟨r1, rfl, r3, rfl, rfl, r6, rfl, r8, rfl, r10, r11, r12⟩ := hr
  obtain ⟨c1, c2, c3, c4, c5, c6, c7, c8, c9⟩ := hc
  have hn5 : 100000 ≤ n := by omega
  have q0 : ¬ isn x ([] : List (List Nat)).length := isn_0
  have g : fx_X9_reach n xx rt rs se ns re sp rf u v w ga x y z = some (3, 0, se, ns, re, sp, rf, u, v, w) := by
    unfold fx_X9_reach
    rw [fx_checkTerm_c c4, xb1_s, if_neg q0, if_neg (by decide)]
  obtain ⟨r, th', s', fre', frm', frd', N', e, hAa⟩ := fx_reach_ok (fs := fs) (fu := fu) (fk := fk) (fre := fre) (frm := frm) (frd := frd) (on := on) (th := th) (x := x) (y := y) (z := z) (N0 := N0) s hn5 r3.1 r3.2.1 r6 r8
  have agg : AG [(1, 3), (2, 1), (3, 2)] th' 3 r 0 := an_reach r6.1 hAa (by first | exact Or.inr (Or.inr ⟨q0, rfl, rfl⟩) | exact Or.inr (Or.inr ⟨fun g => q0 g.1, rfl, rfl⟩) | exact Or.inr ⟨q0, rfl, rfl, rfl, rfl⟩ | exact Or.inr ⟨fun g => q0 g.1, rfl, rfl, rfl, rfl⟩ | exact Or.inr (Or.inr ⟨q0, rfl, rfl, rfl, rfl⟩) | exact Or.inr (Or.inr ⟨fun g => q0 g.1, rfl, rfl, rfl, rfl⟩) | exact Or.inr ⟨Or.inr (Or.inr ⟨q0, rfl⟩), rfl, rfl, rfl⟩)
  exact ⟨r, th', s', fre', frm', frd', N', e, g, agg, ⟨r1, rfl, r3, rfl, rfl, r6, rfl, r8, rfl, r10, r11, r12⟩⟩
theorem st0_reached {n : Nat} {f nm nmm fs fm9 fu fk shr tx fre frm frd : Nat → Int32} {taped ops9 vs9 terms rules iss shn on fault th x y z k : Int32} {xx h v ga rt rs sw rw0 se re sp rf u : Nat → Nat → Int32} {w : Nat → Nat → Int64} {L : List Nat} {N0 ns : Int64} (s : WS) (hn : 100000000 ≤ n) (hr : RFS f nm nmm fs fm9 fu fk shr tx taped ops9 vs9 terms rules iss shn L [] [] [] [] none) (hc : CLS0 xx h v ga rt rs sw rw0 w fault L) :
    ∃ (r : Int32) (th' : Int32) (s' : WS) (shr' : Nat → Int32) (tx' : Nat → Int32) (iss' : Int32) (shn' : Int32) (fre' : Nat → Int32) (frm' : Nat → Int32) (frd' : Nat → Int32) (N' : Int64), fx_reached n th nm nmm fs fu s.fp s.top s.fsp fk terms rules on s.fgp s.fgt s.fb s.fw s.wt s.fm s.pv s.ff s.tm s.fpl s.fru s.fr s.M shr tx iss shn fre frm frd N0 x y z k = some (r, th', s'.fp, s'.top, s'.fsp, s'.fgp, s'.fgt, s'.fb, s'.fw, s'.wt, s'.fm, s'.pv, s'.ff, s'.tm, s'.fpl, s'.fru, s'.fr, s'.M, shr', tx', iss', shn', fre', frm', frd', N') ∧ fx_X9_reached n xx rt rs se ns re sw rw0 sp rf u v w ga x y z k = some (3, 0, se, ns, re, sw, rw0, sp, rf, u, v, w) ∧ AG [(1, 3), (2, 1), (3, 4), (4, 2)] th' 3 r 0 ∧
      RFS f nm nmm fs fm9 fu fk shr' tx' taped ops9 vs9 terms rules iss' shn' L [] [] [] [] none := by
  obtain ⟨r1, rfl, r3, rfl, rfl, r6, rfl, r8, rfl, r10, r11, r12⟩ := hr
  obtain ⟨c1, c2, c3, c4, c5, c6, c7, c8, c9⟩ := hc
  have hn5 : 100000 ≤ n := by omega
  have q0 : ¬ isn x ([] : List (List Nat)).length := isn_0
  have g : fx_X9_reached n xx rt rs se ns re sw rw0 sp rf u v w ga x y z k = some (3, 0, se, ns, re, sw, rw0, sp, rf, u, v, w) := by
    unfold fx_X9_reached
    rw [fx_checkTerm_c c4, xb1_s, if_neg q0, if_neg (by decide)]
  obtain ⟨r, th', s', shr', tx', iss', shn', fre', frm', frd', N', e, hAa⟩ := fx_reached_ok (nm := nm) (nmm := nmm) (fs := fs) (fu := fu) (fk := fk) (fre := fre) (frm := frm) (frd := frd) (shr := shr) (tx := tx) (on := on) (th := th) (x := x) (y := y) (z := z) (u := k) (iss := iss) (shn := shn) (N0 := N0) s hn5 r3.1 r3.2.1 r3.2.2.1 r6 r8
  obtain ⟨agg, sh', q1, q2⟩ : AG [(1, 3), (2, 1), (3, 4), (4, 2)] th' 3 r 0 ∧ SH2 (soF []) (maF []) (unF []) 0 (nmF [] []) shr' tx' iss' shn' sw rw0 := an_reached r6.1 ⟨none, r10, c8⟩ hAa (by first | exact Or.inr (Or.inr ⟨q0, rfl, rfl⟩) | exact Or.inr (Or.inr ⟨fun g => q0 g.1, rfl, rfl⟩) | exact Or.inr ⟨q0, rfl, rfl, rfl, rfl⟩ | exact Or.inr ⟨fun g => q0 g.1, rfl, rfl, rfl, rfl⟩ | exact Or.inr (Or.inr ⟨q0, rfl, rfl, rfl, rfl⟩) | exact Or.inr (Or.inr ⟨fun g => q0 g.1, rfl, rfl, rfl, rfl⟩) | exact Or.inr ⟨Or.inr (Or.inr ⟨q0, rfl⟩), rfl, rfl, rfl⟩)
  obtain rfl := SHC_none q2 c8.1
  exact ⟨r, th', s', shr', tx', iss', shn', fre', frm', frd', N', e, g, agg, ⟨r1, rfl, r3, rfl, rfl, r6, rfl, r8, rfl, q1, r11, r12⟩⟩
theorem st0_meet {n : Nat} {f nm nmm fs fm9 fu fk shr tx fre frm frd : Nat → Int32} {taped ops9 vs9 terms rules iss shn on fault th x y z : Int32} {xx h v ga rt rs sw rw0 se re sf rg sp rf u : Nat → Nat → Int32} {w : Nat → Nat → Int64} {L : List Nat} {ns ng : Int64} (s : WS) (hn : 100000000 ≤ n) (hr : RFS f nm nmm fs fm9 fu fk shr tx taped ops9 vs9 terms rules iss shn L [] [] [] [] none) (hc : CLS0 xx h v ga rt rs sw rw0 w fault L) :
    ∃ (r : Int32) (th' : Int32) (s' : WS) (fre' : Nat → Int32) (frm' : Nat → Int32) (frd' : Nat → Int32), fx_meet n th fs fu s.fp s.top s.fsp fk terms rules on s.fgp s.fgt s.fb s.fw s.wt s.fm s.pv s.ff s.tm s.fpl s.fru s.fr s.M fre frm frd x y z = some (r, th', s'.fp, s'.top, s'.fsp, s'.fgp, s'.fgt, s'.fb, s'.fw, s'.wt, s'.fm, s'.pv, s'.ff, s'.tm, s'.fpl, s'.fru, s'.fr, s'.M, fre', frm', frd') ∧ fx_X9_meet n xx rt rs se ns re sf ng rg sp rf u v w ga x y z = some (3, 0, se, ns, re, sf, ng, rg, sp, rf, u, v, w) ∧ AG [(1, 3), (2, 1), (3, 2)] th' 3 r 0 ∧
      RFS f nm nmm fs fm9 fu fk shr tx taped ops9 vs9 terms rules iss shn L [] [] [] [] none := by
  obtain ⟨r1, rfl, r3, rfl, rfl, r6, rfl, r8, rfl, r10, r11, r12⟩ := hr
  obtain ⟨c1, c2, c3, c4, c5, c6, c7, c8, c9⟩ := hc
  have hn5 : 100000 ≤ n := by omega
  have q0 : ¬ isn x ([] : List (List Nat)).length := isn_0
  have g : fx_X9_meet n xx rt rs se ns re sf ng rg sp rf u v w ga x y z = some (3, 0, se, ns, re, sf, ng, rg, sp, rf, u, v, w) := by
    unfold fx_X9_meet
    rw [fx_checkTerm_c c4, xb1_s, if_neg q0, if_neg (by decide)]
  obtain ⟨r, th', s', fre', frm', frd', e, hAa⟩ := fx_meet_ok (fs := fs) (fu := fu) (fk := fk) (fre := fre) (frm := frm) (frd := frd) (on := on) (th := th) (x := x) (y := y) (z := z) s hn5 r3.1 r3.2.1 r6 r8
  have agg : AG [(1, 3), (2, 1), (3, 2)] th' 3 r 0 := by
    rcases hAa with ⟨i, _, _, ⟨i1, _⟩, _⟩ | ⟨i1, _⟩ | ⟨_, i1, i2⟩
    · exact absurd i1 (Nat.not_lt_zero _)
    · exact absurd i1 q0
    · exact AG_t i2 rfl (by simp)
  exact ⟨r, th', s', fre', frm', frd', e, g, agg, ⟨r1, rfl, r3, rfl, rfl, r6, rfl, r8, rfl, r10, r11, r12⟩⟩
theorem st0_about {n : Nat} {f nm nmm fs fm9 fu fk shr tx fp : Nat → Int32} {taped ops9 vs9 terms rules iss shn on fault th top tm x y : Int32} {xx h v ga rt rs sw rw0 : Nat → Nat → Int32} {w : Nat → Nat → Int64} {L : List Nat} (hn : 100000000 ≤ n) (hr : RFS f nm nmm fs fm9 fu fk shr tx taped ops9 vs9 terms rules iss shn L [] [] [] [] none) (hc : CLS0 xx h v ga rt rs sw rw0 w fault L) :
    ∃ (r : Int32) (th' : Int32) (fp' : Nat → Int32) (top' : Int32) (tm' : Int32), fx_about n th fs fu ops9 fp top fk terms rules on tm x y = some (r, th', fp', top', tm') ∧ fx_X9_about n xx rt rs ga x y = some (3, 0, rt) ∧ AG [(1, 3), (2, 4)] th' 3 r 0 ∧
      RFS f nm nmm fs fm9 fu fk shr tx taped ops9 vs9 terms rules iss shn L [] [] [] [] none := by
  obtain ⟨r1, rfl, r3, rfl, rfl, r6, rfl, r8, rfl, r10, r11, r12⟩ := hr
  obtain ⟨c1, c2, c3, c4, c5, c6, c7, c8, c9⟩ := hc
  have hn5 : 100000 ≤ n := by omega
  have q0 : ¬ isn x ([] : List (List Nat)).length := isn_0
  have g : fx_X9_about n xx rt rs ga x y = some (3, 0, rt) := by
    unfold fx_X9_about
    rw [fx_checkTerm_c c4, xb1_s, if_neg q0, if_neg (by decide)]
  obtain ⟨r, th', fp', top', tm', e, hAa⟩ := fx_about_ok (fs := fs) (fu := fu) (fk := fk) (fp := fp) (th := th) (on := on) (top := top) (tm := tm) (x := x) (y := y) hn5 r3.1 r3.2.1 r3.2.2.2.1 r6 r8
  have agg : AG [(1, 3), (2, 4)] th' 3 r 0 := an_about r6.1 hAa (by first | exact Or.inr (Or.inr ⟨q0, rfl, rfl⟩) | exact Or.inr (Or.inr ⟨fun g => q0 g.1, rfl, rfl⟩) | exact Or.inr ⟨q0, rfl, rfl, rfl, rfl⟩ | exact Or.inr ⟨fun g => q0 g.1, rfl, rfl, rfl, rfl⟩ | exact Or.inr (Or.inr ⟨q0, rfl, rfl, rfl, rfl⟩) | exact Or.inr (Or.inr ⟨fun g => q0 g.1, rfl, rfl, rfl, rfl⟩) | exact Or.inr ⟨Or.inr (Or.inr ⟨q0, rfl⟩), rfl, rfl, rfl⟩)
  exact ⟨r, th', fp', top', tm', e, g, agg, ⟨r1, rfl, r3, rfl, rfl, r6, rfl, r8, rfl, r10, r11, r12⟩⟩
theorem st0_join {n : Nat} {f nm nmm fs fm9 fu fk shr tx fp fsp : Nat → Int32} {taped ops9 vs9 terms rules iss shn on fault th top tm o x y : Int32} {xx h v ga rt rs sw rw0 rc : Nat → Nat → Int32} {w : Nat → Nat → Int64} {L : List Nat} (hn : 100000000 ≤ n) (hr : RFS f nm nmm fs fm9 fu fk shr tx taped ops9 vs9 terms rules iss shn L [] [] [] [] none) (hc : CLS0 xx h v ga rt rs sw rw0 w fault L) :
    ∃ (r : Int32) (th' : Int32) (fp' : Nat → Int32) (top' : Int32) (fsp' : Nat → Int32) (tm' : Int32) (shr' : Nat → Int32) (tx' : Nat → Int32) (iss' : Int32) (shn' : Int32), fx_join n th nm nmm fs fu ops9 fp top fsp fk terms tm shr tx iss shn o x y = some (r, th', fp', top', fsp', tm', shr', tx', iss', shn') ∧ fx_X9_join n rt v w ga rc sw rw0 o x y = some (3, 0, v, w, rc, sw, rw0) ∧ AG [(1, 3), (2, 1), (3, 2)] th' 3 r 0 ∧
      RFS f nm nmm fs fm9 fu fk shr' tx' taped ops9 vs9 terms rules iss' shn' L [] [] [] [] none := by
  obtain ⟨r1, rfl, r3, rfl, rfl, r6, rfl, r8, rfl, r10, r11, r12⟩ := hr
  obtain ⟨c1, c2, c3, c4, c5, c6, c7, c8, c9⟩ := hc
  have hn5 : 100000 ≤ n := by omega
  have q0 : ¬ isn o 0 := isn_0
  have g : fx_X9_join n rt v w ga rc sw rw0 o x y = some (3, 0, v, w, rc, sw, rw0) := by
    unfold fx_X9_join
    rw [fx_checkOperator_c c3, xb1_s, if_neg q0, if_neg (by decide)]
  obtain ⟨r, th', fp', top', fsp', tm', shr', tx', iss', shn', e, hAa⟩ := fx_join_ok (nm := nm) (nmm := nmm) (fs := fs) (fu := fu) (fk := fk) (fp := fp) (fsp := fsp) (shr := shr) (tx := tx) (th := th) (top := top) (tm := tm) (iss := iss) (shn := shn) (o := o) (x := x) (y := y) hn5 r3.1 r3.2.1 r3.2.2.2.1 r3.2.2.1 r6
  obtain ⟨agg, sh', q1, q2⟩ : AG [(1, 3), (2, 1), (3, 2)] th' 3 r 0 ∧ SH2 (soF []) (maF []) (unF []) 0 (nmF [] []) shr' tx' iss' shn' sw rw0 := an_join r6.1 r11 ⟨none, r10, c8⟩ hAa (by first | exact Or.inr (Or.inr ⟨q0, rfl, rfl⟩) | exact Or.inr (Or.inr ⟨fun g => q0 g.1, rfl, rfl⟩) | exact Or.inr ⟨q0, rfl, rfl, rfl, rfl⟩ | exact Or.inr ⟨fun g => q0 g.1, rfl, rfl, rfl, rfl⟩ | exact Or.inr (Or.inr ⟨q0, rfl, rfl, rfl, rfl⟩) | exact Or.inr (Or.inr ⟨fun g => q0 g.1, rfl, rfl, rfl, rfl⟩) | exact Or.inr ⟨Or.inr (Or.inr ⟨q0, rfl⟩), rfl, rfl, rfl⟩)
  obtain rfl := SHC_none q2 c8.1
  exact ⟨r, th', fp', top', fsp', tm', shr', tx', iss', shn', e, g, agg, ⟨r1, rfl, r3, rfl, rfl, r6, rfl, r8, rfl, q1, r11, r12⟩⟩
