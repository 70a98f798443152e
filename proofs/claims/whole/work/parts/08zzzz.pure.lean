/-! ===== before a signature is told: the other calls ===== -/
theorem st0_feed {n : Nat} {f nm nmm fs fm9 fu fk shr tx wb : Nat → Int32} {taped ops9 vs9 terms rules iss shn fault th a b c d e : Int32} {xx h v ga rt rs sw rw0 : Nat → Nat → Int32} {w : Nat → Nat → Int64} {L : List Nat} (hn : 100000 ≤ n) (hr : RFS f nm nmm fs fm9 fu fk shr tx taped ops9 vs9 terms rules iss shn L [] [] [] [] none) (hc : CLS0 xx h v ga rt rs sw rw0 w fault L) :
    ∃ (r taped' : Int32) (f' wb' : Nat → Int32) (h' : Nat → Nat → Int32) (L' : List Nat), fx_feed n th f taped wb a b c d e = some (r, 0, f', taped', wb') ∧ fx_X9_feed n h a b c d e = some (r, h') ∧
      RFS f' nm nmm fs fm9 fu fk shr tx taped' ops9 vs9 terms rules iss shn L' [] [] [] [] none ∧ CLS0 xx h' v ga rt rs sw rw0 w fault L' := by
  obtain ⟨hf, rfl, hr'⟩ := hr
  obtain ⟨ht, h0, hc'⟩ := hc
  rcases fx_feed_ok (th := th) (w := wb) (a := a) (b := b) (c := c) (d := d) (e := e) hn hf with ⟨q, f', w', e1, e2⟩ | ⟨q, e1⟩ <;> rcases fx_feed_c (a := a) (b := b) (c := c) (d := d) (e := e) hn ht h0 with ⟨q2, h', g1, g2, g3⟩ | ⟨q2, g1⟩
  · exact ⟨_, _, f', w', h', _, e1, g1, ⟨e2, rfl, hr'⟩, ⟨g2, g3, hc'⟩⟩
  · omega
  · omega
  · exact ⟨-1, _, f, wb, h, L, e1, g1, ⟨hf, rfl, hr'⟩, ⟨ht, h0, hc'⟩⟩
theorem st0_end {n : Nat} {f nm nmm fs fm9 fu fk shr tx : Nat → Int32} {taped ops9 vs9 terms rules iss shn fault th x : Int32} {xx h v ga rt rs sw rw0 : Nat → Nat → Int32} {w : Nat → Nat → Int64} {L : List Nat} (hr : RFS f nm nmm fs fm9 fu fk shr tx taped ops9 vs9 terms rules iss shn L [] [] [] [] none) (hc : CLS0 xx h v ga rt rs sw rw0 w fault L) :
    ∃ (r taped' : Int32) (h' : Nat → Nat → Int32) (L' : List Nat), fx_end n th taped x = some (r, 0, taped') ∧ fx_X9_end n h x = some (r, h') ∧
      RFS f nm nmm fs fm9 fu fk shr tx taped' ops9 vs9 terms rules iss shn L' [] [] [] [] none ∧ CLS0 xx h' v ga rt rs sw rw0 w fault L' := by
  obtain ⟨hf, rfl, hr'⟩ := hr
  obtain ⟨ht, h0, hc'⟩ := hc
  have h4 := hf.1
  have bl : L.length + 1 < 2147483648 := by omega
  rcases fx_end_ok (n := n) (th := th) (x := x) hf with ⟨k, k1, e1, e2⟩ | ⟨q, e1⟩ <;> rcases fx_end_c (n := n) (x := x) ht h0 with ⟨k', k2, h', g1, g2, g3⟩ | ⟨q2, g1⟩
  · obtain rfl := ixu bl k1 k2
    exact ⟨1, _, h', L.take k, e1, g1, ⟨e2, rfl, hr'⟩, ⟨g2, g3, hc'⟩⟩
  · exact absurd (isn_ix bl k1) q2
  · exact absurd (isn_ix bl k2) q
  · exact ⟨0, _, h, L, e1, g1, ⟨hf, rfl, hr'⟩, ⟨ht, h0, hc'⟩⟩
theorem st0_show {n : Nat} {f nm nmm fs fm9 fu fk fp shr tx : Nat → Int32} {taped ops9 vs9 terms rules iss shn fault th top tm x : Int32} {xx h v ga rt rs sw rw0 : Nat → Nat → Int32} {w : Nat → Nat → Int64} {L : List Nat} (hn : 100000 ≤ n) (hr : RFS f nm nmm fs fm9 fu fk shr tx taped ops9 vs9 terms rules iss shn L [] [] [] [] none) (hc : CLS0 xx h v ga rt rs sw rw0 w fault L) :
    fx_show n th nm nmm fp top fk terms tm shr tx iss shn x = some (0, 1, fp, top, tm, shr, tx, iss, shn) ∧ fx_X9_show n rt sw ga rw0 x = some (3, 0, sw, rw0) := by
  obtain ⟨r1, rfl, r3, rfl, rfl, r6, rfl, r8, rfl, r10, r11, r12⟩ := hr
  obtain ⟨c1, c2, c3, c4, c5, c6, c7, c8, c9⟩ := hc
  have q0 : ¬ isn x ([] : List (List Nat)).length := isn_0
  refine ⟨?_, ?_⟩
  · rcases fx_show_ok (th := th) (fp := fp) (top := top) (tm := tm) (shr := shr) (tx := tx) (iss := iss) (shn := shn) (p := x) hn r3.2.2.1 r12 r6 with ⟨i, fp', top', tm', shr', tx', i1, _⟩ | ⟨q, e⟩
    · exact absurd i1 (Nat.not_lt_zero _)
    · exact e
  · unfold fx_X9_show
    rw [fx_checkTerm_c c4, xb1_s, if_neg q0, if_neg (by decide)]
theorem st0_side {n : Nat} {f nm nmm fs fm9 fu fk fp shr tx : Nat → Int32} {taped ops9 vs9 terms rules iss shn fault th top x : Int32} {right : Bool} {xx h v ga rt rs sw rw0 : Nat → Nat → Int32} {w : Nat → Nat → Int64} {L : List Nat} (hn : 100000 ≤ n) (hr : RFS f nm nmm fs fm9 fu fk shr tx taped ops9 vs9 terms rules iss shn L [] [] [] [] none) (hc : CLS0 xx h v ga rt rs sw rw0 w fault L) :
    fx_side n th nm nmm fp top fk rules shr tx iss shn x (ob right) = some (0, 1, fp, top, shr, tx, iss, shn) ∧ fx_X9_side n rs sw ga rw0 x (ob right) = some (3, 0, sw, rw0) := by
  obtain ⟨r1, rfl, r3, rfl, rfl, r6, rfl, r8, rfl, r10, r11, r12⟩ := hr
  obtain ⟨c1, c2, c3, c4, c5, c6, c7, c8, c9⟩ := hc
  have q0 : ¬ isn x 0 := isn_0
  refine ⟨?_, ?_⟩
  · rcases fx_side_ok (th := th) (fp := fp) (top := top) (shr := shr) (tx := tx) (iss := iss) (shn := shn) (p := x) (right := right) hn r3.2.2.1 r12 r8 with ⟨i, fp', top', shr', tx', i1, _⟩ | ⟨q, e⟩
    · exact absurd i1 (Nat.not_lt_zero _)
    · exact e
  · unfold fx_X9_side
    rw [fx_checkRule_c (r := 0) c5 rfl, xb1_s, if_neg q0, if_neg (by decide)]
theorem st0_keep {n : Nat} {f nm nmm fs fm9 fu fk shr tx fp : Nat → Int32} {taped ops9 vs9 terms rules iss shn fault th top : Int32} {xx h v ga rt rs sw rw0 : Nat → Nat → Int32} {w : Nat → Nat → Int64} {L : List Nat} (hn : 100000 ≤ n) (hr : RFS f nm nmm fs fm9 fu fk shr tx taped ops9 vs9 terms rules iss shn L [] [] [] [] none) (hc : CLS0 xx h v ga rt rs sw rw0 w fault L) :
    ∃ (fp' : Nat → Int32) (top' : Int32), fx_keep n th fp top fk terms shr iss = some (0, 1, fp', top', fk, terms) ∧ fx_X9_keep n rt rw0 = some (2, 0, rt) := by
  obtain ⟨r1, rfl, r3, rfl, rfl, r6, rfl, r8, rfl, r10, r11, r12⟩ := hr
  obtain ⟨c1, c2, c3, c4, c5, c6, c7, c8, c9⟩ := hc
  obtain ⟨r, th', fp', top', fk', terms', e, k1⟩ := fx_keep_ok (fp := fp) (th := th) (top := top) hn r6 r10
  obtain ⟨x9, r2, rt', g, g1⟩ := fx_keep_c hn c4 r6.2.1 c8
  rcases k1 with ⟨_, rfl, rfl, rfl, rfl⟩ | ⟨x, k, _⟩
  · rcases g1 with ⟨_, rfl, rfl, rfl⟩ | ⟨x, k, _⟩
    · exact ⟨fp', top', e, g⟩
    · exact nomatch k
  · exact nomatch k
theorem st0_turn {n : Nat} {rs xx : Nat → Nat → Int32} {on th x : Int32} {bo : Bool} (hB : RWS 16 rs []) :
    fx_turn n th 0 on x (ob bo) = some (0, 1, on) ∧ fx_X9_turn n xx rs x (ob bo) = some (3, 0, xx) := by
  have q0 : ¬ isn x 0 := isn_0
  refine ⟨?_, ?_⟩
  · rcases fx_turn_ok (n := n) (th := th) (on := on) (x := x) (b := bo) (R := []) (by decide) with ⟨k, k1, _⟩ | ⟨_, e⟩
    · exact absurd k1.1 (Nat.not_lt_zero _)
    · exact e
  · unfold fx_X9_turn
    rw [fx_checkRule_c (r := 0) hB rfl, xb1_s, if_neg q0, if_neg (by decide)]
theorem st0_operator {n : Nat} {f nm nmm fs fm9 fu fk shr tx fp : Nat → Int32} {taped ops9 vs9 terms rules iss shn fault th top tm x y : Int32} {xx h v ga rt rs sw rw0 : Nat → Nat → Int32} {w : Nat → Nat → Int64} {L : List Nat} (hn : 100000 ≤ n) (hr : RFS f nm nmm fs fm9 fu fk shr tx taped ops9 vs9 terms rules iss shn L [] [] [] [] none) (hc : CLS0 xx h v ga rt rs sw rw0 w fault L) :
    ∃ (r th' : Int32) (fp' : Nat → Int32) (top' tm' x9 r2 : Int32), fx_operator n th fs fm9 fu ops9 fp top fk terms tm x y = some (r, th', fp', top', tm') ∧ fx_X9_operator n ga rt x y = some (x9, r2) ∧ AG [(1, 3), (2, 4)] th' x9 r r2 := by
  obtain ⟨r1, rfl, r3, rfl, rfl, r6, rfl, r8, rfl, r10, r11, r12⟩ := hr
  obtain ⟨c1, c2, c3, c4, c5, c6, c7, c8, c9⟩ := hc
  obtain ⟨r, th', fp', top', tm', e, k1⟩ := fx_operator_ok (fp := fp) (th := th) (top := top) (tm := tm) (x := x) (y := y) hn r3.1 r3.2.1 r3.2.2.2.1 (fun q hq => (r3.2.2.2.2 q hq).1) r6
  rcases fx_operator_c (x := x) (y := y) hn c3 c4 with ⟨o, j, a, b, g⟩ | ⟨a, b, g⟩ | ⟨a, g⟩
  · exact absurd a.1 (Nat.not_lt_zero _)
  · exact absurd a isn_0
  · exact ⟨r, th', fp', top', tm', _, _, e, g, an_operator r11 k1 (Or.inr (Or.inr ⟨isn_0, rfl, rfl⟩))⟩
theorem st0_signature {n : Nat} {f nm nmm fs fm fu fk fn fnm fs9 fm9 fu9 shr tx : Nat → Int32} {taped ops9 vs9 terms rules iss shn on fault th size point begin_ no9 nv9 top : Int32} {xx h v ga gc rt rs sw rw0 : Nat → Nat → Int32} {w : Nat → Nat → Int64} {L : List Nat} (hn : 100000 ≤ n) (hr : RFS f nm nmm fs fm fu fk shr tx taped ops9 vs9 terms rules iss shn L [] [] [] [] none) (hc : CLS0 xx h v ga rt rs sw rw0 w fault L) :
    ∃ (r th' size' point' begin' fault' x9 r' : Int32) (nm' fn' nmm' fnm' fs' fm' fu' fs9' fm9' fu9' : Nat → Int32) (ops9' vs9' no9' nv9' top' terms' rules' iss' shn' : Int32) (xx' h' ga' gc' rt' rs' sw' rw' : Nat → Nat → Int32),
      fx_signature n th f taped size point begin_ fault nm fn nmm fnm fs fm fu fs9 fm9 fu9 ops9 vs9 no9 nv9 top terms rules iss shn = some (r, th', 0, size', point', begin', fault', nm', fn', nmm', fnm', fs', fm', fu', fs9', fm9', fu9', ops9', vs9', no9', nv9', top', terms', rules', iss', shn') ∧ fx_X9_signature n xx h ga gc rt rs sw rw0 = some (x9, r', xx', h', ga', gc', rt', rs', sw', rw') ∧ AG [(1, 1)] th' x9 r r' ∧
      ((RFS f nm' nmm' fs' fm' fu' fk shr tx 0 ops9' vs9' terms' rules' iss' shn' [] [] [] [] [] none ∧ CLS0 xx' h' v ga' rt' rs' sw' rw' w fault' []) ∨
       (∃ (ops : List OpE) (vs : List (List Nat)), RFS f nm' nmm' fs' fm' fu' fk shr tx 0 ops9' vs9' terms' rules' iss' shn' [] ops vs [] [] none ∧ CLS xx' h' v ga' rt' rs' sw' rw' w on fault' [] ops vs [] [] none)) := by
  obtain ⟨r1, rfl, r3, r4, r5, r6, r7, r8, r9, r10, r11, r12⟩ := hr
  obtain ⟨c1, c2, c3, c4, c5, c6, c7, c8, c9⟩ := hc
  obtain ⟨r, th', size', point', begin', fault', nm', fn', nmm', fnm', fs', fm', fu', fs9', fm9', fu9', ops9', vs9', no9', nv9', top', terms', rules', iss', shn', e, hS⟩ := fx_signature_ok (th := th) (nm := nm) (fn := fn) (nmm := nmm) (fnm := fnm) (fs := fs) (fm := fm) (fu := fu) (fs9 := fs9) (fm9 := fm9) (fu9 := fu9) (size := size) (point := point) (begin_ := begin_) (fault := fault) (ops9 := ops9) (vs9 := vs9) (no9 := no9) (nv9 := nv9) (top := top) (terms := terms) (rules := rules) (iss := iss) (shn := shn) hn r1
  rcases hS with ⟨a1, a2, a3, a4, rfl, rfl, rfl, rfl, rfl, rfl, rfl, rfl, rfl, rfl, rfl⟩ | ⟨o, s, a1, a2, a3, a4, a5, a6, a7, a8, a9, a10, a11, a12, a13, a14⟩
  · obtain ⟨x9, r', xx', h', ga', gc', rt', rs', sw', rw', g, g1, g2, g3⟩ := fx_signature_c (xx := xx) (ga := ga) (gc := gc) (rt := rt) (rs := rs) (sw := sw) (rw0 := rw0) (nv0 := 0) (so0 := fun _ => 0) (ma0 := fun _ => 0) (un0 := fun _ => none) (nm0 := fun _ => []) hn c1 c2
    rcases g3 with ⟨b1, b2, b3, b4, b5, rfl, rfl, rfl, rfl, rfl⟩ | ⟨o', s', b1, _⟩
    · exact ⟨_, _, _, _, _, _, x9, r', _, _, _, _, _, _, _, _, _, _, _, _, _, _, _, _, _, _, _, xx', h', _, gc', _, _, _, _, e, g, AG_t a2 b2 (by simp), Or.inl ⟨⟨TPE_nil, rfl, r3, r4, r5, r6, r7, r8, r9, r10, r11, r12⟩, ⟨g2, g1, c3, c4, c5, b5.trans c6, b4.trans a4.symm, c8, c9⟩⟩⟩
    · rw [a1] at b1; cases b1
  · obtain ⟨x9, r', xx', h', ga', gc', rt', rs', sw', rw', g, g1, g2, g3⟩ := fx_signature_c (xx := xx) (ga := ga) (gc := gc) (rt := rt) (rs := rs) (sw := sw) (rw0 := rw0) (nv0 := s.length) (so0 := soF o) (ma0 := maF o) (un0 := unF o) (nm0 := nmF o s) hn c1 c2
    rcases g3 with ⟨b1, _⟩ | ⟨o', s', b1, b2, b3, b4, b5, b6, b7, b8, b9⟩
    · rw [a1] at b1; cases b1
    · rw [a1] at b1
      obtain ⟨rfl, rfl⟩ := Prod.mk.inj (Option.some.inj b1)
      exact ⟨_, _, _, _, _, _, x9, r', _, _, _, _, _, _, _, _, _, _, _, _, _, _, _, _, _, _, _, xx', h', ga', gc', rt', rs', sw', rw', e, g, AG_0 a2 b2 (a3.trans b3.symm), Or.inr ⟨o, s, ⟨TPE_nil, rfl, a5, a9, a10, ⟨by decide, fun _ hx => absurd hx List.not_mem_nil, List.nodup_nil, fun i hi => absurd hi (Nat.not_lt_zero i)⟩, a11, ⟨⟨by decide, fun _ hx => absurd hx List.not_mem_nil, fun i hi => absurd hi (Nat.not_lt_zero i)⟩, fun _ hx => absurd hx List.not_mem_nil⟩, a12, ⟨a13, a14⟩, a7, a8⟩, ⟨g2, g1, b6, b7, b8, b5.trans ron_0.symm, b4.trans a4.symm, b9, c9⟩⟩⟩
