/-! ===== the states of both sides: the other calls ===== -/
theorem TRM_th {so : Nat → Nat} {L : List Nat} {o : PR} {Tm Tm' : List (List Nat)} {f th r : Int32} (h : TRM so L o Tm Tm' f th r) : th = 0 ∨ th = 1 ∨ th = 2 := by
  rcases h with ⟨_, a, _⟩ | ⟨_, _, a, _⟩ | ⟨t, _, _, _, ⟨_, a, _⟩ | ⟨_, _, a, _⟩ | ⟨_, _, _, _, a, _⟩⟩
  · exact Or.inr (Or.inl a)
  · exact Or.inr (Or.inl a)
  · exact Or.inr (Or.inr a)
  · exact Or.inl a
  · exact Or.inl a
theorem RUL_th {so : Nat → Nat} {L : List Nat} {g : Nat → PR} {R R' : RulL} {on on' f th r : Int32} (h : RUL so L g R R' on on' f th r) : th = 0 ∨ th = 1 ∨ th = 2 := by
  rcases h with ⟨_, a, _⟩ | ⟨t, _, ⟨_, a, _⟩ | ⟨_, ⟨_, a, _⟩ | ⟨t', _, ⟨_, a, _⟩ | ⟨_, _, ⟨_, a, _⟩ | ⟨_, _, _, _, _, a, _⟩⟩⟩⟩⟩
  · exact Or.inr (Or.inl a)
  · exact Or.inr (Or.inl a)
  · exact Or.inr (Or.inl a)
  · exact Or.inr (Or.inl a)
  · exact Or.inr (Or.inr a)
  · exact Or.inl a
theorem AG_12 {th x9 r r' : Int32} (h : th = 0 ∨ th = 1 ∨ th = 2) (e : th = x9) (hr : th = 0 → r = r') : AG [(1, 1), (2, 2)] th x9 r r' := by
  subst e
  rcases h with z | z | z
  · exact AG_0 z z (hr z)
  · exact AG_t z z (by simp)
  · exact AG_t z z (by simp)
theorem st_term {n : Nat} {f nm nmm fs fm9 fu fk shr tx fp fsp : Nat → Int32} {taped ops9 vs9 terms rules iss shn on fault th size point begin_ top : Int32} {xx h v ga rt rs sw rw0 rd rc : Nat → Nat → Int32} {w : Nat → Nat → Int64} {L : List Nat} {ops : List OpE} {vs Tm : List (List Nat)} {R : RulL} {sh : Option (List Nat)} (hn : 100000000 ≤ n) (hr : RFS f nm nmm fs fm9 fu fk shr tx taped ops9 vs9 terms rules iss shn L ops vs Tm R sh) (hc : CLS xx h v ga rt rs sw rw0 w on fault L ops vs Tm R sh) :
    ∃ (r th' size' point' begin' fault' : Int32) (fp' : Nat → Int32) (top' : Int32) (fsp' fk' : Nat → Int32) (terms' : Int32) (x9 r2 : Int32) (xx' h' v' : Nat → Nat → Int32) (w' : Nat → Nat → Int64) (rd' rc' rt' : Nat → Nat → Int32) (Tm' : List (List Nat)), fx_term n th f taped size point begin_ fault nm nmm fs fm9 fu ops9 vs9 fp top fsp fk terms = some (r, th', 0, size', point', begin', fault', fp', top', fsp', fk', terms') ∧ fx_X9_term n xx h v w ga rd rc rt = some (x9, r2, xx', h', v', w', rd', rc', rt') ∧ AG [(1, 1), (2, 2)] th' x9 r r2 ∧
      RFS f nm nmm fs fm9 fu fk' shr tx 0 ops9 vs9 terms' rules iss shn [] ops vs Tm' R sh ∧ CLS xx' h' v' ga rt' rs sw rw0 w' on fault' [] ops vs Tm' R sh := by
  obtain ⟨r1, rfl, r3, rfl, rfl, r6, rfl, r8, rfl, r10, r11, r12⟩ := hr
  obtain ⟨c1, c2, c3, c4, c5, c6, c7, c8, las0, NN, c9⟩ := hc
  have hn5 : 100000 ≤ n := by omega
  obtain ⟨r, th', size', point', begin', fault', fp', top', fsp', fk', T1, e, k1, k2, k3⟩ := fx_term_ok (fp := fp) (fsp := fsp) (th := th) (size := size) (point := point) (begin_ := begin_) (fault := fault) (top := top) hn5 r3 r1 r6 r8
  obtain ⟨x9, r2, xx', h', v', w', rd', rc', rt', T2, g, g1, g2, g3, g4, g5, g6⟩ := fx_term_c (xx := xx) (rd := rd) (rc := rc) hn5 c3 (PTK_of hn5 r3 r1) c1 c2 c9 c4 (KT_wf r6)
  obtain ⟨u1, u2, u3, u4⟩ := an_term r6.1 r6.2.2.1 k3 g6
  subst u1
  exact ⟨r, th', size', point', begin', fault', fp', top', fsp', fk', _, x9, r2, xx', h', v', w', rd', rc', rt', T1, e, g, AG_12 (TRM_th k3) u3 u4, ⟨TPE_nil, rfl, r3, rfl, rfl, k1, rfl, k2, rfl, r10, r11, r12⟩, ⟨g2, g1, c3, g4, c5, g3.trans c6, u2.symm, c8, g5⟩⟩
theorem st_rule {n : Nat} {f nm nmm fs fm9 fu fk shr tx fp fsp : Nat → Int32} {taped ops9 vs9 terms rules iss shn on fault th size point begin_ top : Int32} {xx h v ga rt rs sw rw0 rd : Nat → Nat → Int32} {w : Nat → Nat → Int64} {L : List Nat} {ops : List OpE} {vs Tm : List (List Nat)} {R : RulL} {sh : Option (List Nat)} (hn : 100000000 ≤ n) (hr : RFS f nm nmm fs fm9 fu fk shr tx taped ops9 vs9 terms rules iss shn L ops vs Tm R sh) (hc : CLS xx h v ga rt rs sw rw0 w on fault L ops vs Tm R sh) :
    ∃ (r th' size' point' begin' fault' : Int32) (fp' : Nat → Int32) (top' : Int32) (fsp' fk' : Nat → Int32) (rules' on' : Int32) (x9 r2 : Int32) (xx' h' v' : Nat → Nat → Int32) (w' : Nat → Nat → Int64) (rd' rs' : Nat → Nat → Int32) (R' : RulL), fx_rule n th f taped size point begin_ fault nm nmm fs fm9 fu ops9 vs9 fp top fsp fk rules on = some (r, th', 0, size', point', begin', fault', fp', top', fsp', fk', rules', on') ∧ fx_X9_rule n xx h v w ga rd rs = some (x9, r2, xx', h', v', w', rd', rs') ∧ AG [(1, 1), (2, 2)] th' x9 r r2 ∧
      RFS f nm nmm fs fm9 fu fk' shr tx 0 ops9 vs9 terms rules' iss shn [] ops vs Tm R' sh ∧ CLS xx' h' v' ga rt rs' sw rw0 w' on' fault' [] ops vs Tm R' sh := by
  obtain ⟨r1, rfl, r3, rfl, rfl, r6, rfl, r8, rfl, r10, r11, r12⟩ := hr
  obtain ⟨c1, c2, c3, c4, c5, c6, c7, c8, las0, NN, c9⟩ := hc
  have hn5 : 100000 ≤ n := by omega
  obtain ⟨r, th', size', point', begin', fault', fp', top', fsp', fk', R1, on', e, k1, k2, k3⟩ := fx_rule_ok (fp := fp) (fsp := fsp) (th := th) (size := size) (point := point) (begin_ := begin_) (fault := fault) (top := top) (on := on) hn5 r3 r1 r6 r8
  obtain ⟨x9, r2, xx', h', v', w', rd', rs', R2, on2, g, g1, g2, g3, g4, g5, g6⟩ := fx_rule_c (xx := xx) (rd := rd) (on := on) hn5 c3 (PTK_of hn5 r3 r1) c1 c2 c9 r8.1.1 c5
  have q := on_rule r8.1.1 k3 g6 c6 g5
  obtain ⟨u1, u2, u3, u4⟩ := an_rule k3 g6
  subst u1
  exact ⟨r, th', size', point', begin', fault', fp', top', fsp', fk', _, on', x9, r2, xx', h', v', w', rd', rs', R1, e, g, AG_12 (RUL_th k3) u3 (fun _ => u4), ⟨TPE_nil, rfl, r3, rfl, rfl, k1, rfl, k2, rfl, r10, r11, r12⟩, ⟨g2, g1, c3, c4, g3, q, u2.symm, c8, g4⟩⟩
theorem st_keep {n : Nat} {f nm nmm fs fm9 fu fk shr tx fp : Nat → Int32} {taped ops9 vs9 terms rules iss shn on fault th top : Int32} {xx h v ga rt rs sw rw0 : Nat → Nat → Int32} {w : Nat → Nat → Int64} {L : List Nat} {ops : List OpE} {vs Tm : List (List Nat)} {R : RulL} {sh : Option (List Nat)} (hn : 100000000 ≤ n) (hr : RFS f nm nmm fs fm9 fu fk shr tx taped ops9 vs9 terms rules iss shn L ops vs Tm R sh) (hc : CLS xx h v ga rt rs sw rw0 w on fault L ops vs Tm R sh) :
    ∃ (r th' : Int32) (fp' : Nat → Int32) (top' : Int32) (fk' : Nat → Int32) (terms' : Int32) (x9 r2 : Int32) (rt' : Nat → Nat → Int32) (Tm' : List (List Nat)), fx_keep n th fp top fk terms shr iss = some (r, th', fp', top', fk', terms') ∧ fx_X9_keep n rt rw0 = some (x9, r2, rt') ∧ AG [(1, 2)] th' x9 r r2 ∧
      RFS f nm nmm fs fm9 fu fk' shr tx taped ops9 vs9 terms' rules iss shn L ops vs Tm' R sh ∧ CLS xx h v ga rt' rs sw rw0 w on fault L ops vs Tm' R sh := by
  obtain ⟨r1, rfl, r3, rfl, rfl, r6, rfl, r8, rfl, r10, r11, r12⟩ := hr
  obtain ⟨c1, c2, c3, c4, c5, c6, c7, c8, c9⟩ := hc
  have hn5 : 100000 ≤ n := by omega
  obtain ⟨r, th', fp', top', fk', terms', e, k1⟩ := fx_keep_ok (fp := fp) (th := th) (top := top) hn5 r6 r10
  obtain ⟨x9, r2, rt', g, g1⟩ := fx_keep_c hn5 c4 r6.2.1 c8
  have hts : ∀ x : List Nat, sh = some x → tok (soF ops) (unF ops) (maF ops) vs.length x := fun x hx => by
    subst hx; exact r10.2.1
  obtain ⟨ag, q⟩ := an_keep (nmL := nmF ops vs) r6 c4 hts k1 g1
  rcases q with ⟨rfl, rfl, rfl⟩ | ⟨x, q1, q2, q3, rfl, q5, q6⟩
  · exact ⟨r, th', fp', top', _, _, x9, r2, _, Tm, e, g, ag, ⟨r1, rfl, r3, rfl, rfl, r6, rfl, r8, rfl, r10, r11, r12⟩, ⟨c1, c2, c3, c4, c5, c6, c7, c8, c9⟩⟩
  · have hx := hts x q1
    exact ⟨r, th', fp', top', _, _, x9, r2, rt', Tm ++ [x], e, g, ag, ⟨r1, rfl, r3, rfl, rfl, KT_add r6 hx q2 q3, q5, KR2_put r8 q3 (tok_len hx), rfl, r10, r11, r12⟩, ⟨c1, c2, c3, q6, c5, c6, c7, c8, c9⟩⟩
theorem st_operator {n : Nat} {f nm nmm fs fm9 fu fk shr tx fp : Nat → Int32} {taped ops9 vs9 terms rules iss shn on fault th top tm x y : Int32} {xx h v ga rt rs sw rw0 : Nat → Nat → Int32} {w : Nat → Nat → Int64} {L : List Nat} {ops : List OpE} {vs Tm : List (List Nat)} {R : RulL} {sh : Option (List Nat)} (hn : 100000000 ≤ n) (hr : RFS f nm nmm fs fm9 fu fk shr tx taped ops9 vs9 terms rules iss shn L ops vs Tm R sh) (hc : CLS xx h v ga rt rs sw rw0 w on fault L ops vs Tm R sh) :
    ∃ (r th' : Int32) (fp' : Nat → Int32) (top' tm' x9 r2 : Int32), fx_operator n th fs fm9 fu ops9 fp top fk terms tm x y = some (r, th', fp', top', tm') ∧ fx_X9_operator n ga rt x y = some (x9, r2) ∧ AG [(1, 3), (2, 4)] th' x9 r r2 := by
  obtain ⟨r1, rfl, r3, rfl, rfl, r6, rfl, r8, rfl, r10, r11, r12⟩ := hr
  obtain ⟨c1, c2, c3, c4, c5, c6, c7, c8, c9⟩ := hc
  have hn5 : 100000 ≤ n := by omega
  obtain ⟨r, th', fp', top', tm', e, k1⟩ := fx_operator_ok (fp := fp) (th := th) (top := top) (tm := tm) (x := x) (y := y) hn5 r3.1 r3.2.1 r3.2.2.2.1 (fun q hq => (r3.2.2.2.2 q hq).1) r6
  rcases fx_operator_c (x := x) (y := y) hn5 c3.1 c4 with ⟨o, j, a, b, g⟩ | ⟨a, b, g⟩ | ⟨a, g⟩
  · exact ⟨r, th', fp', top', tm', _, _, e, g, an_operator r11 k1 (Or.inl ⟨o, j, a, b, rfl, rfl⟩)⟩
  · exact ⟨r, th', fp', top', tm', _, _, e, g, an_operator r11 k1 (Or.inr (Or.inl ⟨a, b, rfl, rfl⟩))⟩
  · exact ⟨r, th', fp', top', tm', _, _, e, g, an_operator r11 k1 (Or.inr (Or.inr ⟨a, rfl, rfl⟩))⟩
theorem st_about {n : Nat} {f nm nmm fs fm9 fu fk shr tx fp : Nat → Int32} {taped ops9 vs9 terms rules iss shn on fault th top tm x y : Int32} {xx h v ga rt rs sw rw0 : Nat → Nat → Int32} {w : Nat → Nat → Int64} {L : List Nat} {ops : List OpE} {vs Tm : List (List Nat)} {R : RulL} {sh : Option (List Nat)} (hn : 100000000 ≤ n) (hr : RFS f nm nmm fs fm9 fu fk shr tx taped ops9 vs9 terms rules iss shn L ops vs Tm R sh) (hc : CLS xx h v ga rt rs sw rw0 w on fault L ops vs Tm R sh) :
    ∃ (r th' : Int32) (fp' : Nat → Int32) (top' tm' x9 r2 : Int32) (rt' : Nat → Nat → Int32), fx_about n th fs fu ops9 fp top fk terms rules on tm x y = some (r, th', fp', top', tm') ∧ fx_X9_about n xx rt rs ga x y = some (x9, r2, rt') ∧ AG [(1, 3), (2, 4)] th' x9 r r2 ∧
      CLS xx h v ga rt' rs sw rw0 w on fault L ops vs Tm R sh := by
  obtain ⟨r1, rfl, r3, rfl, rfl, r6, rfl, r8, rfl, r10, r11, r12⟩ := hr
  obtain ⟨c1, c2, c3, c4, c5, c6, c7, c8, c9⟩ := hc
  have hn5 : 100000 ≤ n := by omega
  have he := ENV_of c3
  have hn5 : 100000 ≤ n := by omega
  obtain ⟨r, th', fp', top', tm', e, k1⟩ := fx_about_ok (fp := fp) (th := th) (on := on) (top := top) (tm := tm) (x := x) (y := y) hn5 r3.1 r3.2.1 r3.2.2.2.1 r6 r8
  obtain ⟨x9, r2, rt', g, g1, g2⟩ := fx_about_c (x := x) (y := y) hn5 c3.1 r3.2.1 he.2.2.2.1 he.2.2.2.2.1 c4 (KT_wf r6) c5 (KR2_RUP r8) c6
  exact ⟨r, th', fp', top', tm', x9, r2, rt', e, g, an_about r6.1 k1 g2, c1, c2, c3, g1, c5, c6, c7, c8, c9⟩
theorem shn_sw {so ma : Nat → Nat} {un : Nat → Option Nat} {nv : Nat} {nmL : Nat → List Nat} {sh : Option (List Nat)} {shr tx : Nat → Int32} {iss shn : Int32} {sw rw0 : Nat → Nat → Int32} (h : SHW so un ma nv nmL sh shr tx iss shn) (hs : SHC sw rw0 so ma un nv nmL sh) : sw 0 0 = shn := by
  cases sh with
  | none => exact hs.2.trans h.2.symm
  | some x => exact hs.2.2.1.1.trans h.2.2.2.2.symm
theorem st_count {n : Nat} {f nm nmm fs fm9 fu fk shr tx : Nat → Int32} {taped ops9 vs9 terms rules iss shn on fault th x : Int32} {xx h v ga rt rs sw rw0 sp rf u : Nat → Nat → Int32} {w : Nat → Nat → Int64} {L : List Nat} {ops : List OpE} {vs Tm : List (List Nat)} {R : RulL} {sh : Option (List Nat)} (s : WS) (hn : 100000000 ≤ n) (hmv : MVA (soF ops) (maF ops) (unF ops) (lasW (ga 0 2)) vs.length) (hr : RFS f nm nmm fs fm9 fu fk shr tx taped ops9 vs9 terms rules iss shn L ops vs Tm R sh) (hc : CLS xx h v ga rt rs sw rw0 w on fault L ops vs Tm R sh) :
    ∃ (r : Int32) (s' : WS) (sp' rf' u' v' : Nat → Nat → Int32) (w' : Nat → Nat → Int64), fx_count n th fs fu ops9 vs9 s.fp s.top s.fsp fk terms rules on s.fgp s.fgt s.fb s.fw s.wt s.fm s.pv s.ff s.tm s.fpl s.fru s.fr s.M shn x = some (r, 0, s'.fp, s'.top, s'.fsp, s'.fgp, s'.fgt, s'.fb, s'.fw, s'.wt, s'.fm, s'.pv, s'.ff, s'.tm, s'.fpl, s'.fru, s'.fr, s'.M) ∧ fx_X9_count n xx rt rs sw sp rf u v w ga x = some (r, sp', rf', u', v', w') ∧
      CLS xx h v' ga rt rs sw rw0 w' on fault L ops vs Tm R sh := by
  obtain ⟨r1, rfl, r3, rfl, rfl, r6, rfl, r8, rfl, r10, r11, r12⟩ := hr
  obtain ⟨c1, c2, c3, c4, c5, c6, c7, c8, las0, NN, c9⟩ := hc
  have he := ENV_of c3
  have hn5 : 100000 ≤ n := by omega
  obtain ⟨r, s', e, k1⟩ := fx_count_ok (no := ops.length) (on := on) (th := th) (shn := shn) (x := x) s hn5 r3.1 r3.2.1 r6 r8
  obtain ⟨r2, sp', rf', u', v', w', g, g1, g2⟩ := fx_count_c (sw := sw) (sp := sp) (rf := rf) (u := u) (x := x) hn he hmv c4 r6.2.1 c5 (KR2_RUP r8) c6 c9
  rw [shn_sw r10 c8] at g2
  obtain rfl := an_count k1 g2
  exact ⟨r, s', sp', rf', u', v', w', e, g, c1, c2, c3, c4, c5, c6, c7, c8, g1⟩
theorem AG_mono {ps qs : List (Int32 × Int32)} {th x9 r r' : Int32} (h : AG ps th x9 r r') (hq : ∀ p ∈ ps, p ∈ qs) : AG qs th x9 r r' := h.elim Or.inl (fun z => Or.inr (hq _ z))
theorem st_meet {n : Nat} {f nm nmm fs fm9 fu fk shr tx fre frm frd : Nat → Int32} {taped ops9 vs9 terms rules iss shn on fault th x y z : Int32} {xx h v ga rt rs sw rw0 se re sf rg sp rf u : Nat → Nat → Int32} {ns ng : Int64} {w : Nat → Nat → Int64} {L : List Nat} {ops : List OpE} {vs Tm : List (List Nat)} {R : RulL} {sh : Option (List Nat)} (s : WS) (hn : 100000000 ≤ n) (hmv : MVA (soF ops) (maF ops) (unF ops) (lasW (ga 0 2)) vs.length) (hr : RFS f nm nmm fs fm9 fu fk shr tx taped ops9 vs9 terms rules iss shn L ops vs Tm R sh) (hc : CLS xx h v ga rt rs sw rw0 w on fault L ops vs Tm R sh) :
    ∃ (r th' : Int32) (s' : WS) (fre' frm' frd' : Nat → Int32) (x9 r2 : Int32) (se' re' sf' rg' sp' rf' u' v' : Nat → Nat → Int32) (ns' ng' : Int64) (w' : Nat → Nat → Int64), fx_meet n th fs fu s.fp s.top s.fsp fk terms rules on s.fgp s.fgt s.fb s.fw s.wt s.fm s.pv s.ff s.tm s.fpl s.fru s.fr s.M fre frm frd x y z = some (r, th', s'.fp, s'.top, s'.fsp, s'.fgp, s'.fgt, s'.fb, s'.fw, s'.wt, s'.fm, s'.pv, s'.ff, s'.tm, s'.fpl, s'.fru, s'.fr, s'.M, fre', frm', frd') ∧ fx_X9_meet n xx rt rs se ns re sf ng rg sp rf u v w ga x y z = some (x9, r2, se', ns', re', sf', ng', rg', sp', rf', u', v', w') ∧ AG [(1, 3), (2, 1), (3, 2)] th' x9 r r2 ∧
      CLS xx h v' ga rt rs sw rw0 w' on fault L ops vs Tm R sh := by
  obtain ⟨r1, rfl, r3, rfl, rfl, r6, rfl, r8, rfl, r10, r11, r12⟩ := hr
  obtain ⟨c1, c2, c3, c4, c5, c6, c7, c8, las0, NN, c9⟩ := hc
  have he := ENV_of c3
  have hn5 : 100000 ≤ n := by omega
  obtain ⟨r, th', s', fre', frm', frd', e, k1⟩ := fx_meet_ok (fre := fre) (frm := frm) (frd := frd) (on := on) (th := th) (x := x) (y := y) (z := z) s hn5 r3.1 r3.2.1 r6 r8
  have k2 := fx_meet_c (se := se) (re := re) (sf := sf) (rg := rg) (sp := sp) (rf := rf) (u := u) (ns := ns) (ng := ng) (x := x) (y := y) (z := z) hn he hmv c4 r6.2.1 c5 (KR2_RUP r8) c6 c9
  rcases an_meet r6.1 k1 k2 with ⟨x9, r2, se', re', sf', rg', sp', rf', u', v', ns', ng', w', g, g1, g2⟩ | ⟨g, g2⟩ | ⟨g, g2⟩
  · exact ⟨r, th', s', fre', frm', frd', x9, r2, se', re', sf', rg', sp', rf', u', v', ns', ng', w', e, g, AG_mono g2 (by simp), c1, c2, c3, c4, c5, c6, c7, c8, g1⟩
  · exact ⟨r, th', s', fre', frm', frd', _, _, _, _, _, _, _, _, _, _, _, _, _, e, g, AG_t g2 rfl (by simp), c1, c2, c3, c4, c5, c6, c7, c8, las0, NN, c9⟩
  · exact ⟨r, th', s', fre', frm', frd', _, _, _, _, _, _, _, _, _, _, _, _, _, e, g, AG_t g2 rfl (by simp), c1, c2, c3, c4, c5, c6, c7, c8, las0, NN, c9⟩
