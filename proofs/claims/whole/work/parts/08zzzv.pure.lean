/-! ===== the states of both sides ===== -/
theorem TPE_nil {f : Nat → Int32} : TPE f [] := ⟨by decide, fun _ h => absurd h List.not_mem_nil, fun i hi => absurd hi (Nat.not_lt_zero i)⟩
/-- the reference's fields -/
def RFS (f nm nmm fs fm fu fk shr tx : Nat → Int32) (taped ops9 vs9 terms rules iss shn : Int32) (L : List Nat) (ops : List OpE) (vs : List (List Nat)) (Tm : List (List Nat)) (R : RulL) (sh : Option (List Nat)) : Prop :=
  TPE f L ∧ taped = nI L.length ∧ SIG nm nmm fs fm fu (soF ops) (maF ops) (unF ops) ops.length vs.length (nmF ops vs) ∧ ops9 = nI ops.length ∧ vs9 = nI vs.length ∧ KT (soF ops) (unF ops) (maF ops) vs.length fk Tm ∧ terms = nI Tm.length ∧ KR2 (soF ops) (unF ops) (maF ops) vs.length fk R ∧ rules = nI R.length ∧ SHW (soF ops) (unF ops) (maF ops) vs.length (nmF ops vs) sh shr tx iss shn ∧ ops.length ≤ 10 ∧ vs.length ≤ 5
/-- the class's cells -/
def CLS (xx h v ga rt rs sw rw : Nat → Nat → Int32) (w : Nat → Nat → Int64) (on fault : Int32) (L : List Nat) (ops : List OpE) (vs : List (List Nat)) (Tm : List (List Nat)) (R : RulL) (sh : Option (List Nat)) : Prop :=
  TPC h L ∧ h 0 0 = nI L.length ∧ SGW ga ops vs ∧ RWS 30 rt Tm ∧ RWS 16 rs (sdl R) ∧ xx 0 0 = ron on R.length ∧ xx 0 1 = fault ∧ SHC sw rw (soF ops) (maF ops) (unF ops) vs.length (nmF ops vs) sh ∧ ∃ (las : Nat → Bool) (N : List (List Nat)), TB v w las N
theorem KT_wf {so ma : Nat → Nat} {un : Nat → Option Nat} {nv : Nat} {fk : Nat → Int32} {Tm : List (List Nat)} (h : KT so un ma nv fk Tm) : ∀ t ∈ Tm, wf 1 t := fun t ht => (h.2.1 t ht).1.1.1
theorem st_feed {n : Nat} {f nm nmm fs fm fu fk shr tx wb : Nat → Int32} {taped ops9 vs9 terms rules iss shn on fault th a b c d e : Int32} {xx h v ga rt rs sw rw0 : Nat → Nat → Int32} {w : Nat → Nat → Int64} {L : List Nat} {ops : List OpE} {vs Tm : List (List Nat)} {R : RulL} {sh : Option (List Nat)} (hn : 100000 ≤ n) (hr : RFS f nm nmm fs fm fu fk shr tx taped ops9 vs9 terms rules iss shn L ops vs Tm R sh) (hc : CLS xx h v ga rt rs sw rw0 w on fault L ops vs Tm R sh) :
    ∃ (r taped' : Int32) (f' wb' : Nat → Int32) (h' : Nat → Nat → Int32) (L' : List Nat), fx_feed n th f taped wb a b c d e = some (r, 0, f', taped', wb') ∧ fx_X9_feed n h a b c d e = some (r, h') ∧
      RFS f' nm nmm fs fm fu fk shr tx taped' ops9 vs9 terms rules iss shn L' ops vs Tm R sh ∧ CLS xx h' v ga rt rs sw rw0 w on fault L' ops vs Tm R sh := by
  obtain ⟨hf, rfl, hr'⟩ := hr
  obtain ⟨ht, h0, hc'⟩ := hc
  rcases fx_feed_ok (th := th) (w := wb) (a := a) (b := b) (c := c) (d := d) (e := e) hn hf with ⟨q, f', w', e1, e2⟩ | ⟨q, e1⟩ <;> rcases fx_feed_c (a := a) (b := b) (c := c) (d := d) (e := e) hn ht h0 with ⟨q2, h', g1, g2, g3⟩ | ⟨q2, g1⟩
  · exact ⟨_, _, f', w', h', _, e1, g1, ⟨e2, rfl, hr'⟩, ⟨g2, g3, hc'⟩⟩
  · omega
  · omega
  · exact ⟨-1, _, f, wb, h, L, e1, g1, ⟨hf, rfl, hr'⟩, ⟨ht, h0, hc'⟩⟩
theorem st_end {n : Nat} {f nm nmm fs fm fu fk shr tx : Nat → Int32} {taped ops9 vs9 terms rules iss shn on fault th x : Int32} {xx h v ga rt rs sw rw0 : Nat → Nat → Int32} {w : Nat → Nat → Int64} {L : List Nat} {ops : List OpE} {vs Tm : List (List Nat)} {R : RulL} {sh : Option (List Nat)} (hr : RFS f nm nmm fs fm fu fk shr tx taped ops9 vs9 terms rules iss shn L ops vs Tm R sh) (hc : CLS xx h v ga rt rs sw rw0 w on fault L ops vs Tm R sh) :
    ∃ (r taped' : Int32) (h' : Nat → Nat → Int32) (L' : List Nat), fx_end n th taped x = some (r, 0, taped') ∧ fx_X9_end n h x = some (r, h') ∧
      RFS f nm nmm fs fm fu fk shr tx taped' ops9 vs9 terms rules iss shn L' ops vs Tm R sh ∧ CLS xx h' v ga rt rs sw rw0 w on fault L' ops vs Tm R sh := by
  obtain ⟨hf, rfl, hr'⟩ := hr
  obtain ⟨ht, h0, hc'⟩ := hc
  have h4 := hf.1
  have bl : L.length + 1 < 2147483648 := by omega
  rcases fx_end_ok (n := n) (th := th) (x := x) hf with ⟨k, k1, e1, e2⟩ | ⟨q, e1⟩ <;> rcases fx_end_c (n := n) (x := x) ht h0 with ⟨k', k2, h', g1, g2, g3⟩ | ⟨q2, g1⟩
  · obtain rfl := ixu bl k1 k2
    exact ⟨1, _, h', L.take k, e1, g1, ⟨e2, rfl, hr'⟩, ⟨g2, g3, hc'⟩⟩
  · exact absurd (isn_ix bl k1) q2
  · exact absurd (isn_ix bl k2) q
  · exact ⟨0, _, h, L, e1, g1, ⟨hf, rfl, hr'⟩, ⟨ht, h0, hc'⟩⟩
theorem st_order {n : Nat} {so ma : Nat → Nat} {un : Nat → Option Nat} {nv : Nat} {fp fk : Nat → Int32} {th top tm x y : Int32} {rt : Nat → Nat → Int32} {Tm : List (List Nat)} (hn : 100000 ≤ n) (h : KT so un ma nv fk Tm) (hA : RWS 30 rt Tm) :
    ∃ (r th' x9 r' : Int32) (fp' : Nat → Int32) (top' tm' : Int32), fx_order n th fp top fk (nI Tm.length) tm x y = some (r, th', fp', top', tm') ∧ fx_X9_order n rt x y = some (x9, r') ∧ AG [(1, 3)] th' x9 r r' := by
  have h30 := h.1
  have bl : Tm.length < 2147483648 := by omega
  rcases fx_order_ok (th := th) (fp := fp) (top := top) (tm := tm) (x := x) (y := y) hn h with ⟨i, j, fp', top', tm', i1, j1, e⟩ | ⟨q, e⟩ <;> rcases fx_order_c (x := x) (y := y) hn hA (KT_wf h) with ⟨i', j', i2, j2, g⟩ | ⟨q2, g⟩
  · obtain rfl := ixu bl i1 i2
    obtain rfl := ixu bl j1 j2
    exact ⟨_, _, _, _, _, _, _, e, g, AG_0 rfl rfl rfl⟩
  · exact absurd ⟨isn_ix bl i1, isn_ix bl j1⟩ q2
  · exact absurd ⟨isn_ix bl i2, isn_ix bl j2⟩ q
  · exact ⟨_, _, _, _, _, _, _, e, g, AG_t rfl rfl (by simp)⟩
theorem st_rank {n : Nat} {so ma : Nat → Nat} {un : Nat → Option Nat} {nv : Nat} {fp fk : Nat → Int32} {th top tm p : Int32} {rt : Nat → Nat → Int32} {Tm : List (List Nat)} (hn : 100000 ≤ n) (h : KT so un ma nv fk Tm) (hA : RWS 30 rt Tm) :
    ∃ (r : Int32) (fp' : Nat → Int32) (top' tm' : Int32), fx_rank n th fp top fk (nI Tm.length) tm p = some (r, 0, fp', top', tm') ∧ fx_X9_rank n rt p = some r := by
  obtain ⟨fp', top', tm', e⟩ := fx_rank_ok (th := th) (fp := fp) (top := top) (tm := tm) (p := p) hn h
  exact ⟨_, fp', top', tm', e, fx_rank_c hn hA (KT_wf h)⟩
theorem st_octet {n nv : Nat} {so ma : Nat → Nat} {un : Nat → Option Nat} {nm nmm shr tx : Nat → Int32} {nmL : Nat → List Nat} {sh : Option (List Nat)} {th iss shn k : Int32} {sw rw0 : Nat → Nat → Int32} (hnm : NMs so nv nm nmm nmL) (h5 : nv ≤ 5) (h : SHW so un ma nv nmL sh shr tx iss shn) (hs : SHC sw rw0 so ma un nv nmL sh) :
    ∃ r : Int32, fx_octet n th tx shn k = some (r, 0) ∧ fx_X9_octet n sw k = some r := ⟨_, fx_octet_ok hnm h5 h, fx_octet_c hs⟩
theorem st_turn {n : Nat} {f nm nmm fs fm fu fk shr tx : Nat → Int32} {taped ops9 vs9 terms rules iss shn on fault th x : Int32} {bo : Bool} {xx h v ga rt rs sw rw0 : Nat → Nat → Int32} {w : Nat → Nat → Int64} {L : List Nat} {ops : List OpE} {vs Tm : List (List Nat)} {R : RulL} {sh : Option (List Nat)} (hr : RFS f nm nmm fs fm fu fk shr tx taped ops9 vs9 terms rules iss shn L ops vs Tm R sh) (hc : CLS xx h v ga rt rs sw rw0 w on fault L ops vs Tm R sh) :
    ∃ (r th' on' x9 r' : Int32) (xx' : Nat → Nat → Int32), fx_turn n th rules on x (ob bo) = some (r, th', on') ∧ fx_X9_turn n xx rs x (ob bo) = some (x9, r', xx') ∧ AG [(1, 3)] th' x9 r r' ∧ CLS xx' h v ga rt rs sw rw0 w on' fault L ops vs Tm R sh := by
  obtain ⟨-, -, -, -, -, -, -, hk, rfl, -⟩ := hr
  obtain ⟨c1, c2, c3, c4, c5, c6, c7, c8⟩ := hc
  have h8 := hk.1.1
  have bl : R.length < 2147483648 := by omega
  rcases fx_turn_ok (n := n) (th := th) (on := on) (x := x) (b := bo) h8 with ⟨k, k1, e⟩ | ⟨q, e⟩ <;> rcases fx_turn_c (n := n) (x := x) (b := bo) h8 c5 c6 with ⟨k', k2, xx', g, g2, g3⟩ | ⟨q2, g⟩
  · obtain rfl := ixu bl k1 k2
    exact ⟨_, _, _, _, _, xx', e, g, AG_0 rfl rfl rfl, c1, c2, c3, c4, c5, g2, g3.trans c7, c8⟩
  · exact absurd (isn_ix bl k1) q2
  · exact absurd (isn_ix bl k2) q
  · exact ⟨_, _, _, _, _, xx, e, g, AG_t rfl rfl (by simp), c1, c2, c3, c4, c5, c6, c7, c8⟩
theorem st_show {n : Nat} {f nm nmm fs fm fu fk fp shr tx : Nat → Int32} {taped ops9 vs9 terms rules iss shn on fault th top tm x : Int32} {xx h v ga rt rs sw rw0 : Nat → Nat → Int32} {w : Nat → Nat → Int64} {L : List Nat} {ops : List OpE} {vs Tm : List (List Nat)} {R : RulL} {sh : Option (List Nat)} (hn : 100000 ≤ n) (hr : RFS f nm nmm fs fm fu fk shr tx taped ops9 vs9 terms rules iss shn L ops vs Tm R sh) (hc : CLS xx h v ga rt rs sw rw0 w on fault L ops vs Tm R sh) :
    ∃ (r th' top' tm' iss' shn' x9 r' : Int32) (fp' shr' tx' : Nat → Int32) (sw' rw' : Nat → Nat → Int32) (sh' : Option (List Nat)), fx_show n th nm nmm fp top fk terms tm shr tx iss shn x = some (r, th', fp', top', tm', shr', tx', iss', shn') ∧ fx_X9_show n rt sw ga rw0 x = some (x9, r', sw', rw') ∧ AG [(1, 3)] th' x9 r r' ∧
      RFS f nm nmm fs fm fu fk shr' tx' taped ops9 vs9 terms rules iss' shn' L ops vs Tm R sh' ∧ CLS xx h v ga rt rs sw' rw' w on fault L ops vs Tm R sh' := by
  obtain ⟨r1, r2, r3, r4, r5, r6, rfl, r8, r9, r10, r11, r12⟩ := hr
  obtain ⟨c1, c2, c3, c4, c5, c6, c7, c8, c9⟩ := hc
  have h30 := r6.1
  have bl : Tm.length < 2147483648 := by omega
  rcases fx_show_ok (th := th) (fp := fp) (top := top) (tm := tm) (shr := shr) (tx := tx) (iss := iss) (shn := shn) (p := x) hn r3.2.2.1 r12 r6 with ⟨i, fp', top', tm', shr', tx', i1, i2, e, e2⟩ | ⟨q, e⟩ <;> rcases fx_show_c (sw := sw) (rw0 := rw0) (x := x) hn (ENV_of c3) (NML_of c3) c4 r6.2.1 with ⟨j, j1, sw', rw', g, g2⟩ | ⟨q2, g⟩
  · obtain rfl := ixu bl ⟨i1, i2⟩ j1
    exact ⟨_, _, top', tm', _, _, _, _, fp', shr', tx', sw', rw', _, e, g, AG_0 rfl rfl rfl, ⟨r1, r2, r3, r4, r5, r6, rfl, r8, r9, e2, r11, r12⟩, ⟨c1, c2, c3, c4, c5, c6, c7, g2, c9⟩⟩
  · exact absurd (isn_ix bl ⟨i1, i2⟩) q2
  · exact absurd (isn_ix bl j1) q
  · exact ⟨_, _, top, tm, _, _, _, _, fp, shr, tx, sw, rw0, _, e, g, AG_t rfl rfl (by simp), ⟨r1, r2, r3, r4, r5, r6, rfl, r8, r9, r10, r11, r12⟩, ⟨c1, c2, c3, c4, c5, c6, c7, c8, c9⟩⟩
theorem st_side {n : Nat} {f nm nmm fs fm fu fk fp shr tx : Nat → Int32} {taped ops9 vs9 terms rules iss shn on fault th top x : Int32} {right : Bool} {xx h v ga rt rs sw rw0 : Nat → Nat → Int32} {w : Nat → Nat → Int64} {L : List Nat} {ops : List OpE} {vs Tm : List (List Nat)} {R : RulL} {sh : Option (List Nat)} (hn : 100000 ≤ n) (hr : RFS f nm nmm fs fm fu fk shr tx taped ops9 vs9 terms rules iss shn L ops vs Tm R sh) (hc : CLS xx h v ga rt rs sw rw0 w on fault L ops vs Tm R sh) :
    ∃ (r th' top' iss' shn' x9 r' : Int32) (fp' shr' tx' : Nat → Int32) (sw' rw' : Nat → Nat → Int32) (sh' : Option (List Nat)), fx_side n th nm nmm fp top fk rules shr tx iss shn x (ob right) = some (r, th', fp', top', shr', tx', iss', shn') ∧ fx_X9_side n rs sw ga rw0 x (ob right) = some (x9, r', sw', rw') ∧ AG [(1, 3)] th' x9 r r' ∧
      RFS f nm nmm fs fm fu fk shr' tx' taped ops9 vs9 terms rules iss' shn' L ops vs Tm R sh' ∧ CLS xx h v ga rt rs sw' rw' w on fault L ops vs Tm R sh' := by
  obtain ⟨r1, r2, r3, r4, r5, r6, r7, r8, rfl, r10, r11, r12⟩ := hr
  obtain ⟨c1, c2, c3, c4, c5, c6, c7, c8, c9⟩ := hc
  have h8 := r8.1.1
  have bl : R.length < 2147483648 := by omega
  rcases fx_side_ok (th := th) (fp := fp) (top := top) (shr := shr) (tx := tx) (iss := iss) (shn := shn) (p := x) (right := right) hn r3.2.2.1 r12 r8 with ⟨i, fp', top', shr', tx', i1, i2, e, e2⟩ | ⟨q, e⟩ <;> rcases fx_side_c (sw := sw) (rw0 := rw0) (x := x) (right := right) hn (ENV_of c3) (NML_of c3) c5 (KR2_RUP r8) with ⟨j, j1, sw', rw', g, g2⟩ | ⟨q2, g⟩
  · obtain rfl := ixu bl ⟨i1, i2⟩ j1
    exact ⟨_, _, top', _, _, _, _, fp', shr', tx', sw', rw', _, e, g, AG_0 rfl rfl rfl, ⟨r1, r2, r3, r4, r5, r6, r7, r8, rfl, e2, r11, r12⟩, ⟨c1, c2, c3, c4, c5, c6, c7, g2, c9⟩⟩
  · exact absurd (isn_ix bl ⟨i1, i2⟩) q2
  · exact absurd (isn_ix bl j1) q
  · exact ⟨_, _, top, _, _, _, _, fp, shr, tx, sw, rw0, _, e, g, AG_t rfl rfl (by simp), ⟨r1, r2, r3, r4, r5, r6, r7, r8, rfl, r10, r11, r12⟩, ⟨c1, c2, c3, c4, c5, c6, c7, c8, c9⟩⟩
theorem ron_0 {on : Int32} : ron on 0 = 0 := by
  obtain ⟨b, h1, h2⟩ := ron_bits (on := on) (k := 0) (by decide)
  have : b = 0 := by omega
  rw [h2, this]; rfl
theorem st_signature {n : Nat} {f nm nmm fs fm fu fk fn fnm fs9 fm9 fu9 shr tx : Nat → Int32} {taped ops9 vs9 terms rules iss shn on fault th size point begin_ no9 nv9 top : Int32} {xx h v ga gc rt rs sw rw0 : Nat → Nat → Int32} {w : Nat → Nat → Int64} {L : List Nat} {ops : List OpE} {vs Tm : List (List Nat)} {R : RulL} {sh : Option (List Nat)} (hn : 100000 ≤ n) (hr : RFS f nm nmm fs fm fu fk shr tx taped ops9 vs9 terms rules iss shn L ops vs Tm R sh) (hc : CLS xx h v ga rt rs sw rw0 w on fault L ops vs Tm R sh) :
    ∃ (r th' size' point' begin' fault' x9 r' : Int32) (nm' fn' nmm' fnm' fs' fm' fu' fs9' fm9' fu9' : Nat → Int32) (ops9' vs9' no9' nv9' top' terms' rules' iss' shn' : Int32) (xx' h' ga' gc' rt' rs' sw' rw' : Nat → Nat → Int32) (ops' : List OpE) (vs' Tm' : List (List Nat)) (R' : RulL) (sh' : Option (List Nat)),
      fx_signature n th f taped size point begin_ fault nm fn nmm fnm fs fm fu fs9 fm9 fu9 ops9 vs9 no9 nv9 top terms rules iss shn = some (r, th', 0, size', point', begin', fault', nm', fn', nmm', fnm', fs', fm', fu', fs9', fm9', fu9', ops9', vs9', no9', nv9', top', terms', rules', iss', shn') ∧ fx_X9_signature n xx h ga gc rt rs sw rw0 = some (x9, r', xx', h', ga', gc', rt', rs', sw', rw') ∧ AG [(1, 1)] th' x9 r r' ∧
      RFS f nm' nmm' fs' fm' fu' fk shr tx 0 ops9' vs9' terms' rules' iss' shn' [] ops' vs' Tm' R' sh' ∧ CLS xx' h' v ga' rt' rs' sw' rw' w on fault' [] ops' vs' Tm' R' sh' := by
  obtain ⟨r1, rfl, r3, r4, r5, r6, r7, r8, r9, r10, r11, r12⟩ := hr
  obtain ⟨c1, c2, c3, c4, c5, c6, c7, c8, c9⟩ := hc
  obtain ⟨r, th', size', point', begin', fault', nm', fn', nmm', fnm', fs', fm', fu', fs9', fm9', fu9', ops9', vs9', no9', nv9', top', terms', rules', iss', shn', e, hS⟩ := fx_signature_ok (th := th) (nm := nm) (fn := fn) (nmm := nmm) (fnm := fnm) (fs := fs) (fm := fm) (fu := fu) (fs9 := fs9) (fm9 := fm9) (fu9 := fu9) (size := size) (point := point) (begin_ := begin_) (fault := fault) (ops9 := ops9) (vs9 := vs9) (no9 := no9) (nv9 := nv9) (top := top) (terms := terms) (rules := rules) (iss := iss) (shn := shn) hn r1
  rcases hS with ⟨a1, a2, a3, a4, rfl, rfl, rfl, rfl, rfl, rfl, rfl, rfl, rfl, rfl, rfl⟩ | ⟨o, s, a1, a2, a3, a4, a5, a6, a7, a8, a9, a10, a11, a12, a13, a14⟩
  · obtain ⟨x9, r', xx', h', ga', gc', rt', rs', sw', rw', g, g1, g2, g3⟩ := fx_signature_c (xx := xx) (ga := ga) (gc := gc) (rt := rt) (rs := rs) (sw := sw) (rw0 := rw0) (nv0 := 0) (so0 := fun _ => 0) (ma0 := fun _ => 0) (un0 := fun _ => none) (nm0 := fun _ => []) hn c1 c2
    rcases g3 with ⟨b1, b2, b3, b4, b5, rfl, rfl, rfl, rfl, rfl⟩ | ⟨o', s', b1, _⟩
    · exact ⟨_, _, _, _, _, _, x9, r', _, _, _, _, _, _, _, _, _, _, _, _, _, _, _, _, _, _, _, xx', h', _, gc', _, _, _, _, ops, vs, Tm, R, sh, e, g, AG_t a2 b2 (by simp), ⟨TPE_nil, rfl, r3, r4, r5, r6, r7, r8, r9, r10, r11, r12⟩, ⟨g2, g1, c3, c4, c5, b5.trans c6, b4.trans a4.symm, c8, c9⟩⟩
    · rw [a1] at b1; cases b1
  · obtain ⟨x9, r', xx', h', ga', gc', rt', rs', sw', rw', g, g1, g2, g3⟩ := fx_signature_c (xx := xx) (ga := ga) (gc := gc) (rt := rt) (rs := rs) (sw := sw) (rw0 := rw0) (nv0 := s.length) (so0 := soF o) (ma0 := maF o) (un0 := unF o) (nm0 := nmF o s) hn c1 c2
    rcases g3 with ⟨b1, _⟩ | ⟨o', s', b1, b2, b3, b4, b5, b6, b7, b8, b9⟩
    · rw [a1] at b1; cases b1
    · rw [a1] at b1
      obtain ⟨rfl, rfl⟩ := Prod.mk.inj (Option.some.inj b1)
      exact ⟨_, _, _, _, _, _, x9, r', _, _, _, _, _, _, _, _, _, _, _, _, _, _, _, _, _, _, _, xx', h', ga', gc', rt', rs', sw', rw', o, s, [], [], none, e, g, AG_0 a2 b2 (a3.trans b3.symm), ⟨TPE_nil, rfl, a5, a9, a10, ⟨by decide, fun _ hx => absurd hx List.not_mem_nil, List.nodup_nil, fun i hi => absurd hi (Nat.not_lt_zero i)⟩, a11, ⟨⟨by decide, fun _ hx => absurd hx List.not_mem_nil, fun i hi => absurd hi (Nat.not_lt_zero i)⟩, fun _ hx => absurd hx List.not_mem_nil⟩, a12, ⟨a13, a14⟩, a7, a8⟩, ⟨g2, g1, b6, b7, b8, b5.trans ron_0.symm, b4.trans a4.symm, b9, c9⟩⟩
