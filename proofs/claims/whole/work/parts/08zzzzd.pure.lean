/-! ===== one relation: the other calls ===== -/
theorem sx_feed {n : Nat} {f nm nmm fs fm9 fu fk shr tx wb : Nat → Int32} {taped ops9 vs9 terms rules iss shn on fault th a b c d e : Int32} {xx h v ga rt rs sw rw0 : Nat → Nat → Int32} {w : Nat → Nat → Int64} (hn : 100000000 ≤ n) (hst : STR f nm nmm fs fm9 fu fk shr tx taped ops9 vs9 terms rules iss shn xx h v ga rt rs sw rw0 w on fault) :
    ∃ (r taped' : Int32) (f' wb' : Nat → Int32) (h' : Nat → Nat → Int32), fx_feed n th f taped wb a b c d e = some (r, 0, f', taped', wb') ∧ fx_X9_feed n h a b c d e = some (r, h') ∧ STR f' nm nmm fs fm9 fu fk shr tx taped' ops9 vs9 terms rules iss shn xx h' v ga rt rs sw rw0 w on fault := by
  have hn5 : 100000 ≤ n := by omega
  rcases hst with ⟨L, hr, hc⟩ | ⟨L, ops, vs, Tm, R, sh, hr, hc⟩
  · obtain ⟨r, t', f', wb', h', L', e1, e2, q1, q2⟩ := st0_feed (wb := wb) (th := th) (a := a) (b := b) (c := c) (d := d) (e := e) hn5 hr hc
    exact ⟨r, t', f', wb', h', e1, e2, Or.inl ⟨L', q1, q2⟩⟩
  · obtain ⟨r, t', f', wb', h', L', e1, e2, q1, q2⟩ := st_feed (wb := wb) (th := th) (a := a) (b := b) (c := c) (d := d) (e := e) hn5 hr hc
    exact ⟨r, t', f', wb', h', e1, e2, Or.inr ⟨L', ops, vs, Tm, R, sh, q1, q2⟩⟩
theorem sx_end {n : Nat} {f nm nmm fs fm9 fu fk shr tx : Nat → Int32} {taped ops9 vs9 terms rules iss shn on fault th x : Int32} {xx h v ga rt rs sw rw0 : Nat → Nat → Int32} {w : Nat → Nat → Int64} (hn : 100000000 ≤ n) (hst : STR f nm nmm fs fm9 fu fk shr tx taped ops9 vs9 terms rules iss shn xx h v ga rt rs sw rw0 w on fault) :
    ∃ (r taped' : Int32) (h' : Nat → Nat → Int32), fx_end n th taped x = some (r, 0, taped') ∧ fx_X9_end n h x = some (r, h') ∧ STR f nm nmm fs fm9 fu fk shr tx taped' ops9 vs9 terms rules iss shn xx h' v ga rt rs sw rw0 w on fault := by
  rcases hst with ⟨L, hr, hc⟩ | ⟨L, ops, vs, Tm, R, sh, hr, hc⟩
  · obtain ⟨r, t', h', L', e1, e2, q1, q2⟩ := st0_end (n := n) (th := th) (x := x) hr hc
    exact ⟨r, t', h', e1, e2, Or.inl ⟨L', q1, q2⟩⟩
  · obtain ⟨r, t', h', L', e1, e2, q1, q2⟩ := st_end (n := n) (th := th) (x := x) hr hc
    exact ⟨r, t', h', e1, e2, Or.inr ⟨L', ops, vs, Tm, R, sh, q1, q2⟩⟩
theorem sx_order {n : Nat} {f nm nmm fs fm9 fu fk shr tx fp : Nat → Int32} {taped ops9 vs9 terms rules iss shn on fault th top tm x y : Int32} {xx h v ga rt rs sw rw0 : Nat → Nat → Int32} {w : Nat → Nat → Int64} (hn : 100000000 ≤ n) (hst : STR f nm nmm fs fm9 fu fk shr tx taped ops9 vs9 terms rules iss shn xx h v ga rt rs sw rw0 w on fault) :
    ∃ (r th' x9 r2 : Int32) (fp' : Nat → Int32) (top' tm' : Int32), fx_order n th fp top fk terms tm x y = some (r, th', fp', top', tm') ∧ fx_X9_order n rt x y = some (x9, r2) ∧ AG [(1, 3)] th' x9 r r2 := by
  have hn5 : 100000 ≤ n := by omega
  rcases hst with ⟨L, hr, hc⟩ | ⟨L, ops, vs, Tm, R, sh, hr, hc⟩
  · obtain ⟨-, -, -, -, -, r6, rfl, -⟩ := hr
    exact st_order hn5 r6 hc.2.2.2.1
  · obtain ⟨-, -, -, -, -, r6, rfl, -⟩ := hr
    exact st_order hn5 r6 hc.2.2.2.1
theorem sx_rank {n : Nat} {f nm nmm fs fm9 fu fk shr tx fp : Nat → Int32} {taped ops9 vs9 terms rules iss shn on fault th top tm p : Int32} {xx h v ga rt rs sw rw0 : Nat → Nat → Int32} {w : Nat → Nat → Int64} (hn : 100000000 ≤ n) (hst : STR f nm nmm fs fm9 fu fk shr tx taped ops9 vs9 terms rules iss shn xx h v ga rt rs sw rw0 w on fault) :
    ∃ (r : Int32) (fp' : Nat → Int32) (top' tm' : Int32), fx_rank n th fp top fk terms tm p = some (r, 0, fp', top', tm') ∧ fx_X9_rank n rt p = some r := by
  have hn5 : 100000 ≤ n := by omega
  rcases hst with ⟨L, hr, hc⟩ | ⟨L, ops, vs, Tm, R, sh, hr, hc⟩
  · obtain ⟨-, -, -, -, -, r6, rfl, -⟩ := hr
    exact st_rank hn5 r6 hc.2.2.2.1
  · obtain ⟨-, -, -, -, -, r6, rfl, -⟩ := hr
    exact st_rank hn5 r6 hc.2.2.2.1
theorem sx_octet {n : Nat} {f nm nmm fs fm9 fu fk shr tx : Nat → Int32} {taped ops9 vs9 terms rules iss shn on fault th k : Int32} {xx h v ga rt rs sw rw0 : Nat → Nat → Int32} {w : Nat → Nat → Int64} (hn : 100000000 ≤ n) (hst : STR f nm nmm fs fm9 fu fk shr tx taped ops9 vs9 terms rules iss shn xx h v ga rt rs sw rw0 w on fault) :
    ∃ r : Int32, fx_octet n th tx shn k = some (r, 0) ∧ fx_X9_octet n sw k = some r := by
  rcases hst with ⟨L, hr, hc⟩ | ⟨L, ops, vs, Tm, R, sh, hr, hc⟩
  · obtain ⟨-, -, r3, -, -, -, -, -, -, r10, -, r12⟩ := hr
    obtain ⟨-, -, -, -, -, -, -, c8, -⟩ := hc
    exact st_octet r3.2.2.1 r12 r10 c8
  · obtain ⟨-, -, r3, -, -, -, -, -, -, r10, -, r12⟩ := hr
    obtain ⟨-, -, -, -, -, -, -, c8, -⟩ := hc
    exact st_octet r3.2.2.1 r12 r10 c8
theorem sx_turn {n : Nat} {f nm nmm fs fm9 fu fk shr tx : Nat → Int32} {taped ops9 vs9 terms rules iss shn on fault th x : Int32} {xx h v ga rt rs sw rw0 : Nat → Nat → Int32} {w : Nat → Nat → Int64} {bo : Bool} (hn : 100000000 ≤ n) (hst : STR f nm nmm fs fm9 fu fk shr tx taped ops9 vs9 terms rules iss shn xx h v ga rt rs sw rw0 w on fault) :
    ∃ (r th' on' x9 r2 : Int32) (xx' : Nat → Nat → Int32), fx_turn n th rules on x (ob bo) = some (r, th', on') ∧ fx_X9_turn n xx rs x (ob bo) = some (x9, r2, xx') ∧ AG [(1, 3)] th' x9 r r2 ∧ STR f nm nmm fs fm9 fu fk shr tx taped ops9 vs9 terms rules iss shn xx' h v ga rt rs sw rw0 w on' fault := by
  rcases hst with ⟨L, hr, hc⟩ | ⟨L, ops, vs, Tm, R, sh, hr, hc⟩
  · have hR : rules = 0 := hr.2.2.2.2.2.2.2.2.1
    obtain ⟨e, g⟩ := st0_turn (n := n) (xx := xx) (on := on) (th := th) (x := x) (bo := bo) hc.2.2.2.2.1
    rw [hR] at hr ⊢
    exact ⟨_, _, _, _, _, _, e, g, AG_t rfl rfl (by simp), Or.inl ⟨L, hr, hc⟩⟩
  · obtain ⟨r, th', on', x9, r2, xx', e, g, ag, q⟩ := st_turn (n := n) (th := th) (x := x) (bo := bo) hr hc
    exact ⟨r, th', on', x9, r2, xx', e, g, ag, Or.inr ⟨L, ops, vs, Tm, R, sh, hr, q⟩⟩
theorem sx_show {n : Nat} {f nm nmm fs fm9 fu fk shr tx fp : Nat → Int32} {taped ops9 vs9 terms rules iss shn on fault th top tm x : Int32} {xx h v ga rt rs sw rw0 : Nat → Nat → Int32} {w : Nat → Nat → Int64} (hn : 100000000 ≤ n) (hst : STR f nm nmm fs fm9 fu fk shr tx taped ops9 vs9 terms rules iss shn xx h v ga rt rs sw rw0 w on fault) :
    ∃ (r th' top' tm' iss' shn' x9 r2 : Int32) (fp' shr' tx' : Nat → Int32) (sw' rw' : Nat → Nat → Int32), fx_show n th nm nmm fp top fk terms tm shr tx iss shn x = some (r, th', fp', top', tm', shr', tx', iss', shn') ∧ fx_X9_show n rt sw ga rw0 x = some (x9, r2, sw', rw') ∧ AG [(1, 3)] th' x9 r r2 ∧ STR f nm nmm fs fm9 fu fk shr' tx' taped ops9 vs9 terms rules iss' shn' xx h v ga rt rs sw' rw' w on fault := by
  have hn5 : 100000 ≤ n := by omega
  rcases hst with ⟨L, hr, hc⟩ | ⟨L, ops, vs, Tm, R, sh, hr, hc⟩
  · obtain ⟨e, g⟩ := st0_show (fp := fp) (th := th) (top := top) (tm := tm) (x := x) hn5 hr hc
    exact ⟨_, _, _, _, _, _, _, _, _, _, _, _, _, e, g, AG_t rfl rfl (by simp), Or.inl ⟨L, hr, hc⟩⟩
  · obtain ⟨r, th', top', tm', iss', shn', x9, r2, fp', shr', tx', sw', rw', sh', e, g, ag, q1, q2⟩ := st_show (fp := fp) (th := th) (top := top) (tm := tm) (x := x) hn5 hr hc
    exact ⟨r, th', top', tm', iss', shn', x9, r2, fp', shr', tx', sw', rw', e, g, ag, Or.inr ⟨L, ops, vs, Tm, R, sh', q1, q2⟩⟩
theorem sx_side {n : Nat} {f nm nmm fs fm9 fu fk shr tx fp : Nat → Int32} {taped ops9 vs9 terms rules iss shn on fault th top x : Int32} {xx h v ga rt rs sw rw0 : Nat → Nat → Int32} {w : Nat → Nat → Int64} {right : Bool} (hn : 100000000 ≤ n) (hst : STR f nm nmm fs fm9 fu fk shr tx taped ops9 vs9 terms rules iss shn xx h v ga rt rs sw rw0 w on fault) :
    ∃ (r th' top' iss' shn' x9 r2 : Int32) (fp' shr' tx' : Nat → Int32) (sw' rw' : Nat → Nat → Int32), fx_side n th nm nmm fp top fk rules shr tx iss shn x (ob right) = some (r, th', fp', top', shr', tx', iss', shn') ∧ fx_X9_side n rs sw ga rw0 x (ob right) = some (x9, r2, sw', rw') ∧ AG [(1, 3)] th' x9 r r2 ∧ STR f nm nmm fs fm9 fu fk shr' tx' taped ops9 vs9 terms rules iss' shn' xx h v ga rt rs sw' rw' w on fault := by
  have hn5 : 100000 ≤ n := by omega
  rcases hst with ⟨L, hr, hc⟩ | ⟨L, ops, vs, Tm, R, sh, hr, hc⟩
  · obtain ⟨e, g⟩ := st0_side (fp := fp) (th := th) (top := top) (x := x) (right := right) hn5 hr hc
    exact ⟨_, _, _, _, _, _, _, _, _, _, _, _, e, g, AG_t rfl rfl (by simp), Or.inl ⟨L, hr, hc⟩⟩
  · obtain ⟨r, th', top', iss', shn', x9, r2, fp', shr', tx', sw', rw', sh', e, g, ag, q1, q2⟩ := st_side (fp := fp) (th := th) (top := top) (x := x) (right := right) hn5 hr hc
    exact ⟨r, th', top', iss', shn', x9, r2, fp', shr', tx', sw', rw', e, g, ag, Or.inr ⟨L, ops, vs, Tm, R, sh', q1, q2⟩⟩
theorem sx_signature {n : Nat} {f nm nmm fs fm9 fu fk shr tx fn fnm fs9 fm2 fu9 : Nat → Int32} {taped ops9 vs9 terms rules iss shn on fault th size point begin_ no9 nv9 top : Int32} {xx h v ga rt rs sw rw0 gc : Nat → Nat → Int32} {w : Nat → Nat → Int64} (hn : 100000000 ≤ n) (hst : STR f nm nmm fs fm9 fu fk shr tx taped ops9 vs9 terms rules iss shn xx h v ga rt rs sw rw0 w on fault) :
    ∃ (r th' size' point' begin' fault' x9 r' : Int32) (nm' fn' nmm' fnm' fs' fm' fu' fs9' fm9' fu9' : Nat → Int32) (ops9' vs9' no9' nv9' top' terms' rules' iss' shn' : Int32) (xx' h' ga' gc' rt' rs' sw' rw' : Nat → Nat → Int32),
      fx_signature n th f taped size point begin_ fault nm fn nmm fnm fs fm9 fu fs9 fm2 fu9 ops9 vs9 no9 nv9 top terms rules iss shn = some (r, th', 0, size', point', begin', fault', nm', fn', nmm', fnm', fs', fm', fu', fs9', fm9', fu9', ops9', vs9', no9', nv9', top', terms', rules', iss', shn') ∧ fx_X9_signature n xx h ga gc rt rs sw rw0 = some (x9, r', xx', h', ga', gc', rt', rs', sw', rw') ∧ AG [(1, 1)] th' x9 r r' ∧
      STR f nm' nmm' fs' fm' fu' fk shr tx 0 ops9' vs9' terms' rules' iss' shn' xx' h' v ga' rt' rs' sw' rw' w on fault' := by
  have hn5 : 100000 ≤ n := by omega
  rcases hst with ⟨L, hr, hc⟩ | ⟨L, ops, vs, Tm, R, sh, hr, hc⟩
  · obtain ⟨r, th', size', point', begin', fault', x9, r', nm', fn', nmm', fnm', fs', fm', fu', fs9', fm9', fu9', ops9', vs9', no9', nv9', top', terms', rules', iss', shn', xx', h', ga', gc', rt', rs', sw', rw', e, g, ag, q⟩ := st0_signature (on := on) (fn := fn) (fnm := fnm) (fs9 := fs9) (fm9 := fm2) (fu9 := fu9) (th := th) (size := size) (point := point) (begin_ := begin_) (no9 := no9) (nv9 := nv9) (top := top) (gc := gc) hn5 hr hc
    refine ⟨r, th', size', point', begin', fault', x9, r', nm', fn', nmm', fnm', fs', fm', fu', fs9', fm9', fu9', ops9', vs9', no9', nv9', top', terms', rules', iss', shn', xx', h', ga', gc', rt', rs', sw', rw', e, g, ag, ?_⟩
    rcases q with ⟨q1, q2⟩ | ⟨ops, vs, q1, q2⟩
    · exact Or.inl ⟨[], q1, q2⟩
    · exact Or.inr ⟨[], ops, vs, [], [], none, q1, q2⟩
  · obtain ⟨r, th', size', point', begin', fault', x9, r', nm', fn', nmm', fnm', fs', fm', fu', fs9', fm9', fu9', ops9', vs9', no9', nv9', top', terms', rules', iss', shn', xx', h', ga', gc', rt', rs', sw', rw', ops', vs', Tm', R', sh', e, g, ag, q1, q2⟩ := st_signature (fn := fn) (fnm := fnm) (fs9 := fs9) (fm9 := fm2) (fu9 := fu9) (th := th) (size := size) (point := point) (begin_ := begin_) (no9 := no9) (nv9 := nv9) (top := top) (gc := gc) hn5 hr hc
    exact ⟨r, th', size', point', begin', fault', x9, r', nm', fn', nmm', fnm', fs', fm', fu', fs9', fm9', fu9', ops9', vs9', no9', nv9', top', terms', rules', iss', shn', xx', h', ga', gc', rt', rs', sw', rw', e, g, ag, Or.inr ⟨[], ops', vs', Tm', R', sh', q1, q2⟩⟩
theorem sx_term {n : Nat} {f nm nmm fs fm9 fu fk shr tx fp fsp : Nat → Int32} {taped ops9 vs9 terms rules iss shn on fault th size point begin_ top : Int32} {xx h v ga rt rs sw rw0 rd rc : Nat → Nat → Int32} {w : Nat → Nat → Int64} (hn : 100000000 ≤ n) (hst : STR f nm nmm fs fm9 fu fk shr tx taped ops9 vs9 terms rules iss shn xx h v ga rt rs sw rw0 w on fault) :
    ∃ (r th' size' point' begin' fault' : Int32) (fp' : Nat → Int32) (top' : Int32) (fsp' fk' : Nat → Int32) (terms' : Int32) (x9 r2 : Int32) (xx' h' v' : Nat → Nat → Int32) (w' : Nat → Nat → Int64) (rd' rc' rt' : Nat → Nat → Int32), fx_term n th f taped size point begin_ fault nm nmm fs fm9 fu ops9 vs9 fp top fsp fk terms = some (r, th', 0, size', point', begin', fault', fp', top', fsp', fk', terms') ∧ fx_X9_term n xx h v w ga rd rc rt = some (x9, r2, xx', h', v', w', rd', rc', rt') ∧ AG [(1, 1), (2, 2)] th' x9 r r2 ∧
      STR f nm nmm fs fm9 fu fk' shr tx 0 ops9 vs9 terms' rules iss shn xx' h' v' ga rt' rs sw rw0 w' on fault' := by
  have hn5 : 100000 ≤ n := by omega
  rcases hst with ⟨L, hr, hc⟩ | ⟨L, ops, vs, Tm, R, sh, hr, hc⟩
  · obtain ⟨size', point', begin', fault', fp', top', fsp', fk', xx', h', v', rd', e, g, q1, q2⟩ := st0_term (fp := fp) (fsp := fsp) (th := th) (size := size) (point := point) (begin_ := begin_) (top := top) (rd := rd) (rc := rc) hn5 hr hc
    exact ⟨_, _, size', point', begin', fault', fp', top', fsp', fk', _, _, _, xx', h', v', _, rd', _, _, e, g, AG_t rfl rfl (by simp), Or.inl ⟨[], q1, q2⟩⟩
  · obtain ⟨r, th', size', point', begin', fault', fp', top', fsp', fk', terms', x9, r2, xx', h', v', w', rd', rc', rt', Tm', e, g, ag, q1, q2⟩ := st_term (fp := fp) (fsp := fsp) (th := th) (size := size) (point := point) (begin_ := begin_) (top := top) (rd := rd) (rc := rc) hn hr hc
    exact ⟨r, th', size', point', begin', fault', fp', top', fsp', fk', terms', x9, r2, xx', h', v', w', rd', rc', rt', e, g, ag, Or.inr ⟨[], ops, vs, Tm', R, sh, q1, q2⟩⟩
theorem sx_rule {n : Nat} {f nm nmm fs fm9 fu fk shr tx fp fsp : Nat → Int32} {taped ops9 vs9 terms rules iss shn on fault th size point begin_ top : Int32} {xx h v ga rt rs sw rw0 rd : Nat → Nat → Int32} {w : Nat → Nat → Int64} (hn : 100000000 ≤ n) (hst : STR f nm nmm fs fm9 fu fk shr tx taped ops9 vs9 terms rules iss shn xx h v ga rt rs sw rw0 w on fault) :
    ∃ (r th' size' point' begin' fault' : Int32) (fp' : Nat → Int32) (top' : Int32) (fsp' fk' : Nat → Int32) (rules' on' : Int32) (x9 r2 : Int32) (xx' h' v' : Nat → Nat → Int32) (w' : Nat → Nat → Int64) (rd' rs' : Nat → Nat → Int32), fx_rule n th f taped size point begin_ fault nm nmm fs fm9 fu ops9 vs9 fp top fsp fk rules on = some (r, th', 0, size', point', begin', fault', fp', top', fsp', fk', rules', on') ∧ fx_X9_rule n xx h v w ga rd rs = some (x9, r2, xx', h', v', w', rd', rs') ∧ AG [(1, 1), (2, 2)] th' x9 r r2 ∧
      STR f nm nmm fs fm9 fu fk' shr tx 0 ops9 vs9 terms rules' iss shn xx' h' v' ga rt rs' sw rw0 w' on' fault' := by
  have hn5 : 100000 ≤ n := by omega
  rcases hst with ⟨L, hr, hc⟩ | ⟨L, ops, vs, Tm, R, sh, hr, hc⟩
  · obtain ⟨size', point', begin', fault', fp', top', fsp', fk', xx', h', v', rd', e, g, q1, q2⟩ := st0_rule (on := on) (fp := fp) (fsp := fsp) (th := th) (size := size) (point := point) (begin_ := begin_) (top := top) (rd := rd) hn5 hr hc
    exact ⟨_, _, size', point', begin', fault', fp', top', fsp', fk', _, _, _, _, xx', h', v', _, rd', _, e, g, AG_t rfl rfl (by simp), Or.inl ⟨[], q1, q2⟩⟩
  · obtain ⟨r, th', size', point', begin', fault', fp', top', fsp', fk', rules', on', x9, r2, xx', h', v', w', rd', rs', R', e, g, ag, q1, q2⟩ := st_rule (fp := fp) (fsp := fsp) (th := th) (size := size) (point := point) (begin_ := begin_) (top := top) (rd := rd) hn hr hc
    exact ⟨r, th', size', point', begin', fault', fp', top', fsp', fk', rules', on', x9, r2, xx', h', v', w', rd', rs', e, g, ag, Or.inr ⟨[], ops, vs, Tm, R', sh, q1, q2⟩⟩
theorem sx_keep {n : Nat} {f nm nmm fs fm9 fu fk shr tx fp : Nat → Int32} {taped ops9 vs9 terms rules iss shn on fault th top : Int32} {xx h v ga rt rs sw rw0 : Nat → Nat → Int32} {w : Nat → Nat → Int64} (hn : 100000000 ≤ n) (hst : STR f nm nmm fs fm9 fu fk shr tx taped ops9 vs9 terms rules iss shn xx h v ga rt rs sw rw0 w on fault) :
    ∃ (r th' : Int32) (fp' : Nat → Int32) (top' : Int32) (fk' : Nat → Int32) (terms' : Int32) (x9 r2 : Int32) (rt' : Nat → Nat → Int32), fx_keep n th fp top fk terms shr iss = some (r, th', fp', top', fk', terms') ∧ fx_X9_keep n rt rw0 = some (x9, r2, rt') ∧ AG [(1, 2)] th' x9 r r2 ∧ STR f nm nmm fs fm9 fu fk' shr tx taped ops9 vs9 terms' rules iss shn xx h v ga rt' rs sw rw0 w on fault := by
  have hn5 : 100000 ≤ n := by omega
  rcases hst with ⟨L, hr, hc⟩ | ⟨L, ops, vs, Tm, R, sh, hr, hc⟩
  · obtain ⟨fp', top', e, g⟩ := st0_keep (fp := fp) (th := th) (top := top) hn5 hr hc
    exact ⟨_, _, fp', top', _, _, _, _, _, e, g, AG_t rfl rfl (by simp), Or.inl ⟨L, hr, hc⟩⟩
  · obtain ⟨r, th', fp', top', fk', terms', x9, r2, rt', Tm', e, g, ag, q1, q2⟩ := st_keep (fp := fp) (th := th) (top := top) hn hr hc
    exact ⟨r, th', fp', top', fk', terms', x9, r2, rt', e, g, ag, Or.inr ⟨L, ops, vs, Tm', R, sh, q1, q2⟩⟩
theorem sx_operator {n : Nat} {f nm nmm fs fm9 fu fk shr tx fp : Nat → Int32} {taped ops9 vs9 terms rules iss shn on fault th top tm x y : Int32} {xx h v ga rt rs sw rw0 : Nat → Nat → Int32} {w : Nat → Nat → Int64} (hn : 100000000 ≤ n) (hst : STR f nm nmm fs fm9 fu fk shr tx taped ops9 vs9 terms rules iss shn xx h v ga rt rs sw rw0 w on fault) :
    ∃ (r th' : Int32) (fp' : Nat → Int32) (top' tm' x9 r2 : Int32), fx_operator n th fs fm9 fu ops9 fp top fk terms tm x y = some (r, th', fp', top', tm') ∧ fx_X9_operator n ga rt x y = some (x9, r2) ∧ AG [(1, 3), (2, 4)] th' x9 r r2 := by
  have hn5 : 100000 ≤ n := by omega
  rcases hst with ⟨L, hr, hc⟩ | ⟨L, ops, vs, Tm, R, sh, hr, hc⟩
  · exact st0_operator hn5 hr hc
  · exact st_operator hn hr hc
theorem sx_about {n : Nat} {f nm nmm fs fm9 fu fk shr tx fp : Nat → Int32} {taped ops9 vs9 terms rules iss shn on fault th top tm x y : Int32} {xx h v ga rt rs sw rw0 : Nat → Nat → Int32} {w : Nat → Nat → Int64} (hn : 100000000 ≤ n) (hst : STR f nm nmm fs fm9 fu fk shr tx taped ops9 vs9 terms rules iss shn xx h v ga rt rs sw rw0 w on fault) :
    ∃ (r th' : Int32) (fp' : Nat → Int32) (top' tm' x9 r2 : Int32) (rt' : Nat → Nat → Int32), fx_about n th fs fu ops9 fp top fk terms rules on tm x y = some (r, th', fp', top', tm') ∧ fx_X9_about n xx rt rs ga x y = some (x9, r2, rt') ∧ AG [(1, 3), (2, 4)] th' x9 r r2 ∧ STR f nm nmm fs fm9 fu fk shr tx taped ops9 vs9 terms rules iss shn xx h v ga rt' rs sw rw0 w on fault := by
  rcases hst with ⟨L, hr, hc⟩ | ⟨L, ops, vs, Tm, R, sh, hr, hc⟩
  · obtain ⟨r, th', fp', top', tm', e, g, ag, q⟩ := st0_about (on := on) (fp := fp) (th := th) (top := top) (tm := tm) (x := x) (y := y) hn hr hc
    exact ⟨r, th', fp', top', tm', _, _, _, e, g, ag, Or.inl ⟨L, q, hc⟩⟩
  · obtain ⟨r, th', fp', top', tm', x9, r2, rt', e, g, ag, q⟩ := st_about (fp := fp) (th := th) (top := top) (tm := tm) (x := x) (y := y) hn hr hc
    exact ⟨r, th', fp', top', tm', x9, r2, rt', e, g, ag, Or.inr ⟨L, ops, vs, Tm, R, sh, hr, q⟩⟩
theorem sx_count {n : Nat} {f nm nmm fs fm9 fu fk shr tx : Nat → Int32} {taped ops9 vs9 terms rules iss shn on fault th x : Int32} {xx h v ga rt rs sw rw0 sp rf u : Nat → Nat → Int32} {w : Nat → Nat → Int64} (s : WS) (hn : 100000000 ≤ n) (hmv : MVP) (hst : STR f nm nmm fs fm9 fu fk shr tx taped ops9 vs9 terms rules iss shn xx h v ga rt rs sw rw0 w on fault) :
    ∃ (r : Int32) (s' : WS) (sp' rf' u' v' : Nat → Nat → Int32) (w' : Nat → Nat → Int64), fx_count n th fs fu ops9 vs9 s.fp s.top s.fsp fk terms rules on s.fgp s.fgt s.fb s.fw s.wt s.fm s.pv s.ff s.tm s.fpl s.fru s.fr s.M shn x = some (r, 0, s'.fp, s'.top, s'.fsp, s'.fgp, s'.fgt, s'.fb, s'.fw, s'.wt, s'.fm, s'.pv, s'.ff, s'.tm, s'.fpl, s'.fru, s'.fr, s'.M) ∧ fx_X9_count n xx rt rs sw sp rf u v w ga x = some (r, sp', rf', u', v', w') ∧ STR f nm nmm fs fm9 fu fk shr tx taped ops9 vs9 terms rules iss shn xx h v' ga rt rs sw rw0 w' on fault := by
  have hn5 : 100000 ≤ n := by omega
  rcases hst with ⟨L, hr, hc⟩ | ⟨L, ops, vs, Tm, R, sh, hr, hc⟩
  · obtain ⟨r, s', sp', v', e, g, q⟩ := st0_count (on := on) (th := th) (x := x) (sp := sp) (rf := rf) (u := u) s hn5 hr hc
    exact ⟨r, s', sp', _, _, v', _, e, g, Or.inl ⟨L, hr, q⟩⟩
  · obtain ⟨r, s', sp', rf', u', v', w', e, g, q⟩ := st_count (th := th) (x := x) (sp := sp) (rf := rf) (u := u) s hn (hmv _ _ _ hc.2.2.1) hr hc
    exact ⟨r, s', sp', rf', u', v', w', e, g, Or.inr ⟨L, ops, vs, Tm, R, sh, hr, q⟩⟩
theorem sx_meet {n : Nat} {f nm nmm fs fm9 fu fk shr tx fre frm frd : Nat → Int32} {taped ops9 vs9 terms rules iss shn on fault th x y z : Int32} {xx h v ga rt rs sw rw0 se re sf rg sp rf u : Nat → Nat → Int32} {w : Nat → Nat → Int64} {ns ng : Int64} (s : WS) (hn : 100000000 ≤ n) (hmv : MVP) (hst : STR f nm nmm fs fm9 fu fk shr tx taped ops9 vs9 terms rules iss shn xx h v ga rt rs sw rw0 w on fault) :
    ∃ (r th' : Int32) (s' : WS) (fre' frm' frd' : Nat → Int32) (x9 r2 : Int32) (se' re' sf' rg' sp' rf' u' v' : Nat → Nat → Int32) (ns' ng' : Int64) (w' : Nat → Nat → Int64), fx_meet n th fs fu s.fp s.top s.fsp fk terms rules on s.fgp s.fgt s.fb s.fw s.wt s.fm s.pv s.ff s.tm s.fpl s.fru s.fr s.M fre frm frd x y z = some (r, th', s'.fp, s'.top, s'.fsp, s'.fgp, s'.fgt, s'.fb, s'.fw, s'.wt, s'.fm, s'.pv, s'.ff, s'.tm, s'.fpl, s'.fru, s'.fr, s'.M, fre', frm', frd') ∧ fx_X9_meet n xx rt rs se ns re sf ng rg sp rf u v w ga x y z = some (x9, r2, se', ns', re', sf', ng', rg', sp', rf', u', v', w') ∧ AG [(1, 3), (2, 1), (3, 2)] th' x9 r r2 ∧ STR f nm nmm fs fm9 fu fk shr tx taped ops9 vs9 terms rules iss shn xx h v' ga rt rs sw rw0 w' on fault := by
  rcases hst with ⟨L, hr, hc⟩ | ⟨L, ops, vs, Tm, R, sh, hr, hc⟩
  · obtain ⟨r, th', s', fre', frm', frd', e, g, ag, q⟩ := st0_meet (on := on) (fre := fre) (frm := frm) (frd := frd) (th := th) (x := x) (y := y) (z := z) (se := se) (re := re) (sf := sf) (rg := rg) (sp := sp) (rf := rf) (u := u) (ns := ns) (ng := ng) s hn hr hc
    exact ⟨r, th', s', fre', frm', frd', _, _, _, _, _, _, _, _, _, _, _, _, _, e, g, ag, Or.inl ⟨L, q, hc⟩⟩
  · obtain ⟨r, th', s', fre', frm', frd', x9, r2, se', re', sf', rg', sp', rf', u', v', ns', ng', w', e, g, ag, q⟩ := st_meet (fre := fre) (frm := frm) (frd := frd) (th := th) (x := x) (y := y) (z := z) (se := se) (re := re) (sf := sf) (rg := rg) (sp := sp) (rf := rf) (u := u) (ns := ns) (ng := ng) s hn (hmv _ _ _ hc.2.2.1) hr hc
    exact ⟨r, th', s', fre', frm', frd', x9, r2, se', re', sf', rg', sp', rf', u', v', ns', ng', w', e, g, ag, Or.inr ⟨L, ops, vs, Tm, R, sh, hr, q⟩⟩
