/-! ===== signature, told ===== -/
/-- what signature does -/
def SGR (L : List Nat) (o : CR) (r th fault : Int32) (nm nmm fs fm fu nm0 nmm0 fs0 fm0 fu0 : Nat → Int32) (ops9 vs9 terms rules iss shn ops0 vs0 terms0 rules0 iss0 shn0 : Int32) : Prop :=
  (o.1 = none ∧ th = 1 ∧ r = 0 ∧ fault = nI o.2.2 ∧ nm = nm0 ∧ nmm = nmm0 ∧ fs = fs0 ∧ fm = fm0 ∧ fu = fu0 ∧ ops9 = ops0 ∧ vs9 = vs0 ∧ terms = terms0 ∧ rules = rules0 ∧ iss = iss0 ∧ shn = shn0) ∨
  (∃ (ops : List OpE) (vs : List (List Nat)), o.1 = some (ops, vs) ∧ th = 0 ∧ r = nI ops.length ∧ fault = -1 ∧ SIG nm nmm fs fm fu (soF ops) (maF ops) (unF ops) ops.length vs.length (nmF ops vs) ∧ OPS ops vs ∧ ops.length ≤ 10 ∧ vs.length ≤ 5 ∧ ops9 = nI ops.length ∧ vs9 = nI vs.length ∧ terms = 0 ∧ rules = 0 ∧ iss = 0 ∧ shn = 0)
theorem lx18_ok {n : Nat} {f nm nmm fs fm fu : Nat → Int32} {L : List Nat} {taped ops9 vs9 top terms rules iss shn : Int32} (hn : 100000 ≤ n) (h : TPE f L) : ∀ (d m p b : Nat) (ops : List OpE) (vs : List (List Nat)) (fn fnm fs9 fm9 fu9 : Nat → Int32), L.length < p + d → d ≤ m → p ≤ L.length → b = p → NWR ops vs fn fnm fs9 fm9 fu9 → OPS ops vs →
    ∃ (r th' taped' size' point' begin' fault' : Int32) (nm' fn' nmm' fnm' fs' fm' fu' fs9' fm9' fu9' : Nat → Int32) (ops9' vs9' no9' nv9' top' terms' rules' iss' shn' : Int32), lx_signature_18 n f m 0 taped (nI L.length) (nI p) (nI b) (-1) nm fn nmm fnm fs fm fu fs9 fm9 fu9 ops9 vs9 (nI ops.length) (nI vs.length) top terms rules iss shn = some (r, th', taped', size', point', begin', fault', nm', fn', nmm', fnm', fs', fm', fu', fs9', fm9', fu9', ops9', vs9', no9', nv9', top', terms', rules', iss', shn') ∧ taped' = taped ∧ SGR L (sgl L d ops vs p) r th' fault' nm' nmm' fs' fm' fu' nm nmm fs fm fu ops9' vs9' terms' rules' iss' shn' ops9 vs9 terms rules iss shn
  | 0, m, p, b, ops, vs, fn, fnm, fs9, fm9, fu9, hd, _, hp, _, _, _ => by omega
  | d + 1, 0, p, b, ops, vs, fn, fnm, fs9, fm9, fu9, _, hm, _, _, _, _ => by omega
  | d + 1, m + 1, p, b, ops, vs, fn, fnm, fs9, fm9, fu9, hd, hm, hp, hbp, hw, hO => by
    have h4 := h.1
    show ∃ _ _ _ _ _ _ _ _ _ _ _ _ _ _ _ _ _ _ _ _ _ _ _ _ _ _, bx_signature_18 n f (lx_signature_18 n f m) 0 taped (nI L.length) (nI p) (nI b) (-1) nm fn nmm fnm fs fm fu fs9 fm9 fu9 ops9 vs9 (nI ops.length) (nI vs.length) top terms rules iss shn = _ ∧ _ ∧ _
    have hsg : sgl L (d + 1) ops vs p = (if L.length ≤ p then (some (ops, vs), p, p) else match rcl L ops vs p with
      | (none, p1, b1) => (none, p1, b1)
      | (some (ops', vs'), p1, _) => sgl L d ops' vs' (bk L p1)) := rfl
    rw [hsg]
    unfold bx_signature_18
    by_cases q : L.length ≤ p
    · rw [if_pos q, if_pos (by rw [nI_le_iff (by omega) (by omega)]; exact q)]
      obtain ⟨nm', nmm', fs', fm', fu', z1, z2, z3, _, z5⟩ := lx66_ok (n := n) (f := f) (nm := nm) (fn := fn) (nmm := nmm) (fnm := fnm) (fs9 := fs9) (fm9 := fm9) (fu9 := fu9) (th := 0) (taped := taped) (size := nI L.length) (point := nI p) (begin_ := nI b) (fault := -1) (ops9 := nI ops.length) (vs9 := nI vs.length) (no9 := nI ops.length) (nv9 := nI vs.length) (top := top) (terms := terms) (rules := rules) (iss := iss) (shn := shn) hn 10 0 n fs fm fu (by decide) (by omega)
      have z1' : lx_signature_66 n f n 0 0 taped (nI L.length) (nI p) (nI b) (-1) nm fn nmm fnm fs fm fu fs9 fm9 fu9 (nI ops.length) (nI vs.length) (nI ops.length) (nI vs.length) top terms rules iss shn = _ := z1
      rw [z1']
      exact ⟨_, _, _, _, _, _, _, _, _, _, _, _, _, _, _, _, _, _, _, _, _, _, _, _, _, _, rfl, rfl, Or.inr ⟨ops, vs, rfl, rfl, rfl, rfl, SIG_of hw hO z2 z3 (fun i hi => z5 i (Nat.zero_le _) hi), hO, hw.1, hw.2.1, rfl, rfl, rfl, rfl, rfl, rfl⟩⟩
    · rw [if_neg q, if_neg (by rw [nI_le_iff (by omega) (by omega)]; exact q)]
      obtain ⟨r, fn', fnm', fs', fm', fu', no', nv', z1, z2, z3⟩ := fx_readsClause_ok (b0 := nI b) hn h hp hw hO
      rw [z1, xb10_s]
      generalize rcl L ops vs p = o at z2 z3 ⊢
      obtain ⟨o1, p1, b1⟩ := o
      dsimp only at z2 z3 ⊢
      rcases z3 with ⟨y1, y2⟩ | ⟨ops', vs', y1, y2, y3, y4, y5, y6, y7⟩
      · subst y1
        rw [y2, if_pos rfl]
        unfold fx_wrong
        rw [xb3_s]
        exact ⟨_, _, _, _, _, _, _, _, _, _, _, _, _, _, _, _, _, _, _, _, _, _, _, _, _, _, rfl, rfl, Or.inl ⟨rfl, rfl, rfl, rfl, rfl, rfl, rfl, rfl, rfl, rfl, rfl, rfl, rfl, rfl, rfl⟩⟩
      · subst y1
        have hb1 := bk_le (L := L) z2
        have hb2 := bk_ge (L := L) (p := p1)
        rw [y2, if_neg (by decide), fx_blanks_ok hn h z2, xb2_s, y3, y4]
        exact lx18_ok hn h d m (bk L p1) (bk L p1) ops' vs' fn' fnm' fs' fm' fu' (by omega) (by omega) hb1 rfl y5 y6
theorem fx_signature_ok {n : Nat} {f nm fn nmm fnm fs fm fu fs9 fm9 fu9 : Nat → Int32} {L : List Nat} {th size point begin_ fault ops9 vs9 no9 nv9 top terms rules iss shn : Int32} (hn : 100000 ≤ n) (h : TPE f L) :
    ∃ (r th' size' point' begin' fault' : Int32) (nm' fn' nmm' fnm' fs' fm' fu' fs9' fm9' fu9' : Nat → Int32) (ops9' vs9' no9' nv9' top' terms' rules' iss' shn' : Int32), fx_signature n th f (nI L.length) size point begin_ fault nm fn nmm fnm fs fm fu fs9 fm9 fu9 ops9 vs9 no9 nv9 top terms rules iss shn = some (r, th', 0, size', point', begin', fault', nm', fn', nmm', fnm', fs', fm', fu', fs9', fm9', fu9', ops9', vs9', no9', nv9', top', terms', rules', iss', shn') ∧ SGR L (SGN L) r th' fault' nm' nmm' fs' fm' fu' nm nmm fs fm fu ops9' vs9' terms' rules' iss' shn' ops9 vs9 terms rules iss shn := by
  have h4 := h.1
  have hb1 := bk_le (L := L) (p := 0) (Nat.zero_le _)
  have hw : NWR [] [] fn fnm fs9 fm9 fu9 := ⟨by decide, by decide, fun i hi => by
    rcases nmv_op.mp hi with g | g
    · exact absurd g (Nat.not_lt_zero _)
    · have : i < 10 + 0 := g.2
      omega, fun i hi => absurd hi (Nat.not_lt_zero _)⟩
  have hO : OPS [] [] := ⟨fun i hi => absurd hi (Nat.not_lt_zero _), fun i j hi _ _ => by
    rcases nmv_op.mp hi with g | g
    · exact absurd g (Nat.not_lt_zero _)
    · have : i < 10 + 0 := g.2
      omega, fun i hi => by
    rcases nmv_op.mp hi with g | g
    · exact absurd g (Nat.not_lt_zero _)
    · have : i < 10 + 0 := g.2
      omega⟩
  obtain ⟨r, th', taped', size', point', begin', fault', nm', fn', nmm', fnm', fs', fm', fu', fs9', fm9', fu9', ops9', vs9', no9', nv9', top', terms', rules', iss', shn', z1, z2, z3⟩ := lx18_ok (nm := nm) (nmm := nmm) (fs := fs) (fm := fm) (fu := fu) (taped := 0) (ops9 := ops9) (vs9 := vs9) (top := 0) (terms := terms) (rules := rules) (iss := iss) (shn := shn) hn h 401 n (bk L 0) (bk L 0) [] [] fn fnm fs9 fm9 fu9 (by omega) (by omega) hb1 rfl hw hO
  subst z2
  refine ⟨r, th', size', point', begin', fault', nm', fn', nmm', fnm', fs', fm', fu', fs9', fm9', fu9', ops9', vs9', no9', nv9', top', terms', rules', iss', shn', ?_, z3⟩
  have bl := fx_blanks_ok (n := n) (p := 0) (b := begin_) hn h (Nat.zero_le _)
  rw [show nI 0 = (0 : Int32) from rfl] at bl
  unfold fx_signature fx_begins
  rw [xb6_s, bl, xb2_s]
  exact z1
