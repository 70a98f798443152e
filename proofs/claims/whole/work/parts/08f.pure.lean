/-! ===== signature ===== -/
theorem lx142_ok {n : Nat} {f fn nmm fnm fs fm fu fs9 fm9 fu9 : Nat → Int32} {th taped size point begin_ fault ops9 vs9 no9 nv9 top terms rules iss shn : Int32} : ∀ (d k m : Nat) (nm : Nat → Int32), k + d = 90 → d < m →
    ∃ nm' : Nat → Int32, lx_signature_142 n f m (nI k) th taped size point begin_ fault nm fn nmm fnm fs fm fu fs9 fm9 fu9 ops9 vs9 no9 nv9 top terms rules iss shn = some (ops9, th, taped, size, point, begin_, fault, nm', fn, nmm, fnm, fs, fm, fu, fs9, fm9, fu9, ops9, vs9, no9, nv9, top, 0, 0, 0, 0) ∧ (∀ i : Nat, i < k → nm' i = nm i) ∧ ∀ i : Nat, k ≤ i → i < 90 → nm' i = vp_nar .byte (fn i)
  | 0, k, m + 1, nm, hk, _ => by
    refine ⟨nm, ?_, fun i _ => rfl, fun i h1 h2 => by omega⟩
    show bx_signature_142 n f (lx_signature_142 n f m) (nI k) th taped size point begin_ fault nm fn nmm fnm fs fm fu fs9 fm9 fu9 ops9 vs9 no9 nv9 top terms rules iss shn = _
    unfold bx_signature_142
    rw [show (90 : Int32) = nI 90 from rfl, if_pos (by rw [nI_le_iff (by decide) (by omega)]; omega)]
  | d + 1, k, m + 1, nm, hk, hm => by
    obtain ⟨nm', h1, h2, h3⟩ := lx142_ok (n := n) (f := f) (fn := fn) d (k + 1) m (upd nm k (vp_nar .byte (fn k))) (by omega) (by omega)
    refine ⟨nm', ?_, fun i hi => (h2 i (by omega)).trans (upd_ne (by omega)), fun i a b => ?_⟩
    · rw [← h1]
      show bx_signature_142 n f (lx_signature_142 n f m) (nI k) th taped size point begin_ fault nm fn nmm fnm fs fm fu fs9 fm9 fu9 ops9 vs9 no9 nv9 top terms rules iss shn = _
      unfold bx_signature_142
      rw [show (90 : Int32) = nI 90 from rfl, if_neg (by rw [nI_le_iff (by decide) (by omega)]; omega), xr_n (by omega) (by decide), xw_n (by omega) (by decide), xl_eq, nI_1]
    · by_cases e : i = k
      · rw [e, h2 k (by omega), upd_eq]
      · exact h3 i (by omega) b
theorem lx116_ok {n : Nat} {f nm fn fnm fs fm fu fs9 fm9 fu9 : Nat → Int32} {th taped size point begin_ fault ops9 vs9 no9 nv9 top terms rules iss shn : Int32} (hn : 100000 ≤ n) : ∀ (d k m : Nat) (nmm : Nat → Int32), k + d = 15 → d < m →
    ∃ nm' nmm' : Nat → Int32, lx_signature_116 n f m (nI k) th taped size point begin_ fault nm fn nmm fnm fs fm fu fs9 fm9 fu9 ops9 vs9 no9 nv9 top terms rules iss shn = some (ops9, th, taped, size, point, begin_, fault, nm', fn, nmm', fnm, fs, fm, fu, fs9, fm9, fu9, ops9, vs9, no9, nv9, top, 0, 0, 0, 0) ∧ (∀ i : Nat, i < 90 → nm' i = vp_nar .byte (fn i)) ∧ (∀ i : Nat, i < k → nmm' i = nmm i) ∧ ∀ i : Nat, k ≤ i → i < 15 → nmm' i = fnm i
  | 0, k, m + 1, nmm, hk, _ => by
    obtain ⟨nm', h1, _, h3⟩ := lx142_ok (n := n) (f := f) (fn := fn) (nmm := nmm) (fnm := fnm) (fs := fs) (fm := fm) (fu := fu) (fs9 := fs9) (fm9 := fm9) (fu9 := fu9) (th := th) (taped := taped) (size := size) (point := point) (begin_ := begin_) (fault := fault) (ops9 := ops9) (vs9 := vs9) (no9 := no9) (nv9 := nv9) (top := top) (terms := terms) (rules := rules) (iss := iss) (shn := shn) 90 0 n nm (by decide) (by omega)
    refine ⟨nm', nmm, ?_, fun i hi => h3 i (Nat.zero_le _) hi, fun i _ => rfl, fun i h1 h2 => by omega⟩
    rw [← h1]
    show bx_signature_116 n f (lx_signature_116 n f m) (nI k) th taped size point begin_ fault nm fn nmm fnm fs fm fu fs9 fm9 fu9 ops9 vs9 no9 nv9 top terms rules iss shn = _
    unfold bx_signature_116
    rw [show (15 : Int32) = nI 15 from rfl, if_pos (by rw [nI_le_iff (by decide) (by omega)]; omega)]; rfl
  | d + 1, k, m + 1, nmm, hk, hm => by
    obtain ⟨nm', nmm', h1, h2, h3, h4⟩ := lx116_ok (f := f) (nm := nm) (fn := fn) (fnm := fnm) (fs := fs) (fm := fm) (fu := fu) (fs9 := fs9) (fm9 := fm9) (fu9 := fu9) (th := th) (taped := taped) (size := size) (point := point) (begin_ := begin_) (fault := fault) (ops9 := ops9) (vs9 := vs9) (no9 := no9) (nv9 := nv9) (top := top) (terms := terms) (rules := rules) (iss := iss) (shn := shn) hn d (k + 1) m (upd nmm k (fnm k)) (by omega) (by omega)
    refine ⟨nm', nmm', ?_, h2, fun i hi => (h3 i (by omega)).trans (upd_ne (by omega)), fun i a b => ?_⟩
    · rw [← h1]
      show bx_signature_116 n f (lx_signature_116 n f m) (nI k) th taped size point begin_ fault nm fn nmm fnm fs fm fu fs9 fm9 fu9 ops9 vs9 no9 nv9 top terms rules iss shn = _
      unfold bx_signature_116
      rw [show (15 : Int32) = nI 15 from rfl, if_neg (by rw [nI_le_iff (by decide) (by omega)]; omega), xr_n (by omega) (by decide), xw_n (by omega) (by decide), xl_eq, nI_1]
    · by_cases e : i = k
      · rw [e, h3 k (by omega), upd_eq]
      · exact h4 i (by omega) b
theorem lx66_ok {n : Nat} {f nm fn nmm fnm fs9 fm9 fu9 : Nat → Int32} {th taped size point begin_ fault ops9 vs9 no9 nv9 top terms rules iss shn : Int32} (hn : 100000 ≤ n) : ∀ (d k m : Nat) (fs fm fu : Nat → Int32), k + d = 10 → d < m →
    ∃ nm' nmm' fs' fm' fu' : Nat → Int32, lx_signature_66 n f m (nI k) th taped size point begin_ fault nm fn nmm fnm fs fm fu fs9 fm9 fu9 ops9 vs9 no9 nv9 top terms rules iss shn = some (ops9, th, taped, size, point, begin_, fault, nm', fn, nmm', fnm, fs', fm', fu', fs9, fm9, fu9, ops9, vs9, no9, nv9, top, 0, 0, 0, 0) ∧ (∀ i : Nat, i < 90 → nm' i = vp_nar .byte (fn i)) ∧ (∀ i : Nat, i < 15 → nmm' i = fnm i) ∧ (∀ i : Nat, i < k → fs' i = fs i ∧ fm' i = fm i ∧ fu' i = fu i) ∧ ∀ i : Nat, k ≤ i → i < 10 → fs' i = fs9 i ∧ fm' i = fm9 i ∧ fu' i = fu9 i
  | 0, k, m + 1, fs, fm, fu, hk, _ => by
    obtain ⟨nm', nmm', h1, h2, _, h4⟩ := lx116_ok (n := n) (fs := fs) (fm := fm) (fu := fu) (f := f) (nm := nm) (fn := fn) (fnm := fnm) (fs9 := fs9) (fm9 := fm9) (fu9 := fu9) (th := th) (taped := taped) (size := size) (point := point) (begin_ := begin_) (fault := fault) (ops9 := ops9) (vs9 := vs9) (no9 := no9) (nv9 := nv9) (top := top) (terms := terms) (rules := rules) (iss := iss) (shn := shn) hn 15 0 n nmm (by decide) (by omega)
    refine ⟨nm', nmm', fs, fm, fu, ?_, h2, fun i hi => h4 i (Nat.zero_le _) hi, fun i _ => ⟨rfl, rfl, rfl⟩, fun i h1 h2 => by omega⟩
    rw [← h1]
    show bx_signature_66 n f (lx_signature_66 n f m) (nI k) th taped size point begin_ fault nm fn nmm fnm fs fm fu fs9 fm9 fu9 ops9 vs9 no9 nv9 top terms rules iss shn = _
    unfold bx_signature_66
    rw [show (10 : Int32) = nI 10 from rfl, if_pos (by rw [nI_le_iff (by decide) (by omega)]; omega)]; rfl
  | d + 1, k, m + 1, fs, fm, fu, hk, hm => by
    obtain ⟨nm', nmm', fs', fm', fu', h1, h2, h3, h4, h5⟩ := lx66_ok (nmm := nmm) (f := f) (nm := nm) (fn := fn) (fnm := fnm) (fs9 := fs9) (fm9 := fm9) (fu9 := fu9) (th := th) (taped := taped) (size := size) (point := point) (begin_ := begin_) (fault := fault) (ops9 := ops9) (vs9 := vs9) (no9 := no9) (nv9 := nv9) (top := top) (terms := terms) (rules := rules) (iss := iss) (shn := shn) hn d (k + 1) m (upd fs k (fs9 k)) (upd fm k (fm9 k)) (upd fu k (fu9 k)) (by omega) (by omega)
    refine ⟨nm', nmm', fs', fm', fu', ?_, h2, h3, fun i hi => ?_, fun i a b => ?_⟩
    · rw [← h1]
      show bx_signature_66 n f (lx_signature_66 n f m) (nI k) th taped size point begin_ fault nm fn nmm fnm fs fm fu fs9 fm9 fu9 ops9 vs9 no9 nv9 top terms rules iss shn = _
      unfold bx_signature_66
      rw [show (10 : Int32) = nI 10 from rfl, if_neg (by rw [nI_le_iff (by decide) (by omega)]; omega), xr_n (by omega) (by decide), xw_n (by omega) (by decide), xr_n (by omega) (by decide), xw_n (by omega) (by decide), xr_n (by omega) (by decide), xw_n (by omega) (by decide), xl_eq, nI_1]
    · obtain ⟨a1, a2, a3⟩ := h4 i (by omega)
      exact ⟨a1.trans (upd_ne (by omega)), a2.trans (upd_ne (by omega)), a3.trans (upd_ne (by omega))⟩
    · by_cases e : i = k
      · obtain ⟨a1, a2, a3⟩ := h4 k (by omega)
        rw [e, a1, a2, a3, upd_eq, upd_eq, upd_eq]
        exact ⟨rfl, rfl, rfl⟩
      · exact h5 i (by omega) b
/-- a signature, clause by clause -/
def sgl (L : List Nat) : Nat → List OpE → List (List Nat) → Nat → CR
  | 0, _, _, p => (none, p, p)
  | d + 1, ops, vs, p => if L.length ≤ p then (some (ops, vs), p, p) else match rcl L ops vs p with
    | (none, p1, b1) => (none, p1, b1)
    | (some (ops', vs'), p1, _) => sgl L d ops' vs' (bk L p1)
def SGN (L : List Nat) : CR := sgl L 401 [] [] (bk L 0)
def soF (ops : List OpE) (o : Nat) : Nat := if o < ops.length then (opN ops o).2.1 else 3
def maF (ops : List OpE) (o : Nat) : Nat := if o < ops.length then (opN ops o).2.2.1 else 0
def unF (ops : List OpE) (o : Nat) : Option Nat := if o < ops.length then (opN ops o).2.2.2 else none
theorem soF_lt {ops : List OpE} {o : Nat} (h : o < ops.length) : soF ops o = (opN ops o).2.1 := by unfold soF; rw [if_pos h]
theorem soF_ge {ops : List OpE} {o : Nat} (h : ¬ o < ops.length) : soF ops o = 3 := by unfold soF; rw [if_neg h]
theorem SIG_of {ops : List OpE} {vs : List (List Nat)} {fn fnm fs9 fm9 fu9 nm nmm fs fm fu : Nat → Int32} (h : NWR ops vs fn fnm fs9 fm9 fu9) (hO : OPS ops vs) (h1 : ∀ i : Nat, i < 90 → nm i = vp_nar .byte (fn i)) (h2 : ∀ i : Nat, i < 15 → nmm i = fnm i) (h3 : ∀ i : Nat, i < 10 → fs i = fs9 i ∧ fm i = fm9 i ∧ fu i = fu9 i) : SIG nm nmm fs fm fu (soF ops) (maF ops) (unF ops) ops.length vs.length (nmF ops vs) := by
  have h10 := h.1
  have h5 := h.2.1
  have lt : ∀ o : Nat, soF ops o ≠ 3 → o < ops.length := fun o q => by
    by_cases z : o < ops.length
    · exact z
    · exact absurd (soF_ge z) q
  have nmk : ∀ i : Nat, nmv ops.length vs.length i = true → nmm i = nI (nmF ops vs i).length ∧ la nm (6 * i) (nmF ops vs i) ∧ (nmF ops vs i).length ≤ 6 ∧ ∀ c ∈ nmF ops vs i, 97 ≤ c ∧ c ≤ 122 := fun i hi => by
    obtain ⟨y1, y2, y3, y4⟩ := h.2.2.1 i hi
    have h15 := nmv_lt hi h10 h5
    refine ⟨(h2 i h15).trans y1, ?_, y3, y4⟩
    have key : ∀ (l : List Nat) (a : Nat), la fn a l → a + l.length ≤ 90 → (∀ c ∈ l, 97 ≤ c ∧ c ≤ 122) → la nm a l := by
      intro l
      induction l with
      | nil => intro a _ _ _; trivial
      | cons c l ih =>
        intro a hl ha hc
        simp only [List.length_cons] at ha
        have c1 := hc c (List.mem_cons_self ..)
        refine ⟨?_, ih (a + 1) hl.2 (by omega) (fun d hd => hc d (List.mem_cons_of_mem _ hd))⟩
        rw [h1 a (by omega), hl.1, nar_nI (by omega)]
    exact key _ _ y2 (by omega) y4
  refine ⟨fun o ho => ?_, ⟨h5, fun o ho => ?_, fun o ho => ?_, fun o u hu => ?_⟩, fun i hi => ?_, ⟨h10, fun q hq => ?_⟩, fun q hq => ?_⟩
  · have ol := lt o ho.2
    obtain ⟨y1, y2, y3⟩ := h.2.2.2 o ol
    obtain ⟨z1, z2, z3⟩ := h3 o ho.1
    obtain ⟨o1, o2, o3, o4⟩ := hO.1 o ol
    rw [soF_lt ol]
    refine ⟨z1.trans y1, o1, fun hu => ?_, fun u hu => ?_⟩
    · unfold unF at hu; rw [if_pos ol] at hu
      rw [z3, y3, hu]; rfl
    · unfold unF at hu; rw [if_pos ol] at hu
      rw [z3, y3, hu]
      have s2 : (opN ops o).2.1 = 2 := by
        have h9 : (opN ops o).2.1 = 0 ∨ (opN ops o).2.1 = 1 ∨ (opN ops o).2.1 = 2 := by omega
        rcases h9 with g | g | g
        · have := (o2 g).2; rw [hu] at this; exact absurd this (by simp)
        · have := (o3 g).2; rw [hu] at this; exact absurd this (by simp)
        · exact g
      exact ⟨rfl, by have := ((o4 s2).2 u hu).1; omega⟩
  · have ol := lt o (by rw [ho]; decide)
    unfold maF; rw [if_pos ol]
    rw [soF_lt ol] at ho
    exact ((hO.1 o ol).2.2.1 ho).1
  · have ol := lt o (by rw [ho]; decide)
    unfold maF; rw [if_pos ol]
    rw [soF_lt ol] at ho
    exact ((hO.1 o ol).2.1 ho).1
  · have ol : o < ops.length := by
      by_cases z : o < ops.length
      · exact z
      · unfold unF at hu; rw [if_neg z] at hu; exact absurd hu (by simp)
    unfold unF at hu; rw [if_pos ol] at hu
    obtain ⟨o1, o2, o3, o4⟩ := hO.1 o ol
    have s2 : (opN ops o).2.1 = 2 := by
      have h9 : (opN ops o).2.1 = 0 ∨ (opN ops o).2.1 = 1 ∨ (opN ops o).2.1 = 2 := by omega
      rcases h9 with g | g | g
      · have := (o2 g).2; rw [hu] at this; exact absurd this (by simp)
      · have := (o3 g).2; rw [hu] at this; exact absurd this (by simp)
      · exact g
    obtain ⟨k1, k2, k3⟩ := (o4 s2).2 u hu
    refine ⟨by rw [soF_lt ol]; exact s2, by omega, by rw [soF_lt k1]; exact k2, ?_⟩
    unfold maF; rw [if_pos k1]; exact k3
  · refine nmk i (nmv_op.mpr ?_)
    rcases hi with g | g
    · exact Or.inl (lt i g.2)
    · exact Or.inr g
  · rw [soF_lt hq]
    have := (hO.1 q hq).1
    omega
  · obtain ⟨y1, y2, y3⟩ := h.2.2.2 q hq
    obtain ⟨z1, z2, z3⟩ := h3 q (by omega)
    refine ⟨?_, fun g => ?_⟩
    · unfold maF; rw [if_pos hq]; exact z2.trans y2
    · rw [soF_lt hq] at g
      unfold maF; rw [if_pos hq]
      exact ((hO.1 q hq).2.2.2 g).1
