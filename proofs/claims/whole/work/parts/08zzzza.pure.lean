/-! ===== before a signature is told: no text is a term, or a rule ===== -/
theorem nmv_nil {i : Nat} : nmv 0 0 i = false := by
  unfold nmv
  simp
theorem naw_nil {nmL : Nat → List Nat} {L : List Nat} {b e : Nat} : naw nmL 0 0 L b e = none := by
  cases h : naw nmL 0 0 L b e with
  | none => rfl
  | some i =>
    have := (nam_v (show nam nmL 0 0 (sli L b e) 15 0 = some i from h)).1
    rw [nmv_nil] at this
    exact nomatch this
theorem ptm_nil {so ma : Nat → Nat} {un : Nat → Option Nat} {nmL : Nat → List Nat} {L : List Nat} {d p : Nat} : (ptm so ma un nmL 0 0 L (d + 1) p).1 = none ∧ (ptm so ma un nmL 0 0 L (d + 1) p).2.2 = bk L p := by
  have e : ptm so ma un nmL 0 0 L (d + 1) p = (none, wd L (bk L p), bk L p) := by
    unfold ptm
    rw [naw_nil]
    split
    · rfl
    · rfl
  rw [e]
  exact ⟨rfl, rfl⟩
theorem find_v0 {n : Nat} {ga : Nat → Nat → Int32} {x : Int32} (hn : 1 ≤ n) (h : ga 0 1 = nI 0) : fx_X5_findVariable n ga x = some (-1) := by
  obtain ⟨m, rfl⟩ : ∃ y, n = y + 1 := ⟨n - 1, by omega⟩
  show bx_X5_findVariable_2 (m + 1) ga x (lx_X5_findVariable_2 (m + 1) ga x m) 0 = some (-1)
  unfold bx_X5_findVariable_2
  rw [h, if_pos (show nI 0 ≤ (0 : Int32) by decide)]
theorem find_o0 {n : Nat} {ga : Nat → Nat → Int32} {x : Int32} (hn : 1 ≤ n) (h : ga 0 0 = nI 0) : fx_X5_findOperator n ga x = some (-1) := by
  obtain ⟨m, rfl⟩ : ∃ y, n = y + 1 := ⟨n - 1, by omega⟩
  show bx_X5_findOperator_2 (m + 1) ga x (lx_X5_findOperator_2 (m + 1) ga x m) 0 = some (-1)
  unfold bx_X5_findOperator_2
  rw [h, if_pos (show nI 0 ≤ (0 : Int32) by decide)]
theorem read_0 {n : Nat} {rd h ga v : Nat → Nat → Int32} {w : Nat → Nat → Int64} (hn : 1 ≤ n) (h0 : ga 0 0 = nI 0) (h1 : ga 0 1 = nI 0) : ∃ rd' : Nat → Nat → Int32, fx_X1_read n rd h ga v w = some (-2, rd', h, v, w) := by
  refine ⟨mu (mu rd 0 0 0) 0 1 0, ?_⟩
  unfold fx_X1_read
  rw [xl_eq, xl_eq]
  generalize mu (mu rd 0 0 0) 0 1 0 = rd'
  have head : fx_X1_readHead n rd' h ga v w = some (0, rd', h, v, w) := by
    unfold fx_X1_readHead
    by_cases z : h 0 3 = (1 : Int32)
    · rw [if_pos z, find_v0 hn h1, xb1_s, find_o0 hn h0, xb1_s, if_neg (by decide), if_neg (by decide)]
    · rw [if_neg z]
  obtain ⟨m, rfl⟩ : ∃ y, n = y + 1 := ⟨n - 1, by omega⟩
  show bx_X1_read_12 (m + 1) ga (lx_X1_read_12 (m + 1) ga m) 0 rd' h v w = _
  unfold bx_X1_read_12
  rw [if_neg (show ¬ (400 : Int32) ≤ 0 by decide), head, xb5_s, if_pos rfl]
theorem check_0 {n : Nat} {xx h : Nat → Nat → Int32} : fx_X9_checkText n xx h 0 = some (1, mu xx 0 1 (h 0 4)) := by
  unfold fx_X9_checkText
  rw [if_pos rfl, xl_eq, if_pos rfl]
theorem TPC_nil9 {h : Nat → Nat → Int32} : TPC h [] := ⟨by decide, fun _ hx => absurd hx List.not_mem_nil, trivial⟩
theorem st0_term {n : Nat} {f nm nmm fs fm9 fu fk shr tx fp fsp : Nat → Int32} {taped ops9 vs9 terms rules iss shn fault th size point begin_ top : Int32} {xx h v ga rt rs sw rw0 rd rc : Nat → Nat → Int32} {w : Nat → Nat → Int64} {L : List Nat} (hn : 100000 ≤ n) (hr : RFS f nm nmm fs fm9 fu fk shr tx taped ops9 vs9 terms rules iss shn L [] [] [] [] none) (hc : CLS0 xx h v ga rt rs sw rw0 w fault L) :
    ∃ (size' point' begin' fault' : Int32) (fp' : Nat → Int32) (top' : Int32) (fsp' fk' : Nat → Int32) (xx' h' v' rd' : Nat → Nat → Int32), fx_term n th f taped size point begin_ fault nm nmm fs fm9 fu ops9 vs9 fp top fsp fk terms = some (0, 1, 0, size', point', begin', fault', fp', top', fsp', fk', terms) ∧ fx_X9_term n xx h v w ga rd rc rt = some (1, 0, xx', h', v', w, rd', rc, rt) ∧
      RFS f nm nmm fs fm9 fu fk' shr tx 0 ops9 vs9 terms rules iss shn [] [] [] [] [] none ∧ CLS0 xx' h' v' ga rt rs sw rw0 w fault' [] := by
  obtain ⟨r1, rfl, r3, rfl, rfl, r6, rfl, r8, rfl, r10, r11, r12⟩ := hr
  obtain ⟨c1, c2, c3, c4, c5, c6, c7, c8, las0, NN, c9⟩ := hc
  obtain ⟨r, th', size', point', begin', fault', fp', top', fsp', fk', T1, e, k1, k2, k3⟩ := fx_term_ok (fp := fp) (fsp := fsp) (th := th) (size := size) (point := point) (begin_ := begin_) (fault := fault) (top := top) hn r3 r1 r6 r8
  obtain ⟨p1, p2⟩ := ptm_nil (so := soF []) (ma := maF []) (un := unF []) (nmL := nmF [] []) (L := L) (d := 400) (p := 0)
  obtain ⟨h1, a1, a2, a3⟩ := fx_open_c (n := n) hn c1 c2
  obtain ⟨v1, b1, b2, b3⟩ := fx_clear8_c (n := n) hn c9
  obtain ⟨rd', d1⟩ := read_0 (n := n) (rd := rd) (h := h1) (v := v1) (w := w) (by omega) c3.2.2.1 c3.2.2.2.1
  have g : fx_X9_term n xx h v w ga rd rc rt = some (1, 0, mu xx 0 1 (h1 0 4), h1, v1, w, rd', rc, rt) := by
    unfold fx_X9_term
    rw [a1, xb1_s, b1, xb1_s, d1, xb5_s, if_pos rfl]
    unfold jx_X9_term_44
    rw [check_0, xb2_s, if_neg (by decide)]
  rcases k3 with ⟨_, rfl, z2, rfl, rfl⟩ | ⟨⟨t, z⟩, _⟩ | ⟨t, z, _⟩
  · refine ⟨size', point', begin', fault', fp', top', fsp', fk', mu xx 0 1 (h1 0 4), h1, v1, rd', e, g, ⟨TPE_nil, rfl, r3, rfl, rfl, k1, rfl, k2, rfl, r10, r11, r12⟩, ⟨TPC_nil9, a2, c3, c4, c5, ?_, ?_, c8, las0, [], b2⟩⟩
    · rw [mu_eq, upd_ne (by decide)]; exact c6
    · rw [mu_eq, upd_eq, z2]
      have := a3.2.2.2.2.1
      rw [this]
      exact congrArg nI p2.symm
  · exact nomatch (p1.symm.trans z)
  · exact nomatch (p1.symm.trans z)
theorem st0_rule {n : Nat} {f nm nmm fs fm9 fu fk shr tx fp fsp : Nat → Int32} {taped ops9 vs9 terms rules iss shn on fault th size point begin_ top : Int32} {xx h v ga rt rs sw rw0 rd : Nat → Nat → Int32} {w : Nat → Nat → Int64} {L : List Nat} (hn : 100000 ≤ n) (hr : RFS f nm nmm fs fm9 fu fk shr tx taped ops9 vs9 terms rules iss shn L [] [] [] [] none) (hc : CLS0 xx h v ga rt rs sw rw0 w fault L) :
    ∃ (size' point' begin' fault' : Int32) (fp' : Nat → Int32) (top' : Int32) (fsp' fk' : Nat → Int32) (xx' h' v' rd' : Nat → Nat → Int32), fx_rule n th f taped size point begin_ fault nm nmm fs fm9 fu ops9 vs9 fp top fsp fk rules on = some (0, 1, 0, size', point', begin', fault', fp', top', fsp', fk', rules, on) ∧ fx_X9_rule n xx h v w ga rd rs = some (1, 0, xx', h', v', w, rd', rs) ∧
      RFS f nm nmm fs fm9 fu fk' shr tx 0 ops9 vs9 terms rules iss shn [] [] [] [] [] none ∧ CLS0 xx' h' v' ga rt rs sw rw0 w fault' [] := by
  obtain ⟨r1, rfl, r3, rfl, rfl, r6, rfl, r8, rfl, r10, r11, r12⟩ := hr
  obtain ⟨c1, c2, c3, c4, c5, c6, c7, c8, las0, NN, c9⟩ := hc
  obtain ⟨r, th', size', point', begin', fault', fp', top', fsp', fk', R1, on', e, k1, k2, k3⟩ := fx_rule_ok (fp := fp) (fsp := fsp) (th := th) (size := size) (point := point) (begin_ := begin_) (fault := fault) (top := top) (on := on) hn r3 r1 r6 r8
  obtain ⟨p1, p2⟩ := ptm_nil (so := soF []) (ma := maF []) (un := unF []) (nmL := nmF [] []) (L := L) (d := 400) (p := 0)
  obtain ⟨h1, a1, a2, a3⟩ := fx_open_c (n := n) hn c1 c2
  obtain ⟨v1, b1, b2, b3⟩ := fx_clear8_c (n := n) hn c9
  obtain ⟨rd', d1⟩ := read_0 (n := n) (rd := rd) (h := h1) (v := v1) (w := w) (by omega) c3.2.2.1 c3.2.2.2.1
  have g : fx_X9_rule n xx h v w ga rd rs = some (1, 0, mu xx 0 1 (h1 0 4), h1, v1, w, rd', rs) := by
    unfold fx_X9_rule
    rw [a1, xb1_s, b1, xb1_s, d1, xb5_s, if_pos rfl]
    unfold jx_X9_rule_57
    rw [check_0, xb2_s, if_neg (by decide)]
  rcases k3 with ⟨_, rfl, z2, rfl, rfl, rfl⟩ | ⟨t, z, _⟩
  · refine ⟨size', point', begin', fault', fp', top', fsp', fk', mu xx 0 1 (h1 0 4), h1, v1, rd', e, g, ⟨TPE_nil, rfl, r3, rfl, rfl, k1, rfl, k2, rfl, r10, r11, r12⟩, ⟨TPC_nil9, a2, c3, c4, c5, ?_, ?_, c8, las0, [], b2⟩⟩
    · rw [mu_eq, upd_ne (by decide)]; exact c6
    · rw [mu_eq, upd_eq, z2]
      have := a3.2.2.2.2.1
      rw [this]
      exact congrArg nI p2.symm
  · exact nomatch (p1.symm.trans z)
