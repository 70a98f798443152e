/-! ===== the matcher: a chain's end, a branch's next way ===== -/
abbrev KRs := Int32 → Int32 → (Nat → Nat → Int32) → (Nat → Nat → Int32) → (Nat → Nat → Int64) → MRs
theorem keyF_congr {pv : Int32} {s1 s2 : Sbs} (h : ∀ v : Nat, v < 5 → hb pv v = true → s1 v = s2 v) : ∀ (k v : Nat), v + k ≤ 5 → keyF pv s1 k v = keyF pv s2 k v
  | 0, _, _ => rfl
  | k + 1, v, hv => by
    show pad (if hb pv v then s1 v else []) ++ keyF pv s1 k (v + 1) = pad (if hb pv v then s2 v else []) ++ keyF pv s2 k (v + 1)
    rw [keyF_congr h k (v + 1) (by omega)]
    by_cases q : hb pv v = true
    · rw [if_pos q, if_pos q, h v (by omega) q]
    · rw [if_neg q, if_neg q]
theorem key_agree {pv : Int32} {s1 s2 : Sbs} (h : ∀ v : Nat, v < 5 → hb pv v = true → s1 v = s2 v) : key pv s1 = key pv s2 := keyF_congr h 5 0 (by omega)
theorem fnt_in {Fs : List Sbs} {j : Nat} (h : j < Fs.length) : fnt Fs j ∈ Fs := by
  unfold fnt
  rw [List.getD_eq_getElem?_getD, List.getElem?_eq_getElem h]
  exact List.getElem_mem h
/-- too many matches -/
def TOO (so : Nat → Nat) (un : Nat → Option Nat) (P T : List Nat) (pv : Int32) : Prop := ∃ L : List (List Nat), L.Nodup ∧ 300 < L.length ∧ ∀ k ∈ L, ∃ sg : Sbs, MTG so un P T sg ∧ k = key pv sg
theorem run_record {n i no nv hd wp wt M : Nat} {ga u vt : Nat → Nat → Int32} {w : Nat → Nat → Int64} {las : Nat → Bool} {so ma : Nat → Nat} {un : Nat → Option Nat} {nmL : Nat → List Nat} {AL : List Nat → Prop} {N0 E : List (List Nat)} {P T : List Nat} {pv x3 : Int32} {Fs : List Sbs} {BR : List BRN} {Mb d G m0 : Nat} {be : Bnd} (hx : RCX n ga las so ma un no nv nmL AL hd N0 wp wt P T pv) (hi : i < 100000000)
    (hcol : col P) (h1 : TBK vt w las so ma un nv (N0 ++ E)) (h2 : vt 0 1 = nI hd) (h3 : ∀ e ∈ E, AL e) (h4 : u 0 0 = nI wp) (h5 : u 0 1 = nI wt) (h6 : u 0 3 = nI BR.length) (h7 : FND u (N0 ++ E) pv Fs) (h8 : ∀ f ∈ Fs, MTG so un P T f) (h9 : BRS so ma un nv AL P T u (N0 ++ E) BR) (h10 : BRV so un las P BR Mb)
    (c1 : CHN u (N0 ++ E) [] G x3) (c3 : BDG u (N0 ++ E) be) (c6 : DMP P be) (c7 : LOW BR be G) (c10 : ∀ sg : Sbs, SolG so un [] be sg → MTG so un P T sg) (c11 : MV so un las P d [] be m0) (hM : m0 + Mb ≤ M)
    (hc : ∀ sg : Sbs, MTG so un P T sg → (∃ f ∈ Fs, key pv f = key pv sg) ∨ SolG so un [] be sg ∨ ∃ b ∈ BR, ∃ wy : Nat, brK b ≤ wy ∧ wy < brL b ∧ SW so un (brR b) (brC b) (brB b) (brP b) wy sg) :
    ∃ (u' : Nat → Nat → Int32) (M' : Nat), M' + 1 ≤ M ∧ (∀ (p0 p1 : Int32) (k : KRs), bx_X0_run_57 n ga p0 p1 k x3 (nI i) u vt w = k (-2) (nI (i + 1)) u' vt w) ∧
      ((∃ Fs' : List Sbs, INV las so ma un nv AL hd N0 wp wt P T pv (-2) u' vt w M' Fs') ∨ (u' 0 5 = 301 ∧ TOO so un P T pv)) := by
  obtain ⟨r1, r2, r3, r4, r5, r6, ⟨r7, r8⟩, ⟨r9, r10⟩, r11⟩ := hx
  have c1' : x3 = -1 := c1
  have hmt := c10 (sgB be) ⟨fun v _ r hr => by unfold sgB; rw [hr]; rfl, fun g hg => absurd hg List.not_mem_nil⟩
  have hbd : ∀ v : Nat, v < 5 → v ∈ P → be v ≠ none := fun v hv hP hn => by
    have g := (hmt.1 v hP (by omega)).1.1.1
    have e : sgB be v = [] := by unfold sgB; rw [hn]; rfl
    rw [e] at g
    exact absurd (wf_pos g) (by simp)
  have hpv : ∀ v : Nat, v < 5 → hb pv v = hb (u 0 4) v := fun v hv => by
    rcases c3 v hv with ⟨y1, y2⟩ | ⟨r, y, y1, y2, _⟩
    · rw [y2]
      cases q : hb pv v with
      | false => rfl
      | true => exact absurd y1 (hbd v hv ((r11 v hv).mp q))
    · rw [y2]
      exact (r11 v hv).mpr (c6 v hv (by rw [y1]; exact fun z => nomatch z))
  obtain ⟨u', e1, e2, e3, e4⟩ := fx_record_c (n := n) r1 h1.1 c3 hpv h7
  cases d with
  | zero => exact c11.elim
  | succ d =>
  have m1 := c11.1
  have f5 := h7.1
  have f6 := h7.2.1
  have eq9 : ∀ (p0 p1 : Int32) (k : KRs), bx_X0_run_57 n ga p0 p1 k x3 (nI i) u vt w = k (-2) (nI (i + 1)) u' vt w := fun p0 p1 k => by
    unfold bx_X0_run_57
    rw [if_neg (by rw [show (100000000 : Int32) = nI 100000000 from rfl, nI_le_iff (by decide) (by omega)]; omega), f5, if_neg (by rw [show (300 : Int32) = nI 300 from rfl, nI_lt_iff (by decide) (by omega)]; omega), c1', if_pos (by decide)]
    unfold jx_X0_run_119
    rw [if_pos rfl, e1, xb1_s, xl_eq, nI_1]
  have fr := BRS_frame (u' := u') (fun a a1 a4 j _ => by rw [e2 a (by omega) (by omega) (by omega)]) (fun v _ _ => by rw [e2 5 (by decide) (by decide) (by decide)]) (fun a a6 a11 j _ => by rw [e2 a (by omega) (by omega) (by omega)]) c7 h9
  have u00 : u' 0 0 = nI wp := (e3 0 (by decide)).trans h4
  have u01 : u' 0 1 = nI wt := (e3 1 (by decide)).trans h5
  have u03 : u' 0 3 = nI BR.length := (e3 3 (by decide)).trans h6
  have hkey : ∀ sg : Sbs, SolG so un [] be sg → key pv (sgB be) = key pv sg := fun sg hs => key_agree (fun v hv q => by
    have hn := hbd v hv ((r11 v hv).mp q)
    cases z : be v with
    | none => exact absurd z hn
    | some r =>
      rw [hs.1 v hv r z]
      unfold sgB
      rw [z]; rfl)
  refine ⟨u', M - 1, by omega, eq9, ?_⟩
  rcases e4 with ⟨⟨j, j1, j2⟩, hF⟩ | ⟨A, B, j1, hF⟩ | ⟨j1, j2, j3⟩
  · refine Or.inl ⟨Fs, E, BR, 0, Mb, fun _ => False, h1, h2, h3, u00, u01, u03, hF, h8, fr, h10, Or.inl ⟨rfl, fun _ h => h⟩, by omega, fun sg hs => ?_⟩
    rcases hc sg hs with z | z | z
    · exact Or.inl z
    · exact Or.inl ⟨fnt Fs j, fnt_in j1, j2.trans (hkey sg z)⟩
    · exact Or.inr (Or.inr z)
  · have hmem : ∀ f : Sbs, f ∈ Fs → f ∈ A ++ sgB be :: B := fun f hf => by
      rw [j1] at hf
      rcases List.mem_append.mp hf with z | z
      · exact List.mem_append_left _ z
      · exact List.mem_append_right _ (List.mem_cons_of_mem _ z)
    refine Or.inl ⟨A ++ sgB be :: B, E, BR, 0, Mb, fun _ => False, h1, h2, h3, u00, u01, u03, hF, fun f hf => ?_, fr, h10, Or.inl ⟨rfl, fun _ h => h⟩, by omega, fun sg hs => ?_⟩
    · rcases List.mem_append.mp hf with z | z
      · exact h8 f (by rw [j1]; exact List.mem_append_left _ z)
      · rcases List.mem_cons.mp z with z | z
        · rw [z]; exact hmt
        · exact h8 f (by rw [j1]; exact List.mem_append_right _ z)
    · rcases hc sg hs with ⟨f, z1, z2⟩ | z | z
      · exact Or.inl ⟨f, hmem f z1, z2⟩
      · exact Or.inl ⟨sgB be, List.mem_append_right _ List.mem_cons_self, hkey sg z⟩
      · exact Or.inr (Or.inr z)
  · refine Or.inr ⟨j2, key pv (sgB be) :: Fs.map (key pv), List.nodup_cons.mpr ⟨fun hm => ?_, ?_⟩, by rw [List.length_cons, List.length_map]; omega, fun k hk => ?_⟩
    · obtain ⟨j, jl, je⟩ := fnt_mem hm
      exact j3 j jl je.symm
    · exact h7.2.2.1.imp (fun {a b} hab e => by rw [e] at hab; exact klt_irrefl hab)
    · rcases List.mem_cons.mp hk with z | z
      · exact ⟨sgB be, hmt, z⟩
      · obtain ⟨f, f1, f2⟩ := List.mem_map.mp z
        exact ⟨f, h8 f f1, f2.symm⟩
/-- back to the last branch -/
theorem run_back {n i no nv hd wp wt M : Nat} {ga u vt : Nat → Nat → Int32} {w : Nat → Nat → Int64} {las : Nat → Bool} {so ma : Nat → Nat} {un : Nat → Option Nat} {nmL : Nat → List Nat} {AL : List Nat → Prop} {N0 E : List (List Nat)} {P T : List Nat} {pv : Int32} {Fs : List Sbs} {BR : List BRN} {Mb : Nat} {b : BRN} (hx : RCX n ga las so ma un no nv nmL AL hd N0 wp wt P T pv) (hi : i < 100000000)
    (h1 : TBK vt w las so ma un nv (N0 ++ E)) (h2 : vt 0 1 = nI hd) (h3 : ∀ e ∈ E, AL e) (h4 : u 0 0 = nI wp) (h5 : u 0 1 = nI wt) (h6 : u 0 3 = nI (b :: BR).length) (h7 : FND u (N0 ++ E) pv Fs) (h8 : ∀ f ∈ Fs, MTG so un P T f) (h9 : BRS so ma un nv AL P T u (N0 ++ E) (b :: BR)) (h10 : BRV so un las P (b :: BR) Mb) (hM : Mb ≤ M)
    (hc : ∀ sg : Sbs, MTG so un P T sg → (∃ f ∈ Fs, key pv f = key pv sg) ∨ ∃ z ∈ b :: BR, ∃ wy : Nat, brK z ≤ wy ∧ wy < brL z ∧ SW so un (brR z) (brC z) (brB z) (brP z) wy sg) :
    ∃ (x' : Int32) (u' vt' : Nat → Nat → Int32) (w' : Nat → Nat → Int64) (M' : Nat), M' + 1 ≤ M ∧ INV las so ma un nv AL hd N0 wp wt P T pv x' u' vt' w' M' Fs ∧
      ∀ (p0 p1 : Int32) (k : KRs), bx_X0_run_57 n ga p0 p1 k (-2) (nI i) u vt w = k x' (nI (i + 1)) u' vt' w' := by
  obtain ⟨r1, r2, r3, r4, r5, r6, ⟨r7, r8⟩, ⟨r9, r10⟩, r11⟩ := hx
  have nd := h1.1.2.2.1
  have hN := r6 E nd h3
  have wpE := nth_pre (B := E) r7
  have wtE := nth_pre (B := E) r9
  have hsv := r2.2.1
  have hs2 := fun (o : Nat) (h : so o ≠ 3) => (ENV_op r2 h).2.2
  obtain ⟨R, C0, be, bp, lim, kk, gu, mask⟩ := b
  obtain ⟨⟨gi, x1, x2, x3, x4, x5, x6, x7, x8⟩, h92, ⟨s1, s2, s3, s4, s5, s6, s7, s8, s9⟩, h94, h95⟩ := h9
  have x1 : u 6 BR.length = nI gi := x1
  have x2 : CHN u (N0 ++ E) (R :: C0) gu (nI gi) := x2
  have x4 : u 7 BR.length = nI bp := x4
  have x5 : u 8 BR.length = nI kk - 1 := x5
  have x6 : u 9 BR.length = nI lim := x6
  have x7 : u 10 BR.length = mask := x7
  have x8 : u 11 BR.length = nI gu := x8
  have h92 : BDM mask (u 5) (N0 ++ E) be := h92
  have s1 : GOK AL so ma un nv (R :: C0) := s1
  have s2 : VPC so P (R :: C0) := s2
  have s3 : DMP P be := s3
  have s4 : kk ≤ lim := s4
  have s5 : lim ≤ 64 := s5
  have s6 : BKN so un be R bp lim := s6
  have s7 : gu + pot so (R :: C0) ≤ 79 := s7
  have s8 : BR.length + sgC so (R :: C0) ≤ 19 := s8
  have s9 : ∀ sg : Sbs, SolG so un (R :: C0) be sg → MTG so un P T sg := s9
  have h94 : LOW BR be gu := h94
  obtain ⟨d, f, M1, v1, v2, v3⟩ := h10
  have v1 : 1 + sm f kk (lim - kk) + M1 ≤ Mb := v1
  have v2 : ∀ wy : Nat, kk ≤ wy → wy < lim → ∀ (C2 : List GoalC) (be2 : Bnd), WAY so un R C0 be bp wy C2 be2 → MV so un las P d C2 be2 (f wy) := v2
  have h6 : u 0 3 = nI (BR.length + 1) := h6
  have f5 := h7.1
  have f6 := h7.2.1
  obtain ⟨u1, a1, a2, a3, a4, a5, a6, a7, a8⟩ := fx_hasWay_c (n := n) h6 (by omega) x5 (by omega) x6 (by omega) x7 x8
  have fr := BRS_frame (u' := u1) (fun a z1 z4 j _ => by rw [a6 a (by omega) (by omega)]) (fun v _ _ => by rw [a6 5 (by decide) (by decide)]) (fun a z6 z11 j hj => by
    by_cases q : a = 8
    · rw [q, a7 j (by omega)]
    · rw [a6 a (by omega) q]) h94 h95
  have fnd1 : FND u1 (N0 ++ E) pv Fs := FND_frame h7 (a8 5 (by decide) (by decide) (by decide)) (a6 12 (by decide) (by decide)) (a6 13 (by decide) (by decide))
  have u00 : u1 0 0 = nI wp := (a8 0 (by decide) (by decide) (by decide)).trans h4
  have u01 : u1 0 1 = nI wt := (a8 1 (by decide) (by decide) (by decide)).trans h5
  have pre : ∀ (p0 p1 : Int32) (k : KRs), bx_X0_run_57 n ga p0 p1 k (-2) (nI i) u vt w = jx_X0_run_119 n ga p0 p1 k (-2) (nI i) u vt w := fun p0 p1 k => by
    unfold bx_X0_run_57
    rw [if_neg (by rw [show (100000000 : Int32) = nI 100000000 from rfl, nI_le_iff (by decide) (by omega)]; omega), f5, if_neg (by rw [show (300 : Int32) = nI 300 from rfl, nI_lt_iff (by decide) (by omega)]; omega), if_pos (by decide)]
  have pos3 : (0 : Int32) < u 0 3 := by rw [h6, show (0 : Int32) = nI 0 from rfl, nI_lt_iff (by decide) (by omega)]; omega
  by_cases hk : kk < lim
  · rw [if_pos hk] at a1 a2
    obtain ⟨gi', g1, g2, ⟨na, na1, na2, na3⟩, g4, ⟨nb, nb1, nb2, nb3⟩, g6⟩ := x2
    have pc : 1 ≤ pot so (R :: C0) := by
      show 1 ≤ 4 * sgm so R + 1 + pot so C0
      omega
    have egi : gi = gi' := (nI_inj (by omega) (by omega)).mp g2
    subst egi
    have bd1 : BDG u1 (N0 ++ E) be := by
      intro v hv
      rw [a3, a6 5 (by decide) (by decide)]
      exact h92 v hv
    have q6 : ∀ a j : Nat, 1 ≤ a → a ≠ 8 → u1 a j = u a j := fun a j z1 z2 => by rw [a6 a (by omega) z2]
    have lp := fx_lastIsPair_c (n := n) r2 h1 (u := u1) (a := na) a2 (by omega) (by rw [q6 6 _ (by decide) (by decide)]; exact x1) (by omega) na1 (by rw [q6 1 _ (by decide) (by decide)]; exact na3)
    rw [na2] at lp
    have hC1 : CHN u1 (N0 ++ E) C0 gi (u1 4 gi) := by
      rw [q6 4 _ (by decide) (by decide)]
      exact CHN_frame (fun a z1 z4 j _ => q6 a j z1 (by omega)) g6
    have key1 : ∃ o : MRs, WOUT las so ma un nv AL hd u1 (N0 ++ E) R C0 be gu (BR.length + 1) bp kk o ∧ ∀ (p0 p1 : Int32) (k : KRs), bx_X0_run_57 n ga p0 p1 k (-2) (nI i) u vt w = xb4 o fun r m t z => k r (nI (i + 1)) m t z := by
      by_cases k1 : kd so R.1 = 1
      · rcases s6 with ⟨_, e2, e3, e4⟩ | ⟨e1, _⟩
        · obtain ⟨x', u', z1, z2⟩ := fx_meetPair_c (n := n) (nb := BR.length + 1) r2 r3 h1 h2 bd1 (bk := BR.length) (by omega) (by rw [q6 6 _ (by decide) (by decide)]; exact x1) g1 (by omega) a4 a5 na1 na2 (by rw [q6 1 _ (by decide) (by decide)]; exact na3) nb1 nb2 (by rw [q6 3 _ (by decide) (by decide)]; exact nb3) hC1 s1 k1 e4 (by omega)
          refine ⟨_, by rw [e2]; exact z2, fun p0 p1 k => ?_⟩
          rw [pre]
          unfold jx_X0_run_119
          rw [if_neg (by decide), if_pos pos3, a1, xb2_s, if_neg (by decide), lp, if_pos k1, xb1_s, if_neg (by decide), a2, xl_eq, show nI (BR.length + 1) - (1 : Int32) = nI BR.length by rw [i1, nI_sub (by omega)]; rfl, z1, xb2_s, xl_eq, nI_1]
          rfl
        · omega
      · rcases s6 with ⟨e1, _⟩ | ⟨e1, e2, e3, e4⟩
        · exact absurd e1 k1
        · refine ⟨_, fx_share_c (n := n) (nb := BR.length + 1) r1 r2 r4 h1 h2 hN bd1 (bk := BR.length) (by omega) (by rw [q6 6 _ (by decide) (by decide)]; exact x1) g1 (by omega) a4 (by rw [q6 7 _ (by decide) (by decide)]; exact x4) a5 na1 na2 (by rw [q6 1 _ (by decide) (by decide)]; exact na3) nb1 nb2 (by rw [q6 3 _ (by decide) (by decide)]; exact nb3) (by rw [q6 2 _ (by decide) (by decide)]; exact g4) hC1 s1 e1 e2 e3 (by rw [← e4]; exact hk) u00 wpE.1 u01 wtE.1 (fun sg hs => by rw [wpE.2, wtE.2, r8, r10]; exact s9 sg hs), fun p0 p1 k => ?_⟩
          rw [pre]
          unfold jx_X0_run_119
          rw [if_neg (by decide), if_pos pos3, a1, xb2_s, if_neg (by decide), lp, if_neg k1, xb1_s, if_pos rfl, a2, xl_eq, show nI (BR.length + 1) - (1 : Int32) = nI BR.length by rw [i1, nI_sub (by omega)]; rfl]
          simp only [xl_eq, nI_1]
    obtain ⟨o, ⟨x', u', vt', w', E', o1, o2, o3, o4, o5, o6, o7⟩, o8⟩ := key1
    have hE2 : ∀ e ∈ E ++ E', AL e := fun e he => by
      rcases List.mem_append.mp he with z | z
      · exact h3 e z
      · exact o4 e z
    have fr2 := BRS_ext (E := E') (BRS_frame (u' := u') o5.1 o5.2.1 (fun a z6 z11 j hj => o5.2.2.1 a z6 z11 j (by omega)) h94 fr)
    have fnd2 : FND u' (N0 ++ E ++ E') pv Fs := FND_ext (FND_frame fnd1 o5.2.2.2.2.2.2 o5.2.2.2.1.1 o5.2.2.2.1.2)
    have bx2 : BRX u' (N0 ++ E ++ E') BR.length R C0 bp lim (nI (kk + 1) - 1) mask gu := by
      have q11 : ∀ a : Nat, 6 ≤ a → a ≤ 11 → u' a BR.length = u1 a BR.length := fun a z6 z11 => o5.2.2.1 a z6 z11 _ (Nat.lt_succ_self _)
      refine ⟨gi, ?_, CHN_ext (CHN_frame (fun a z1 z4 j hj => (o5.1 a z1 z4 j hj).trans (q6 a j z1 (by omega))) ⟨gi, g1, rfl, ⟨na, na1, na2, na3⟩, g4, ⟨nb, nb1, nb2, nb3⟩, g6⟩), x3, ?_, ?_, ?_, ?_, ?_⟩
      · rw [q11 6 (by decide) (by decide), q6 6 _ (by decide) (by decide)]; exact x1
      · rw [q11 7 (by decide) (by decide), q6 7 _ (by decide) (by decide)]; exact x4
      · rw [q11 8 (by decide) (by decide), a5, i1, nI_sub (by omega)]; rfl
      · rw [q11 9 (by decide) (by decide), q6 9 _ (by decide) (by decide)]; exact x6
      · rw [q11 10 (by decide) (by decide), q6 10 _ (by decide) (by decide)]; exact x7
      · rw [q11 11 (by decide) (by decide), q6 11 _ (by decide) (by decide)]; exact x8
    have bd2 : BDM mask (u' 5) (N0 ++ E ++ E') be := BDM_ext (BDM_frame h92 (fun v hv hn => (o5.2.1 v hv hn).trans (q6 5 v (by decide) (by decide))))
    rw [List.append_assoc] at o2 fr2 fnd2 o7 bx2 bd2
    have u00' : u' 0 0 = nI wp := o5.2.2.2.2.1.trans u00
    have u01' : u' 0 1 = nI wt := o5.2.2.2.2.2.1.trans u01
    have u03' : u' 0 3 = nI (BR.length + 1) := o6.trans a2
    have eq9 : ∀ (p0 p1 : Int32) (k : KRs), bx_X0_run_57 n ga p0 p1 k (-2) (nI i) u vt w = k x' (nI (i + 1)) u' vt' w' := fun p0 p1 k => by
      rw [o8, o1]; rfl
    have sm1 : sm f kk (lim - kk) = 1 + f kk + sm f (kk + 1) (lim - (kk + 1)) := by
      rw [show lim - kk = (lim - (kk + 1)) + 1 by omega]; rfl
    have nst : BST so ma un nv AL P T BR.length (R, C0, be, bp, lim, kk + 1, gu, mask) := ⟨s1, s2, s3, hk, s5, s6, s7, s8, s9⟩
    have nbr : BRS so ma un nv AL P T u' (N0 ++ (E ++ E')) ((R, C0, be, bp, lim, kk + 1, gu, mask) :: BR) := ⟨bx2, bd2, nst, h94, fr2⟩
    have nbv : BRV so un las P ((R, C0, be, bp, lim, kk + 1, gu, mask) :: BR) (1 + sm f (kk + 1) (lim - (kk + 1)) + M1) := ⟨d, f, M1, Nat.le_refl _, fun wy z1 z2 C2 be2 hW => v2 wy (by have z1 : kk + 1 ≤ wy := z1; omega) z2 C2 be2 hW, v3⟩
    have rest : ∀ sg : Sbs, (∃ z ∈ ((R, C0, be, bp, lim, kk, gu, mask) : BRN) :: BR, ∃ wy : Nat, brK z ≤ wy ∧ wy < brL z ∧ SW so un (brR z) (brC z) (brB z) (brP z) wy sg) → SW so un R C0 be bp kk sg ∨ ∃ z ∈ ((R, C0, be, bp, lim, kk + 1, gu, mask) : BRN) :: BR, ∃ wy : Nat, brK z ≤ wy ∧ wy < brL z ∧ SW so un (brR z) (brC z) (brB z) (brP z) wy sg := fun sg hz => by
      obtain ⟨z, z1, wy, z2, z3, z4⟩ := hz
      rcases List.mem_cons.mp z1 with e | e
      · subst e
        have z2 : kk ≤ wy := z2
        by_cases ew : wy = kk
        · subst ew; exact Or.inl z4
        · exact Or.inr ⟨_, List.mem_cons_self, wy, (by show kk + 1 ≤ wy; omega), z3, z4⟩
      · exact Or.inr ⟨z, List.mem_cons_of_mem _ e, wy, z2, z3, z4⟩
    rcases o7 with ⟨C2, be2, G2, q1, q2, q3, q4, q5, q6', q7, q8, q9, q10⟩ | ⟨q1, q2⟩
    · have vp := VPC_way s1 s2 s3 q1
      have swm : ∀ sg : Sbs, SW so un R C0 be bp kk sg → MTG so un P T sg := fun sg hs => s9 sg (by
        rcases s6 with ⟨e1, e2, e3, e4⟩ | ⟨e1, _⟩
        · refine (pair_iff hsv (s1 R List.mem_cons_self).1 (s1 R List.mem_cons_self).2.1 e1 e4).mpr ⟨kk, by omega, ?_⟩
          rw [← e2]; exact hs
        · unfold SW at hs
          rw [if_neg (by omega)] at hs
          exact hs.1)
      refine ⟨x', u', vt', w', M - 1, by omega, ⟨E ++ E', _ :: BR, f kk, _, SolG so un C2 be2, o2, o3, hE2, u00', u01', u03', fnd2, h8, nbr, nbv, Or.inr ⟨C2, be2, G2, d, q2, q3, q5, q7, vp.1, vp.2, fun z hz => ?_, by omega, ?_, fun sg hs => swm sg ((q10 sg).mpr hs), v2 kk (Nat.le_refl _) hk C2 be2 q1, fun sg => Iff.rfl⟩, by omega, fun sg hs => ?_⟩, eq9⟩
      · rcases List.mem_cons.mp hz with e | e
        · rw [e]
          exact ⟨fun v hv hn => by rw [q6' v hv hn]; exact hn, q4⟩
        · exact LOW_up h94 (fun v hv hn => by rw [q6' v hv hn]; exact hn) q4 z e
      · rw [List.length_cons]; omega
      · rcases hc sg hs with z | z
        · exact Or.inl z
        · rcases rest sg z with z | z
          · exact Or.inr (Or.inl ((q10 sg).mp z))
          · exact Or.inr (Or.inr z)
    · refine ⟨x', u', vt', w', M - 1, by omega, ⟨E ++ E', _ :: BR, 0, _, fun _ => False, o2, o3, hE2, u00', u01', u03', fnd2, h8, nbr, nbv, Or.inl ⟨q1, fun _ h => h⟩, by omega, fun sg hs => ?_⟩, eq9⟩
      rcases hc sg hs with z | z
      · exact Or.inl z
      · rcases rest sg z with z | z
        · exact absurd z (q2 sg)
        · exact Or.inr (Or.inr z)
  · rw [if_neg hk] at a1 a2
    refine ⟨-2, u1, vt, w, M - 1, by omega, ⟨E, BR, 0, M1, fun _ => False, h1, h2, h3, u00, u01, a2, fnd1, h8, fr, v3, Or.inl ⟨rfl, fun _ h => h⟩, by omega, fun sg hs => ?_⟩, fun p0 p1 k => ?_⟩
    · rcases hc sg hs with z | ⟨z, z1, wy, z2, z3, z4⟩
      · exact Or.inl z
      · rcases List.mem_cons.mp z1 with e | e
        · subst e
          have z2 : kk ≤ wy := z2
          have z3 : wy < lim := z3
          omega
        · exact Or.inr (Or.inr ⟨z, e, wy, z2, z3, z4⟩)
    · rw [pre]
      unfold jx_X0_run_119
      rw [if_neg (by decide), if_pos pos3, a1, xb2_s, if_pos rfl, xl_eq, nI_1]
