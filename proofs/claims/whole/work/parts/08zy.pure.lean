/-! ===== the matcher: run ===== -/
/-- what a run gives -/
def RUNO (las : Nat → Bool) (so ma : Nat → Nat) (un : Nat → Option Nat) (nv : Nat) (AL : List Nat → Prop) (hd : Nat) (N0 : List (List Nat)) (P T : List Nat) (pv : Int32) (o : MRs) : Prop :=
  ∃ (r : Int32) (u' vt' : Nat → Nat → Int32) (w' : Nat → Nat → Int64) (E : List (List Nat)), o = some (r, u', vt', w') ∧ TBK vt' w' las so ma un nv (N0 ++ E) ∧ vt' 0 1 = nI hd ∧ (∀ e ∈ E, AL e) ∧
    ((r = 1 ∧ ∃ Fs : List Sbs, FND u' (N0 ++ E) pv Fs ∧ (∀ f ∈ Fs, MTG so un P T f) ∧ ∀ sg : Sbs, MTG so un P T sg → ∃ f ∈ Fs, key pv f = key pv sg) ∨ (r = 0 ∧ TOO so un P T pv))
theorem lx_run_c {n no nv hd wp wt : Nat} {ga : Nat → Nat → Int32} {las : Nat → Bool} {so ma : Nat → Nat} {un : Nat → Option Nat} {nmL : Nat → List Nat} {AL : List Nat → Prop} {N0 : List (List Nat)} {P T : List Nat} {pv : Int32} (p0 p1 : Int32) (hx : RCX n ga las so ma un no nv nmL AL hd N0 wp wt P T pv) (hcol : col P) :
    ∀ (M m : Nat) (x3 : Int32) (i : Nat) (u vt : Nat → Nat → Int32) (w : Nat → Nat → Int64) (Fs : List Sbs), INV las so ma un nv AL hd N0 wp wt P T pv x3 u vt w M Fs → M < m → i + M < 100000000 →
      RUNO las so ma un nv AL hd N0 P T pv (lx_X0_run_57 n ga p0 p1 m x3 (nI i) u vt w)
  | _, 0, _, _, _, _, _, _, _, hm, _ => absurd hm (Nat.not_lt_zero _)
  | M, m + 1, x3, i, u, vt, w, Fs, hI, hm, hi => by
    obtain ⟨E, BR, M0, Mb, cs, h1, h2, h3, h4, h5, h6, h7, h8, h9, h10, h11, h12, h13⟩ := hI
    show RUNO las so ma un nv AL hd N0 P T pv (bx_X0_run_57 n ga p0 p1 (lx_X0_run_57 n ga p0 p1 m) x3 (nI i) u vt w)
    have f5 := h7.1
    have f6 := h7.2.1
    rcases h11 with ⟨e, hno⟩ | ⟨C, be, G, d, c1, c2, c3, c4, c5, c6, c7, c8, c9, c10, c11, c12⟩
    · subst e
      cases BR with
      | nil =>
        refine ⟨1, u, vt, w, E, ?_, h1, h2, h3, Or.inl ⟨rfl, Fs, h7, h8, fun sg hs => ?_⟩⟩
        · have h6 : u 0 3 = nI 0 := h6
          unfold bx_X0_run_57
          rw [if_neg (by rw [show (100000000 : Int32) = nI 100000000 from rfl, nI_le_iff (by decide) (by omega)]; omega), f5, if_neg (by rw [show (300 : Int32) = nI 300 from rfl, nI_lt_iff (by decide) (by omega)]; omega), if_pos (by decide)]
          unfold jx_X0_run_119
          rw [if_neg (by decide), h6, if_neg (by decide)]
        · rcases h13 sg hs with z | z | ⟨b, z, _⟩
          · exact z
          · exact absurd z (hno sg)
          · exact absurd z List.not_mem_nil
      | cons b BR =>
        obtain ⟨x', u', vt', w', M', q1, q2, q3⟩ := run_back (M := M) (i := i) hx (by omega) h1 h2 h3 h4 h5 h6 h7 h8 h9 h10 (by omega) (fun sg hs => by
          rcases h13 sg hs with z | z | z
          · exact Or.inl z
          · exact absurd z (hno sg)
          · exact Or.inr z)
        rw [q3]
        exact lx_run_c p0 p1 hx hcol M' m x' (i + 1) u' vt' w' Fs q2 (by omega) (by omega)
    · have hc : ∀ sg : Sbs, MTG so un P T sg → (∃ f ∈ Fs, key pv f = key pv sg) ∨ SolG so un C be sg ∨ ∃ b ∈ BR, ∃ wy : Nat, brK b ≤ wy ∧ wy < brL b ∧ SW so un (brR b) (brC b) (brB b) (brP b) wy sg := fun sg hs => by
        rcases h13 sg hs with z | z | z
        · exact Or.inl z
        · exact Or.inr (Or.inl ((c12 sg).mp z))
        · exact Or.inr (Or.inr z)
      cases C with
      | nil =>
        obtain ⟨u', M', q1, q2, q3⟩ := run_record (M := M) (i := i) hx (by omega) hcol h1 h2 h3 h4 h5 h6 h7 h8 h9 h10 c1 c3 c6 c7 c10 c11 (by omega) hc
        rw [q2]
        rcases q3 with ⟨Fs', q3⟩ | ⟨q3, q4⟩
        · exact lx_run_c p0 p1 hx hcol M' m (-2) (i + 1) u' vt w Fs' q3 (by omega) (by omega)
        · refine ⟨0, u', vt, w, E, ?_, h1, h2, h3, Or.inr ⟨rfl, q4⟩⟩
          cases m with
          | zero => omega
          | succ m =>
            show bx_X0_run_57 n ga p0 p1 (lx_X0_run_57 n ga p0 p1 m) (-2) (nI (i + 1)) u' vt w = _
            unfold bx_X0_run_57
            rw [if_neg (by rw [show (100000000 : Int32) = nI 100000000 from rfl, nI_le_iff (by decide) (by omega)]; omega), q3, if_pos (by decide)]
      | cons g C0 =>
        obtain ⟨x', u', vt', w', M', q1, q2, q3⟩ := run_goal (M := M) (i := i) hx (by omega) h1 h2 h3 h4 h5 h6 h7 h8 h9 h10 c1 c2 c3 c4 c5 c6 c7 c8 c9 c10 c11 (by omega) hc
        rw [q3]
        exact lx_run_c p0 p1 hx hcol M' m x' (i + 1) u' vt' w' Fs q2 (by omega) (by omega)
/-- a run of the matcher -/
theorem fx_run_c {n no nv hd wp wt MM d : Nat} {ga u vt : Nat → Nat → Int32} {w : Nat → Nat → Int64} {las : Nat → Bool} {so ma : Nat → Nat} {un : Nat → Option Nat} {nmL : Nat → List Nat} {AL : List Nat → Prop} {N0 : List (List Nat)} {P T : List Nat} {pv : Int32} (hx : RCX n ga las so ma un no nv nmL AL hd N0 wp wt P T pv) (hT : TBK vt w las so ma un nv N0) (hst : vt 0 1 = nI hd) (hAT : AL T) (hmv : MV so un las P d [(P, 63, T)] (fun _ => none) MM) (hMn : MM < n) (hMM : MM < 100000000) :
    RUNO las so ma un nv AL hd N0 P T pv (fx_X0_run n u vt w ga (nI wp) (nI wt)) := by
  have hx0 := hx
  obtain ⟨r1, r2, r3, r4, r5, r6, ⟨r7, r8⟩, ⟨r9, r10⟩, r11⟩ := hx
  have tP : tok so un ma nv P := by rw [← r8]; exact hT.2 _ (nth_mem r7)
  have tT : tok so un ma nv T := by rw [← r10]; exact hT.2 _ (nth_mem r9)
  have lP := tok_len tP
  have hsv := r2.2.1
  have hs2 := fun (o : Nat) (h : so o ≠ 3) => (ENV_op r2 h).2.2
  have pl := pts_len tP.1.1.1
  have h6 : (pts P).length ≤ 6 := by rw [pl]; exact (tok_ar hsv hs2 tP _ (hd0_mem tP.1.1.1)).1
  have hN := r6 [] (by rw [List.append_nil]; exact hT.1.2.2.1) (fun e h => absurd h List.not_mem_nil)
  rw [List.append_nil] at hN
  unfold fx_X0_run
  simp only [xl_eq]
  generalize hu : mu (mu (mu (mu (mu (mu u 0 5 0) 0 2 0) 0 3 0) 0 4 0) 0 0 (nI wp)) 0 1 (nI wt) = u1
  have g0 : u1 0 0 = nI wp := by rw [← hu, mu_eq, upd_ne (by decide), mu_eq, upd_eq]
  have g1 : u1 0 1 = nI wt := by rw [← hu, mu_eq, upd_eq]
  have g5 : u1 0 5 = nI 0 := by rw [← hu, mu_eq, upd_ne (by decide), mu_eq, upd_ne (by decide), mu_eq, upd_ne (by decide), mu_eq, upd_ne (by decide), mu_eq, upd_ne (by decide), mu_eq, upd_eq]; rfl
  have g2 : u1 0 2 = nI 0 := by rw [← hu, mu_eq, upd_ne (by decide), mu_eq, upd_ne (by decide), mu_eq, upd_ne (by decide), mu_eq, upd_ne (by decide), mu_eq, upd_eq]; rfl
  have g3 : u1 0 3 = nI 0 := by rw [← hu, mu_eq, upd_ne (by decide), mu_eq, upd_ne (by decide), mu_eq, upd_ne (by decide), mu_eq, upd_eq]; rfl
  have g4 : u1 0 4 = 0 := by rw [← hu, mu_eq, upd_ne (by decide), mu_eq, upd_ne (by decide), mu_eq, upd_eq]
  have hb0 : ∀ v : Nat, v < 5 → hb 0 v = false := fun v _ => by
    unfold hb
    rw [show (0 : Int32).toBitVec = 0#32 from rfl, BitVec.getLsbD_zero]
  have hB : BDG u1 N0 (fun _ => none) := fun v hv => Or.inl ⟨rfl, by rw [g4]; exact hb0 v hv⟩
  obtain ⟨rf, f1, f2, f3⟩ := fx_fits_c (n := n) r1 r2 hT hB r7 r9
  rw [r8, r10] at f3
  have fnd : FND u1 (N0 ++ []) pv [] := ⟨g5, Nat.zero_le _, List.Pairwise.nil, fun j hj => absurd hj (Nat.not_lt_zero j)⟩
  rw [f1, xb1_s]
  by_cases q : rf = 0
  · rw [if_pos q]
    refine lx_run_c _ _ hx0 tP.1.1.2.1 0 n (-2) 0 u1 vt w [] ⟨[], [], 0, 0, fun _ => False, by rw [List.append_nil]; exact hT, hst, fun e h => absurd h List.not_mem_nil, g0, g1, g3, fnd, fun f h => absurd h List.not_mem_nil, trivial, trivial, Or.inl ⟨rfl, fun _ h => h⟩, Nat.le_refl _, fun sg hs => ?_⟩ (by omega) (by decide)
    have := f3 ⟨sg, (fun v _ r hr => nomatch hr), hs.1, hs.2⟩
    rw [q] at this; exact absurd this (by decide)
  · rw [if_neg q]
    obtain ⟨u2, a1, a2, a3, a4⟩ := fx_addGoal_c (n := n) (L := 63) (C := []) (x := -1) g2 (by decide) (by omega) r7 r8 r9 r10 (by decide) rfl
    rw [show (63 : Int32) = nI 63 from rfl, a1, xb2_s]
    have hsg : sgm so (P, 63, T) ≤ 19 := by
      have hp := wf_pos tP.1.1.1
      unfold sgm
      split
      · show (sl 63 (pts P)).flatten.length ≤ 19
        rw [sl63 h6]
        have e := row_pts tP.1.1.1
        have := congrArg List.length e
        rw [List.length_cons] at this
        omega
      · show P.length - 1 ≤ 19
        omega
    have sol : ∀ sg : Sbs, SolG so un [(P, 63, T)] (fun _ => none) sg ↔ MTG so un P T sg := fun sg => by
      constructor
      · intro hs
        exact (gsat_whole h6 tP).mp (hs.2 _ List.mem_cons_self)
      · intro hs
        refine ⟨(fun v _ r hr => nomatch hr), fun g hg => ?_⟩
        rw [List.mem_singleton.mp hg]
        exact (gsat_whole h6 tP).mpr hs
    have fnd2 : FND u2 (N0 ++ []) pv [] := FND_frame fnd (a4.2.2 5 (by decide)) (a4.2.1 12 (by decide)) (a4.2.1 13 (by decide))
    have gk : GOK AL so ma un nv [(P, 63, T)] := fun g hg => by
      rw [List.mem_singleton.mp hg]
      refine ⟨tP, tT, hAT, fun hk => ?_⟩
      show sl 63 (pts P) ≠ []
      rw [sl63 h6]
      have := (sum_ar tP hk).2.2.1
      rw [← pl] at this
      intro e
      rw [e] at this
      exact absurd this (by decide)
    refine lx_run_c _ _ hx0 tP.1.1.2.1 MM n (nI 0) 0 u2 vt w [] ⟨[], [], MM, 0, SolG so un [(P, 63, T)] (fun _ => none), by rw [List.append_nil]; exact hT, hst, fun e h => absurd h List.not_mem_nil, (a4.2.2 0 (by decide)).trans g0, (a4.2.2 1 (by decide)).trans g1, (a4.2.2 3 (by decide)).trans g3, fnd2, fun f h => absurd h List.not_mem_nil, trivial, trivial, Or.inr ⟨_, _, 1, d, by rw [List.append_nil]; exact a3, a2, by rw [List.append_nil]; exact BDG_frame hB (a4.2.2 4 (by decide)) (a4.2.1 5 (by decide)), gk, fun g hg => ?_, fun v hv hn => absurd rfl hn, fun b hb' => absurd hb' List.not_mem_nil, ?_, ?_, fun sg hs => (sol sg).mp hs, hmv, fun sg => Iff.rfl⟩, Nat.le_refl _, fun sg hs => Or.inr (Or.inl ((sol sg).mpr hs))⟩ hMn (by omega)
    · rw [List.mem_singleton.mp hg]
      exact ⟨fun c hc _ => hc, fun _ => rfl⟩
    · show 1 + (4 * sgm so (P, 63, T) + 1 + 0) ≤ 78
      omega
    · show 0 + (sgm so (P, 63, T) + 0) ≤ 19
      omega
