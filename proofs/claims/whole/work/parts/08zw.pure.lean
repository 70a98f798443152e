/-! ===== the matcher: one move ===== -/
/-- what stands around a search -/
def RCX (n : Nat) (ga : Nat → Nat → Int32) (las : Nat → Bool) (so ma : Nat → Nat) (un : Nat → Option Nat) (no nv : Nat) (nmL : Nat → List Nat) (AL : List Nat → Prop) (hd : Nat) (N0 : List (List Nat)) (wp wt : Nat) (P T : List Nat) (pv : Int32) : Prop :=
  100000 ≤ n ∧ ENV ga las so ma un no nv nmL ∧ (∀ t : List Nat, AL t → ∀ q ∈ pts t, AL q) ∧ (∀ (t : List Nat) (op bits : Nat), tok so un ma nv t → AL t → op < 10 → so op = 2 → (sl bits (flat1 so un op t) = [] → un op ≠ none) → AL (SS so un op t bits)) ∧ hd ≤ 80 ∧
  (∀ E : List (List Nat), (N0 ++ E).Nodup → (∀ e ∈ E, AL e) → (N0 ++ E).length + 30 ≤ 1024) ∧ (wp < N0.length ∧ nth N0 wp = P) ∧ (wt < N0.length ∧ nth N0 wt = T) ∧ ∀ v : Nat, v < 5 → (hb pv v = true ↔ v ∈ P)
/-- what the search is at -/
def CUR (las : Nat → Bool) (so ma : Nat → Nat) (un : Nat → Option Nat) (nv : Nat) (AL : List Nat → Prop) (P T : List Nat) (u : Nat → Nat → Int32) (N : List (List Nat)) (BR : List BRN) (x3 : Int32) (M : Nat) (cs : Sbs → Prop) : Prop :=
  (x3 = -2 ∧ ∀ sg : Sbs, ¬ cs sg) ∨ ∃ (C : List GoalC) (be : Bnd) (G d : Nat), CHN u N C G x3 ∧ u 0 2 = nI G ∧ BDG u N be ∧ GOK AL so ma un nv C ∧ VPC so P C ∧ DMP P be ∧ LOW BR be G ∧ G + pot so C ≤ 78 ∧ BR.length + sgC so C ≤ 19 ∧ (∀ sg : Sbs, SolG so un C be sg → MTG so un P T sg) ∧ MV so un las P d C be M ∧ ∀ sg : Sbs, cs sg ↔ SolG so un C be sg
def INV (las : Nat → Bool) (so ma : Nat → Nat) (un : Nat → Option Nat) (nv : Nat) (AL : List Nat → Prop) (hd : Nat) (N0 : List (List Nat)) (wp wt : Nat) (P T : List Nat) (pv : Int32) (x3 : Int32) (u vt : Nat → Nat → Int32) (w : Nat → Nat → Int64) (M : Nat) (Fs : List Sbs) : Prop :=
  ∃ (E : List (List Nat)) (BR : List BRN) (M0 Mb : Nat) (cs : Sbs → Prop),
    TBK vt w las so ma un nv (N0 ++ E) ∧ vt 0 1 = nI hd ∧ (∀ e ∈ E, AL e) ∧ u 0 0 = nI wp ∧ u 0 1 = nI wt ∧ u 0 3 = nI BR.length ∧ FND u (N0 ++ E) pv Fs ∧ (∀ f ∈ Fs, MTG so un P T f) ∧
    BRS so ma un nv AL P T u (N0 ++ E) BR ∧ BRV so un las P BR Mb ∧ CUR las so ma un nv AL P T u (N0 ++ E) BR x3 M0 cs ∧ M0 + Mb ≤ M ∧
    ∀ sg : Sbs, MTG so un P T sg → (∃ f ∈ Fs, key pv f = key pv sg) ∨ cs sg ∨ ∃ b ∈ BR, ∃ wy : Nat, brK b ≤ wy ∧ wy < brL b ∧ SW so un (brR b) (brC b) (brB b) (brP b) wy sg
theorem BRS_len {so ma : Nat → Nat} {un : Nat → Option Nat} {nv : Nat} {AL : List Nat → Prop} {P T : List Nat} {u : Nat → Nat → Int32} {N : List (List Nat)} {BR : List BRN} (h : BRS so ma un nv AL P T u N BR) : BR.length ≤ 20 := by
  cases BR with
  | nil => exact Nat.zero_le _
  | cons b BR =>
    have := h.2.2.1.2.2.2.2.2.2.2.1
    rw [List.length_cons]; omega
/-- a goal is met -/
theorem run_goal {n i no nv hd wp wt M : Nat} {ga u vt : Nat → Nat → Int32} {w : Nat → Nat → Int64} {las : Nat → Bool} {so ma : Nat → Nat} {un : Nat → Option Nat} {nmL : Nat → List Nat} {AL : List Nat → Prop} {N0 E : List (List Nat)} {P T : List Nat} {pv x3 : Int32} {Fs : List Sbs} {BR : List BRN} {Mb d G m0 : Nat} {be : Bnd} {g : GoalC} {C0 : List GoalC} (hx : RCX n ga las so ma un no nv nmL AL hd N0 wp wt P T pv) (hi : i < 100000000)
    (h1 : TBK vt w las so ma un nv (N0 ++ E)) (h2 : vt 0 1 = nI hd) (h3 : ∀ e ∈ E, AL e) (h4 : u 0 0 = nI wp) (h5 : u 0 1 = nI wt) (h6 : u 0 3 = nI BR.length) (h7 : FND u (N0 ++ E) pv Fs) (h8 : ∀ f ∈ Fs, MTG so un P T f) (h9 : BRS so ma un nv AL P T u (N0 ++ E) BR) (h10 : BRV so un las P BR Mb)
    (c1 : CHN u (N0 ++ E) (g :: C0) G x3) (c2 : u 0 2 = nI G) (c3 : BDG u (N0 ++ E) be) (c4 : GOK AL so ma un nv (g :: C0)) (c5 : VPC so P (g :: C0)) (c6 : DMP P be) (c7 : LOW BR be G) (c8 : G + pot so (g :: C0) ≤ 78) (c9 : BR.length + sgC so (g :: C0) ≤ 19) (c10 : ∀ sg : Sbs, SolG so un (g :: C0) be sg → MTG so un P T sg) (c11 : MV so un las P d (g :: C0) be m0) (hM : m0 + Mb ≤ M)
    (hc : ∀ sg : Sbs, MTG so un P T sg → (∃ f ∈ Fs, key pv f = key pv sg) ∨ SolG so un (g :: C0) be sg ∨ ∃ b ∈ BR, ∃ wy : Nat, brK b ≤ wy ∧ wy < brL b ∧ SW so un (brR b) (brC b) (brB b) (brP b) wy sg) :
    ∃ (x' : Int32) (u' vt' : Nat → Nat → Int32) (w' : Nat → Nat → Int64) (M' : Nat), M' + 1 ≤ M ∧ INV las so ma un nv AL hd N0 wp wt P T pv x' u' vt' w' M' Fs ∧
      ∀ (p0 p1 : Int32) (k : Int32 → Int32 → (Nat → Nat → Int32) → (Nat → Nat → Int32) → (Nat → Nat → Int64) → Option (Int32 × (Nat → Nat → Int32) × (Nat → Nat → Int32) × (Nat → Nat → Int64))), bx_X0_run_57 n ga p0 p1 k x3 (nI i) u vt w = k x' (nI (i + 1)) u' vt' w' := by
  obtain ⟨r1, r2, r3, r4, r5, r6, ⟨r7, r8⟩, ⟨r9, r10⟩, r11⟩ := hx
  have nd := h1.1.2.2.1
  have hN := r6 E nd h3
  have wpE := nth_pre (B := E) r7
  have wtE := nth_pre (B := E) r9
  have bl := BRS_len h9
  obtain ⟨j, j1, j2, ⟨a, a1, a2, a3⟩, j4, ⟨b, b1, b2, b3⟩, j6⟩ := c1
  cases d with
  | zero => exact c11.elim
  | succ d =>
  obtain ⟨m1, m2, m3⟩ := c11
  have pc : 1 ≤ pot so (g :: C0) := by
    show 1 ≤ 4 * sgm so g + 1 + pot so C0
    omega
  have hG : G ≤ 200 := by omega
  have hsnd : ∀ sg : Nat → List Nat, SolG so un (g :: C0) be sg → von so un sg (nth (N0 ++ E) wp) ∧ fil so un sg (nth (N0 ++ E) wp) = nth (N0 ++ E) wt := fun sg hs => by
    rw [wpE.2, wtE.2, r8, r10]; exact c10 sg hs
  have key1 : ∃ o : MRs, OUTC las so ma un nv AL P hd u (N0 ++ E) (g :: C0) be G BR.length o ∧ ∀ (p0 p1 : Int32) (k : Int32 → Int32 → (Nat → Nat → Int32) → (Nat → Nat → Int32) → (Nat → Nat → Int64) → Option (Int32 × (Nat → Nat → Int32) × (Nat → Nat → Int32) × (Nat → Nat → Int64))), bx_X0_run_57 n ga p0 p1 k x3 (nI i) u vt w = xb4 o fun r m t z => k r (nI (i + 1)) m t z := by
    have kk := fx_kindAt_c (n := n) r2 h1 a1
    rw [a2] at kk
    have hkle : kd so g.1 ≤ 2 := by
      unfold kd
      split
      · omega
      · have tp := (c4 g List.mem_cons_self).1
        exact (ENV_op r2 (tp.1.1.2.2 _ (hd0_mem tp.1.1.1) (by omega)).1).2.2
    have pre : ∀ (p0 p1 : Int32) (k : Int32 → Int32 → (Nat → Nat → Int32) → (Nat → Nat → Int32) → (Nat → Nat → Int64) → Option (Int32 × (Nat → Nat → Int32) × (Nat → Nat → Int32) × (Nat → Nat → Int64))), bx_X0_run_57 n ga p0 p1 k x3 (nI i) u vt w = (if nI (kd so g.1) = (2 : Int32) then (xb4 (fx_X0_meetSum n u vt w ga (nI j)) fun r m t z => k r (nI (i + 1)) m t z) else (xb4 (fx_X0_meetPlain n u vt w ga (nI j)) fun r m t z => k r (nI (i + 1)) m t z)) := fun p0 p1 k => by
      unfold bx_X0_run_57
      have f5 := h7.1
      have f6 := h7.2.1
      rw [if_neg (by rw [show (100000000 : Int32) = nI 100000000 from rfl, nI_le_iff (by decide) (by omega)]; omega), f5, if_neg (by rw [show (300 : Int32) = nI 300 from rfl, nI_lt_iff (by decide) (by omega)]; omega), j2, if_neg (by rw [show (0 : Int32) = nI 0 from rfl, nI_lt_iff (by omega) (by decide)]; omega), if_neg (by rw [show (256 : Int32) = nI 256 from rfl, nI_le_iff (by decide) (by omega)]; omega), xr_n (by omega) (by decide), a3, kk, xb1_s]
      simp only [xl_eq, nI_1]
    by_cases k2 : kd so g.1 = 2
    · refine ⟨_, fx_meetSum_c (i := j) r1 r2 r4 h1 h2 r5 hN c3 j1 hG c2 a1 a2 a3 b1 b2 b3 j4 j6 c4 h6 (by omega) k2 h4 wpE.1 |> (fun z => by rw [wpE.2, r8] at z; exact z), fun p0 p1 k => ?_⟩
      rw [pre, if_pos (by rw [k2]; rfl)]
    · refine ⟨_, fx_meetPlain_c (i := j) r1 r2 r3 h1 h2 r5 hN c3 j1 hG c2 a1 a2 a3 b1 b2 b3 j4 j6 c4 h6 (by omega) k2 ((c5 g List.mem_cons_self).2 k2) h4 wpE.1 h5 wtE.1 hsnd |> (fun z => by rw [wpE.2, r8] at z; exact z), fun p0 p1 k => ?_⟩
      rw [pre, if_neg (by rw [show (2 : Int32) = nI 2 from rfl, nI_inj (by omega) (by decide)]; exact k2)]
  obtain ⟨o, ⟨x', u', vt', w', E', o1, o2, o3, o4, o5, o6⟩, o7⟩ := key1
  have hE2 : ∀ e ∈ E ++ E', AL e := fun e he => by
    rcases List.mem_append.mp he with z | z
    · exact h3 e z
    · exact o4 e z
  have fr := BRS_frame (u' := u') o5.1 o5.2.1 o5.2.2.1 c7 h9
  have fr2 := BRS_ext (E := E') fr
  have fnd2 : FND u' (N0 ++ E ++ E') pv Fs := FND_ext (FND_frame h7 o5.2.2.2.2.2.2 o5.2.2.2.1.1 o5.2.2.2.1.2)
  rw [List.append_assoc] at o2 fr2 fnd2 o6
  have eq9 : ∀ (p0 p1 : Int32) (k : Int32 → Int32 → (Nat → Nat → Int32) → (Nat → Nat → Int32) → (Nat → Nat → Int64) → Option (Int32 × (Nat → Nat → Int32) × (Nat → Nat → Int32) × (Nat → Nat → Int64))), bx_X0_run_57 n ga p0 p1 k x3 (nI i) u vt w = k x' (nI (i + 1)) u' vt' w' := fun p0 p1 k => by
    rw [o7, o1]; rfl
  have u00 : u' 0 0 = nI wp := o5.2.2.2.2.1.trans h4
  have u01 : u' 0 1 = nI wt := o5.2.2.2.2.2.1.trans h5
  rcases o6 with ⟨q1, C2, be2, G2, q2, q3, q4, q5, q6, q7, q8, q9, q10, q11⟩ | ⟨q1, q2, q3⟩ | ⟨q1, q2, R, C1, bp, lim, G2, q3, q4, q5, q6, q7, q8, q9, q10⟩
  · obtain ⟨m4, m5, m6⟩ := m2 C2 be2 q2
    have vp := VPC_det c4 c5 c6 q2
    refine ⟨x', u', vt', w', M - 1, by omega, ⟨E ++ E', BR, m4, Mb, SolG so un C2 be2, o2, o3, hE2, u00, u01, q1.trans h6, fnd2, h8, fr2, h10, Or.inr ⟨C2, be2, G2, d, q3, q4, q6, q8, vp.1, vp.2, LOW_up c7 (fun v hv hn => by rw [q7 v hv hn]; exact hn) q5, by omega, by omega, fun sg hs => c10 sg ((q11 sg).mpr hs), m6, fun sg => Iff.rfl⟩, by omega, fun sg hs => ?_⟩, eq9⟩
    rcases hc sg hs with z | z | z
    · exact Or.inl z
    · exact Or.inr (Or.inl ((q11 sg).mp z))
    · exact Or.inr (Or.inr z)
  · refine ⟨x', u', vt', w', M - 1, by omega, ⟨E ++ E', BR, 0, Mb, fun _ => False, o2, o3, hE2, u00, u01, q1.trans h6, fnd2, h8, fr2, h10, Or.inl ⟨q2, fun _ h => h⟩, by omega, fun sg hs => ?_⟩, eq9⟩
    rcases hc sg hs with z | z | z
    · exact Or.inl z
    · exact absurd z (q3 sg)
    · exact Or.inr (Or.inr z)
  · obtain ⟨f, f1, f2⟩ := m3 R C1 bp lim q3
    have bk := BKN_brc q3
    have tR := (q7 R List.mem_cons_self).1
    have tS := (q7 R List.mem_cons_self).2.1
    have hsv := r2.2.1
    have hs2 := fun (o : Nat) (h : so o ≠ 3) => (ENV_op r2 h).2.2
    have lim64 : lim ≤ 64 := by
      rcases bk with ⟨_, _, e, _⟩ | ⟨k1, _, _, e⟩
      · omega
      · have h6H := flat1_6 (op := opn R.1) hsv hs2 (sum_ar tR k1).2.1 tS
        rw [e]
        split
        · omega
        · exact pow64 h6H
    have vp := VPC_brc c5 q3
    have bdm : BDM (u 0 4) (u' 5) (N0 ++ (E ++ E')) be := fun v hv => by
      rcases q6 v hv with ⟨z1, z2⟩ | ⟨r, y, z1, z2, z3, z4, z5⟩
      · rcases c3 v hv with ⟨y1, y2⟩ | ⟨r, y, y1, _⟩
        · exact Or.inl ⟨y1, y2⟩
        · rw [z1] at y1; exact nomatch y1
      · rcases c3 v hv with ⟨y1, y2⟩ | ⟨_, _, y1, y2, _⟩
        · rw [z1] at y1; exact nomatch y1
        · exact Or.inr ⟨r, y, z1, y2, z3, z4, z5⟩
    refine ⟨x', u', vt', w', M - 1, by omega, ⟨E ++ E', (R, C1, be, bp, lim, 0, G2, u 0 4) :: BR, 0, 1 + sm f 0 lim + Mb, fun _ => False, o2, o3, hE2, u00, u01, q1, fnd2, h8, ⟨q4, bdm, ⟨q7, vp, c6, Nat.zero_le _, lim64, bk, ?_, ?_, fun sg hs => c10 sg ((q10 sg).mpr hs)⟩, LOW_up c7 (fun v hv hn => hn) q5, fr2⟩, ⟨d, f, Mb, Nat.le_refl _, fun wy _ hw C2 be2 hW => f2 wy hw C2 be2 hW, h10⟩, Or.inl ⟨q2, fun _ h => h⟩, by omega, fun sg hs => ?_⟩, eq9⟩
    · show G2 + pot so (R :: C1) ≤ 79
      omega
    · show BR.length + sgC so (R :: C1) ≤ 19
      omega
    rcases hc sg hs with z | z | ⟨b', z1, z2⟩
    · exact Or.inl z
    · refine Or.inr (Or.inr ⟨_, List.mem_cons_self, ?_⟩)
      have zs := (q10 sg).mp z
      show ∃ wy : Nat, 0 ≤ wy ∧ wy < lim ∧ SW so un R C1 be bp wy sg
      rcases bk with ⟨k1, e1, e2, e3⟩ | ⟨k1, e1, e2, e3⟩
      · obtain ⟨wy, w1, w2⟩ := (pair_iff hsv tR tS k1 e3).mp zs
        rw [e1, e2]
        exact ⟨wy, Nat.zero_le _, w1, w2⟩
      · obtain ⟨s1, s2, s3, s4⟩ := sum_ar tR k1
        obtain ⟨p1, p2, p3⟩ := ENV_op r2 (op := opn R.1) (by omega)
        obtain ⟨wy, w1, w2⟩ := sum_cover hsv hs2 tR tS k1 ⟨p2, by omega⟩ (e1 bp e2).1 e2 e3 zs
        exact ⟨wy, Nat.zero_le _, w1, w2⟩
    · exact Or.inr (Or.inr ⟨b', List.mem_cons_of_mem _ z1, z2⟩)
