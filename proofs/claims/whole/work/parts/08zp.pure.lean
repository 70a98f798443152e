/-! ===== the matcher: a part of a sum's pattern gets some parts of its target ===== -/
theorem partOf_some {n a i : Nat} {v : Nat → Nat → Int32} {w : Nat → Nat → Int64} {las : Nat → Bool} {N : List (List Nat)} (h : TB v w las N) (ha : a < N.length) (hi : i < 6) : fx_X8_partOf n v (nI a) (nI i) = some (v 4 (6 * a + i)) := by
  have h1 := h.1
  unfold fx_X8_partOf
  rw [if_neg (by rw [show (0 : Int32) = nI 0 from rfl, nI_lt_iff (by omega) (by decide)]; omega), h.2.1, if_neg (by rw [nI_le_iff (by omega) (by omega)]; omega), if_neg (by rw [show (1024 : Int32) = nI 1024 from rfl, nI_le_iff (by decide) (by omega)]; omega), if_neg (by rw [show (0 : Int32) = nI 0 from rfl, nI_lt_iff (by omega) (by decide)]; omega), if_neg (by rw [show (6 : Int32) = nI 6 from rfl, nI_le_iff (by decide) (by omega)]; omega), xl_eq, show (6 : Int32) = nI 6 from rfl, nI_mul (by omega) (by omega) (by decide), xl_eq, nI_add, xr_n (by omega) (by decide), show a * 6 + i = 6 * a + i by omega]
def repl (k : Nat) (q : List Nat) : List (List Nat) := List.replicate k q
/-- what stands after some places of the pattern were looked at -/
def SHI (so : Nat → Nat) (un : Nat → Option Nat) (p : List Nat) (left : Nat) (T : List Nat) (bp : Nat) (S : List Nat) (i lf rs : Nat) : Prop :=
  lf < 64 ∧ rs < 64 ∧ (∀ j : Nat, lf.testBit j = true → left.testBit j = true) ∧ (∀ j : Nat, (flat1 so un (opn p) T).length ≤ j → rs.testBit j = false) ∧
    (∃ k : Nat, (sl left (pts p)).Perm (repl k (nth (pts p) bp) ++ sl lf (pts p)) ∧ (flat1 so un (opn p) T).Perm (flats so un (opn p) (repl k S) ++ sl rs (flat1 so un (opn p) T)) ∧ (bp < i → 1 ≤ k) ∧ (sto so un (nth (pts p) bp) ≠ 0 → k ≤ 1 ∧ (bp ≥ i → k = 0))) ∧
    (bp < i → lf.testBit bp = false) ∧ (sto so un (nth (pts p) bp) = 0 → ∀ z : Nat, z < i → lf.testBit z = true → nth (pts p) z ≠ nth (pts p) bp) ∧ ∀ z : Nat, i ≤ z → lf.testBit z = left.testBit z
theorem map_repl {f : List Nat → List Nat} {k : Nat} {q : List Nat} : (repl k q).map f = repl k (f q) := by
  unfold repl; rw [List.map_replicate]
theorem SHI_sem {so ma : Nat → Nat} {un : Nat → Option Nat} {nv left bp i lf rs : Nat} {sg : Nat → List Nat} {p T S : List Nat} (hsv : SV so un ma nv) (hp : tok so un ma nv p) (hk : kd so p = 2) (ho : opn p < 10 ∧ so (opn p) ≠ 3) (ht : tok so un ma nv T) (hne : sl left (pts p) ≠ []) (hbp : left.testBit bp = true) (hbl : bp < (pts p).length) (hM : SHI so un p left T bp S i lf rs) (hv : von so un sg (nth (pts p) bp)) (hS : fil so un sg (nth (pts p) bp) = S) :
    gsat so un sg (p, left, T) ↔ (∀ q ∈ sl lf (pts p), von so un sg q) ∧ (flats so un (opn p) ((sl lf (pts p)).map (fil so un sg))).Perm (sl rs (flat1 so un (opn p) T)) := by
  obtain ⟨m1, m2, m3, m4, ⟨k, g1, g2, g3, g4⟩, m5, m6, m7⟩ := hM
  rw [gsum_iff hsv hp hk ho ht hne]
  have pm : (flats so un (opn p) ((sl left (pts p)).map (fil so un sg))).Perm (flats so un (opn p) (repl k S) ++ flats so un (opn p) ((sl lf (pts p)).map (fil so un sg))) := by
    have := flats_perm (so := so) (un := un) (op := opn p) (g1.map (fil so un sg))
    rw [List.map_append, flats_app, map_repl, hS] at this
    exact this
  constructor
  · rintro ⟨a, b⟩
    exact ⟨fun q hq => a q (g1.mem_iff.mpr (List.mem_append_right _ hq)), (List.perm_append_left_iff _).mp ((pm.symm.trans b).trans g2)⟩
  · rintro ⟨a, b⟩
    refine ⟨fun q hq => ?_, (pm.trans (List.Perm.append_left _ b)).trans g2.symm⟩
    rcases List.mem_append.mp (g1.mem_iff.mp hq) with h | h
    · unfold repl at h
      rw [(List.mem_replicate.mp h).2]; exact hv
    · exact a q h
theorem lx_sh234_c {n a b y gi bk bp left wy no nv : Nat} {ga u vt : Nat → Nat → Int32} {w : Nat → Nat → Int64} {las : Nat → Bool} {N : List (List Nat)} {so ma : Nat → Nat} {un : Nat → Option Nat} {nmL : Nat → List Nat} {p T S : List Nat} {q : Nat} {x9 x10 : Int32} (hn : 100000 ≤ n) (he : ENV ga las so ma un no nv nmL) (hT : TBK vt w las so ma un nv N) (ha : a < N.length) (ha2 : nth N a = p) (hb9 : b < N.length) (hb2 : nth N b = T) (hy : y < N.length) (hy2 : nth N y = S) (hq : q < N.length) (hq2 : nth N q = nth (pts p) bp) (hk : kd so p = 2) (hl : left < 64) (hlb : ∀ j : Nat, (pts p).length ≤ j → left.testBit j = false) (hbp : left.testBit bp = true) (hbk : bk < 64) (h7 : u 7 bk = nI bp) (hne : sl left (pts p) ≠ []) :
    ∀ (d i m lf rs : Nat), i + d = 6 → d + 1 < m → SHI so un p left T bp S i lf rs →
      ((∀ sg : Nat → List Nat, von so un sg (nth (pts p) bp) → fil so un sg (nth (pts p) bp) = S → ¬ gsat so un sg (p, left, T)) ∧ lx_X0_share_234 n ga (nI bk) m (nI gi) (nI a) (nI b) (nI (opn p)) (nI q) (nI (sto so un (nth (pts p) bp))) (nI wy) x9 x10 (nI y) (nI lf) (nI rs) (nI i) u vt w = some (-2, u, vt, w)) ∨
      ∃ (lf' rs' : Nat) (x14 : Int32), SHI so un p left T bp S 6 lf' rs' ∧ lx_X0_share_234 n ga (nI bk) m (nI gi) (nI a) (nI b) (nI (opn p)) (nI q) (nI (sto so un (nth (pts p) bp))) (nI wy) x9 x10 (nI y) (nI lf) (nI rs) (nI i) u vt w =
        (if nI (sto so un (nth (pts p) bp)) = 0 then (jx_X0_share_357 n ga (nI bk) (nI gi) (nI a) (nI b) (nI (opn p)) (nI q) (nI (sto so un (nth (pts p) bp))) (nI wy) x9 x10 (nI y) (nI lf') (nI rs') x14 u vt w) else (xb1 (fx_X0_fits n u vt w (nI q) (nI y)) fun r_58 => if r_58 = (0 : Int32) then (some ((-2 : Int32), u, vt, w)) else (jx_X0_share_357 n ga (nI bk) (nI gi) (nI a) (nI b) (nI (opn p)) (nI q) (nI (sto so un (nth (pts p) bp))) (nI wy) x9 x10 (nI y) (nI lf') (nI rs') x14 u vt w)))
  | 0, i, m + 1, lf, rs, hid, _, hM => by
    have ei : i = 6 := by omega
    subst ei
    refine Or.inr ⟨lf, rs, nI 6, hM, ?_⟩
    have hrs := hM.2.1
    show bx_X0_share_234 n ga (nI bk) (lx_X0_share_234 n ga (nI bk) m) (nI gi) (nI a) (nI b) (nI (opn p)) (nI q) (nI (sto so un (nth (pts p) bp))) (nI wy) x9 x10 (nI y) (nI lf) (nI rs) (nI 6) u vt w = _
    unfold bx_X0_share_234
    rw [if_pos (by decide), if_neg (by rw [show (0 : Int32) = nI 0 from rfl, nI_lt_iff (by omega) (by decide)]; omega)]
  | d + 1, i, m + 1, lf, rs, hid, hm, hM => by
    have hsv := he.2.1
    have hsu := SV_SU hsv
    have hs2 := fun (o : Nat) (h : so o ≠ 3) => (ENV_op he h).2.2
    have h1 := hT.1.1
    have tp := hT.2 _ (nth_mem ha)
    have tt := hT.2 _ (nth_mem hb9)
    rw [ha2] at tp
    rw [hb2] at tt
    obtain ⟨s1, s2, s3, s4⟩ := sum_ar tp hk
    obtain ⟨o1, o2, o3⟩ := ENV_op he (op := opn p) (by omega)
    have hoo : opn p < 10 ∧ so (opn p) ≠ 3 := ⟨o2, by omega⟩
    have h6 : (pts p).length ≤ 6 := by rw [pts_len tp.1.1.1]; exact (tok_ar hsv hs2 tp _ (hd0_mem tp.1.1.1)).1
    have bpl : bp < (pts p).length := by
      apply Classical.byContradiction
      intro g
      rw [hlb _ (by omega)] at hbp; exact nomatch hbp
    have hMs := hM
    obtain ⟨m1, m2, m3, m4, ⟨k, g1, g2, g3, g4⟩, m5, m6, m7⟩ := hM
    have hst2 : sto so un (nth (pts p) bp) ≤ 2 := by unfold sto; split; omega; split <;> omega
    -- nothing is taken here
    have skip : (lf.testBit i = true → i ≠ bp ∧ (sto so un (nth (pts p) bp) = 0 → nth (pts p) i ≠ nth (pts p) bp)) → SHI so un p left T bp S (i + 1) lf rs := fun hsk => by
      refine ⟨m1, m2, m3, m4, ⟨k, g1, g2, fun h => ?_, fun h => ⟨(g4 h).1, fun h2 => (g4 h).2 (by omega)⟩⟩, fun h => ?_, fun h0 z hz hz2 => ?_, fun z hz => m7 z (by omega)⟩
      · by_cases e : bp = i
        · have hb := m7 i (Nat.le_refl _)
          rw [← e, hbp] at hb
          exact absurd e.symm (hsk (by rw [← e]; exact hb)).1
        · exact g3 (by omega)
      · by_cases e : bp = i
        · have hb := m7 i (Nat.le_refl _)
          rw [← e, hbp] at hb
          exact absurd e.symm (hsk (by rw [← e]; exact hb)).1
        · exact m5 (by omega)
      · by_cases e : z = i
        · rw [e] at hz2 ⊢
          exact (hsk hz2).2 h0
        · exact m6 h0 z (by omega) hz2
    have goSkip : (lf.testBit i = true → i ≠ bp ∧ (sto so un (nth (pts p) bp) = 0 → nth (pts p) i ≠ nth (pts p) bp)) → _ := fun hsk => lx_sh234_c (n := n) (gi := gi) (wy := wy) (x9 := x9) (x10 := x10) hn he hT ha ha2 hb9 hb2 hy hy2 hq hq2 hk hl hlb hbp hbk h7 hne d (i + 1) m lf rs (by omega) (by omega) (skip hsk)
    -- a part is taken here
    have take : lf.testBit i = true → i < (pts p).length → nth (pts p) i = nth (pts p) bp → (sto so un (nth (pts p) bp) ≠ 0 → i = bp) →
        ((∀ sg : Nat → List Nat, von so un sg (nth (pts p) bp) → fil so un sg (nth (pts p) bp) = S → ¬ gsat so un sg (p, left, T)) ∧ jx_X0_share_282 n ga (nI bk) (lx_X0_share_234 n ga (nI bk) m) (nI gi) (nI a) (nI b) (nI (opn p)) (nI q) (nI (sto so un (nth (pts p) bp))) (nI wy) x9 x10 (nI y) (nI lf) (nI rs) (nI i) 1 u vt w = some (-2, u, vt, w)) ∨
        ∃ (lf' rs' : Nat) (x14 : Int32), SHI so un p left T bp S 6 lf' rs' ∧ jx_X0_share_282 n ga (nI bk) (lx_X0_share_234 n ga (nI bk) m) (nI gi) (nI a) (nI b) (nI (opn p)) (nI q) (nI (sto so un (nth (pts p) bp))) (nI wy) x9 x10 (nI y) (nI lf) (nI rs) (nI i) 1 u vt w =
          (if nI (sto so un (nth (pts p) bp)) = 0 then (jx_X0_share_357 n ga (nI bk) (nI gi) (nI a) (nI b) (nI (opn p)) (nI q) (nI (sto so un (nth (pts p) bp))) (nI wy) x9 x10 (nI y) (nI lf') (nI rs') x14 u vt w) else (xb1 (fx_X0_fits n u vt w (nI q) (nI y)) fun r_58 => if r_58 = (0 : Int32) then (some ((-2 : Int32), u, vt, w)) else (jx_X0_share_357 n ga (nI bk) (nI gi) (nI a) (nI b) (nI (opn p)) (nI q) (nI (sto so un (nth (pts p) bp))) (nI wy) x9 x10 (nI y) (nI lf') (nI rs') x14 u vt w))) := fun hb hil hqi hibp => by
      obtain ⟨c1, c2, c3⟩ := clr_ok ⟨lf, m1⟩ ⟨i, by omega⟩
      have c2' : (nI lf &&& (((1 : Int32) <<< (nI i &&& 31)) ^^^ (-1))) = nI (clr lf i) := c2
      have cb : ∀ j : Nat, (clr lf i).testBit j = (lf.testBit j && decide (j ≠ i)) := fun j => by
        by_cases g : j < 6
        · exact c3 ⟨j, g⟩
        · rw [bit_hi c1 (by omega), bit_hi m1 (by omega)]; rfl
      have sc := sel_clr (s := lf) (s' := clr lf i) (i := i) (qs := pts p) (k := 0) (Nat.zero_le _) (by omega) hb (by rw [cb i]; simp) (fun j hj _ _ => by rw [cb j]; simp [hj])
      rw [Nat.sub_zero, hqi] at sc
      unfold jx_X0_share_282
      rw [xl_eq, xl_eq, if_neg (fun z => by rw [(bit0 m1 (by omega)).mp z] at hb; exact nomatch hb), if_neg (by decide), xl_eq, xl_eq, xl_eq, c2']
      have wo := fx_without_c (n := n) (bits := rs) (op := opn p) hn he hT.1 hb9 hy s2 m2 (by rw [hb2]; exact m4)
      rw [hb2, hy2] at wo
      rcases wo with ⟨rs', r1, r2, r3, r4⟩ | ⟨r1, r2⟩
      · rw [r3, xb1_s, xl_eq, nI_1]
        refine lx_sh234_c (n := n) (gi := gi) (wy := wy) (x9 := x9) (x10 := x10) hn he hT ha ha2 hb9 hb2 hy hy2 hq hq2 hk hl hlb hbp hbk h7 hne d (i + 1) m (clr lf i) rs' (by omega) (by omega) ⟨c1, r1, fun j hj => ?_, fun j hj => ?_, ⟨k + 1, ?_, ?_, fun _ => by omega, fun h => ?_⟩, fun h => ?_, fun h0 z hz hz2 => ?_, fun z hz => ?_⟩
        · rw [cb j] at hj
          exact m3 j (by simp at hj; exact hj.1)
        · cases hq9 : rs'.testBit j with
          | false => rfl
          | true => have := r2 j hq9; rw [m4 j hj] at this; exact nomatch this
        · have e : repl (k + 1) (nth (pts p) bp) = repl k (nth (pts p) bp) ++ [nth (pts p) bp] := List.replicate_succ'
          rw [e, List.append_assoc]
          exact g1.trans (List.Perm.append_left _ sc)
        · have e : repl (k + 1) S = repl k S ++ [S] := List.replicate_succ'
          rw [e, flats_app]
          show (flat1 so un (opn p) T).Perm (_ ++ (flat1 so un (opn p) S ++ []) ++ _)
          rw [List.append_nil, List.append_assoc]
          exact g2.trans (List.Perm.append_left _ r4)
        · have := hibp h
          have := (g4 h).2 (by omega)
          exact ⟨by omega, fun h2 => by omega⟩
        · rw [cb bp]
          by_cases e : bp = i
          · simp [e]
          · rw [m5 (by omega)]; rfl
        · rw [cb z] at hz2
          have hz3 : lf.testBit z = true ∧ z ≠ i := by simpa using hz2
          exact m6 h0 z (by omega) hz3.1
        · rw [cb z, m7 z (by omega)]
          simp [show z ≠ i by omega]
      · rw [r1, xb1_s, xl_eq, nI_1]
        refine Or.inl ⟨fun sg hv hS hs => ?_, ?_⟩
        · obtain ⟨a1, a2⟩ := (SHI_sem hsv tp hk hoo tt hne hbp bpl hMs hv hS).mp hs
          have e1 := flats_perm (so := so) (un := un) (op := opn p) (sc.map (fil so un sg))
          rw [List.map_cons, hS] at e1
          exact r2 _ (a2.symm.trans e1)
        · obtain ⟨m', hm'⟩ : ∃ m' : Nat, m = m' + 1 := ⟨m - 1, by omega⟩
          rw [hm']
          show bx_X0_share_234 n ga (nI bk) (lx_X0_share_234 n ga (nI bk) m') (nI gi) (nI a) (nI b) (nI (opn p)) (nI q) (nI (sto so un (nth (pts p) bp))) (nI wy) x9 x10 (nI y) (nI (clr lf i)) (-1) (nI (i + 1)) u vt w = _
          unfold bx_X0_share_234
          by_cases g : (6 : Int32) ≤ nI (i + 1)
          · rw [if_pos g, if_pos (by decide)]
          · rw [if_neg g, if_pos (by decide), if_pos (by decide)]
    -- a clear bit: nothing
    have clear : lf.testBit i = false → ∀ z0 : Int32, jx_X0_share_282 n ga (nI bk) (lx_X0_share_234 n ga (nI bk) m) (nI gi) (nI a) (nI b) (nI (opn p)) (nI q) (nI (sto so un (nth (pts p) bp))) (nI wy) x9 x10 (nI y) (nI lf) (nI rs) (nI i) z0 u vt w = lx_X0_share_234 n ga (nI bk) m (nI gi) (nI a) (nI b) (nI (opn p)) (nI q) (nI (sto so un (nth (pts p) bp))) (nI wy) x9 x10 (nI y) (nI lf) (nI rs) (nI (i + 1)) u vt w := fun hb z0 => by
      unfold jx_X0_share_282
      rw [xl_eq, xl_eq, if_pos ((bit0 m1 (by omega)).mpr hb), xl_eq, nI_1]
    have hsh : lx_X0_share_234 n ga (nI bk) (m + 1) (nI gi) (nI a) (nI b) (nI (opn p)) (nI q) (nI (sto so un (nth (pts p) bp))) (nI wy) x9 x10 (nI y) (nI lf) (nI rs) (nI i) u vt w = bx_X0_share_234 n ga (nI bk) (lx_X0_share_234 n ga (nI bk) m) (nI gi) (nI a) (nI b) (nI (opn p)) (nI q) (nI (sto so un (nth (pts p) bp))) (nI wy) x9 x10 (nI y) (nI lf) (nI rs) (nI i) u vt w := rfl
    rw [hsh]
    unfold bx_X0_share_234
    rw [if_neg (by rw [show (6 : Int32) = nI 6 from rfl, nI_le_iff (by decide) (by omega)]; omega), if_neg (by rw [show (0 : Int32) = nI 0 from rfl, nI_lt_iff (by omega) (by decide)]; omega), xr_n hbk (by decide), h7]
    cases hb : lf.testBit i with
    | false =>
      have cl0 := clear hb
      have gs := goSkip (fun h => by rw [hb] at h; exact nomatch h)
      by_cases e : i = bp
      · rw [if_pos (by rw [e]), cl0]; exact gs
      · rw [if_neg (by rw [nI_inj (by omega) (by omega)]; exact e)]
        by_cases l0 : sto so un (nth (pts p) bp) = 0
        · rw [if_pos (by rw [l0]; rfl), partOf_some hT.1 ha (by omega), xb1_s]
          by_cases r : vt 4 (6 * a + i) = nI q
          · rw [if_pos r, cl0]; exact gs
          · rw [if_neg r, cl0]; exact gs
        · rw [if_neg (by rw [show (0 : Int32) = nI 0 from rfl, nI_inj (by omega) (by decide)]; exact l0), cl0]; exact gs
    | true =>
      have il : i < (pts p).length := by
        apply Classical.byContradiction
        intro g
        have := m3 i hb
        rw [hlb _ (by omega)] at this; exact nomatch this
      by_cases e : i = bp
      · rw [if_pos (by rw [e])]
        exact take hb il (by rw [e]) (fun _ => e)
      · rw [if_neg (by rw [nI_inj (by omega) (by omega)]; exact e)]
        have no282 : jx_X0_share_282 n ga (nI bk) (lx_X0_share_234 n ga (nI bk) m) (nI gi) (nI a) (nI b) (nI (opn p)) (nI q) (nI (sto so un (nth (pts p) bp))) (nI wy) x9 x10 (nI y) (nI lf) (nI rs) (nI i) 0 u vt w = lx_X0_share_234 n ga (nI bk) m (nI gi) (nI a) (nI b) (nI (opn p)) (nI q) (nI (sto so un (nth (pts p) bp))) (nI wy) x9 x10 (nI y) (nI lf) (nI rs) (nI (i + 1)) u vt w := by
          unfold jx_X0_share_282
          rw [xl_eq, xl_eq, if_neg (fun z => by rw [(bit0 m1 (by omega)).mp z] at hb; exact nomatch hb), if_pos rfl, xl_eq, nI_1]
        by_cases l0 : sto so un (nth (pts p) bp) = 0
        · obtain ⟨r, r1, r2, r3⟩ := fx_partOf_c (n := n) hT.1 ha (j := i) (by rw [ha2, ← pts_len tp.1.1.1]; exact il)
          rw [ha2] at r2
          rw [if_pos (by rw [l0]; rfl), r3, xb1_s]
          by_cases z : r = q
          · rw [if_pos (by rw [z])]
            exact take hb il (by rw [← r2, z, hq2]) (fun h => absurd l0 h)
          · rw [if_neg (by rw [nI_inj (by omega) (by omega)]; exact z), no282]
            exact goSkip (fun _ => ⟨e, fun _ e9 => z (nth_inj hT.1.2.2.1 (by omega) hq (by rw [r2, hq2, e9]))⟩)
        · rw [if_neg (by rw [show (0 : Int32) = nI 0 from rfl, nI_inj (by omega) (by decide)]; exact l0), no282]
          exact goSkip (fun _ => ⟨e, fun h => absurd h l0⟩)
