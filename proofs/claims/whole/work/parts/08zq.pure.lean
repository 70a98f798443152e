/-! ===== the matcher: share, whole ===== -/
def chs (so : Nat → Nat) (un : Nat → Option Nat) (q : List Nat) (wy : Nat) : Nat := if sto so un q = 2 then 2 ^ wy else wy
/-- what a way asks -/
def SW (so : Nat → Nat) (un : Nat → Option Nat) (R : GoalC) (C0 : List GoalC) (be : Nat → Option (List Nat)) (bp wy : Nat) (sg : Nat → List Nat) : Prop :=
  if kd so R.1 = 1 then extS be sg ∧ (∀ z ∈ C0, gsat so un sg z) ∧ ∃ p1 p2 t1 t2 : List Nat, pts R.1 = [p1, p2] ∧ pts R.2.2 = [t1, t2] ∧ (wy = 1 → t1 ≠ t2) ∧ von so un sg p1 ∧ von so un sg p2 ∧ ((wy = 0 ∧ fil so un sg p1 = t1 ∧ fil so un sg p2 = t2) ∨ (wy = 1 ∧ fil so un sg p1 = t2 ∧ fil so un sg p2 = t1))
  else SolG so un (R :: C0) be sg ∧ FST (chs so un (nth (pts R.1) bp) wy) (flat1 so un (opn R.1) R.2.2) ∧ fil so un sg (nth (pts R.1) bp) = SS so un (opn R.1) R.2.2 (chs so un (nth (pts R.1) bp) wy)
/-- which goals a way leaves -/
def WAY (so : Nat → Nat) (un : Nat → Option Nat) (R : GoalC) (C0 : List GoalC) (be : Nat → Option (List Nat)) (bp wy : Nat) (C2 : List GoalC) (be2 : Nat → Option (List Nat)) : Prop :=
  (kd so R.1 = 1 ∧ be2 = be ∧ ∃ p1 p2 t1 t2 : List Nat, pts R.1 = [p1, p2] ∧ pts R.2.2 = [t1, t2] ∧ C2 = (if wy = 0 then (p1, 63, t1) :: (p2, 63, t2) :: C0 else (p1, 63, t2) :: (p2, 63, t1) :: C0)) ∨
  (kd so R.1 = 2 ∧ ∃ lf rs : Nat, (lf < 64 ∧ (∀ j : Nat, lf.testBit j = true → R.2.1.testBit j = true) ∧ lf.testBit bp = false) ∧ ((rs < 64 ∧ (∀ j : Nat, (flat1 so un (opn R.1) R.2.2).length ≤ j → rs.testBit j = false) ∧ ∃ k : Nat, 1 ≤ k ∧ (sto so un (nth (pts R.1) bp) ≠ 0 → k = 1) ∧ (sl R.2.1 (pts R.1)).Perm (repl k (nth (pts R.1) bp) ++ sl lf (pts R.1)) ∧ (flat1 so un (opn R.1) R.2.2).Perm (flats so un (opn R.1) (repl k (SS so un (opn R.1) R.2.2 (chs so un (nth (pts R.1) bp) wy))) ++ sl rs (flat1 so un (opn R.1) R.2.2))) ∧ FST (chs so un (nth (pts R.1) bp) wy) (flat1 so un (opn R.1) R.2.2)) ∧
    ((sto so un (nth (pts R.1) bp) = 0 ∧ ∃ c : Nat, nth (pts R.1) bp = [c] ∧ c < 5 ∧ be c = none ∧ (∀ z : Nat, lf.testBit z = true → nth (pts R.1) z ≠ [c]) ∧ be2 = bup be c (SS so un (opn R.1) R.2.2 (chs so un (nth (pts R.1) bp) wy)) ∧ C2 = remC so un R.1 lf R.2.2 rs ++ C0) ∨
     (sto so un (nth (pts R.1) bp) ≠ 0 ∧ (sto so un (nth (pts R.1) bp) = 2 → opI (hd0 (SS so un (opn R.1) R.2.2 (chs so un (nth (pts R.1) bp) wy))) = opI (hd0 (nth (pts R.1) bp))) ∧ be2 = be ∧ C2 = (nth (pts R.1) bp, 63, SS so un (opn R.1) R.2.2 (chs so un (nth (pts R.1) bp) wy)) :: (remC so un R.1 lf R.2.2 rs ++ C0))))
/-- what a way becomes -/
def WOUT (las : Nat → Bool) (so ma : Nat → Nat) (un : Nat → Option Nat) (nv : Nat) (AL : List Nat → Prop) (hd : Nat) (u : Nat → Nat → Int32) (N : List (List Nat)) (R : GoalC) (C0 : List GoalC) (be : Nat → Option (List Nat)) (gu nb bp wy : Nat) (o : MRs) : Prop :=
  ∃ (x' : Int32) (u' vt' : Nat → Nat → Int32) (w' : Nat → Nat → Int64) (E : List (List Nat)), o = some (x', u', vt', w') ∧ TBK vt' w' las so ma un nv (N ++ E) ∧ vt' 0 1 = nI hd ∧ (∀ e ∈ E, AL e) ∧ FRM u u' gu be nb ∧ u' 0 3 = u 0 3 ∧
    ((∃ (C2 : List GoalC) (be2 : Nat → Option (List Nat)) (G2 : Nat), WAY so un R C0 be bp wy C2 be2 ∧ CHN u' (N ++ E) C2 G2 x' ∧ u' 0 2 = nI G2 ∧ gu ≤ G2 ∧ BDG u' (N ++ E) be2 ∧ (∀ v : Nat, v < 5 → be v ≠ none → be2 v = be v) ∧ GOK AL so ma un nv C2 ∧ G2 + pot so C2 + 1 ≤ gu + pot so (R :: C0) ∧ sgC so C2 + 1 ≤ sgC so (R :: C0) ∧ ∀ sg : Nat → List Nat, SW so un R C0 be bp wy sg ↔ SolG so un C2 be2 sg) ∨
     (x' = -2 ∧ ∀ sg : Nat → List Nat, ¬ SW so un R C0 be bp wy sg))
theorem repl_flats {so : Nat → Nat} {un : Nat → Option Nat} {op k : Nat} {S : List Nat} (h : 1 ≤ k) : ∃ X : List (List Nat), flats so un op (repl k S) = flat1 so un op S ++ X := by
  obtain ⟨k', hk'⟩ : ∃ k' : Nat, k = k' + 1 := ⟨k - 1, by omega⟩
  rw [hk']
  exact ⟨flats so un op (repl k' S), rfl⟩
theorem fx_share_c {n bk gi a b wp wt no nv hd gu nb bp wy : Nat} {ga u vt : Nat → Nat → Int32} {w : Nat → Nat → Int64} {las : Nat → Bool} {N : List (List Nat)} {so ma : Nat → Nat} {un : Nat → Option Nat} {nmL : Nat → List Nat} {be : Nat → Option (List Nat)} {AL : List Nat → Prop} {R : GoalC} {C0 : List GoalC} (hn : 100000 ≤ n) (he : ENV ga las so ma un no nv nmL) (hALs : ∀ (t : List Nat) (op bits : Nat), tok so un ma nv t → AL t → op < 10 → so op = 2 → (sl bits (flat1 so un op t) = [] → un op ≠ none) → AL (SS so un op t bits)) (hT : TBK vt w las so ma un nv N) (hst : vt 0 1 = nI hd) (hN : N.length + 30 ≤ 1024) (hB : BDG u N be) (hbk : bk < 64) (hgi : u 6 bk = nI gi) (hgi2 : gi < gu) (hgu : gu ≤ 200) (hG : u 0 2 = nI gu) (h7 : u 7 bk = nI bp) (h8 : u 8 bk = nI wy) (ha : a < N.length) (ha2 : nth N a = R.1) (ea : u 1 gi = nI a) (hb9 : b < N.length) (hb2 : nth N b = R.2.2) (eb : u 3 gi = nI b) (hL : u 2 gi = nI R.2.1 ∧ R.2.1 < 64) (hC0 : CHN u N C0 gi (u 4 gi)) (hgok : GOK AL so ma un nv (R :: C0)) (hk : kd so R.1 = 2) (hlf : ∀ i : Nat, R.2.1.testBit i = true → i < (pts R.1).length ∧ nong be (nth (pts R.1) i)) (hbp : R.2.1.testBit bp = true) (hlim : wy < (if sto so un (nth (pts R.1) bp) = 2 then (flat1 so un (opn R.1) R.2.2).length else 2 ^ (flat1 so un (opn R.1) R.2.2).length)) (hw0 : u 0 0 = nI wp) (hwp : wp < N.length) (hw1 : u 0 1 = nI wt) (hwt : wt < N.length) (hsnd : ∀ sg : Nat → List Nat, SolG so un (R :: C0) be sg → von so un sg (nth N wp) ∧ fil so un sg (nth N wp) = nth N wt) :
    WOUT las so ma un nv AL hd u N R C0 be gu nb bp wy (fx_X0_share n u vt w ga (nI bk)) := by
  obtain ⟨p, left, T⟩ := R
  have ha2 : nth N a = p := ha2
  have hb2 : nth N b = T := hb2
  have hL : u 2 gi = nI left ∧ left < 64 := hL
  have hk : kd so p = 2 := hk
  have hlf : ∀ i : Nat, left.testBit i = true → i < (pts p).length ∧ nong be (nth (pts p) i) := hlf
  have hbp : left.testBit bp = true := hbp
  have hlim : wy < (if sto so un (nth (pts p) bp) = 2 then (flat1 so un (opn p) T).length else 2 ^ (flat1 so un (opn p) T).length) := hlim
  have hsv := he.2.1
  have hsu := SV_SU hsv
  have hs2 := fun (o : Nat) (h : so o ≠ 3) => (ENV_op he h).2.2
  have h1 := hT.1.1
  have tp : tok so un ma nv p := (hgok _ List.mem_cons_self).1
  have tt : tok so un ma nv T := (hgok _ List.mem_cons_self).2.1
  have alt : AL T := (hgok _ List.mem_cons_self).2.2.1
  have hne : sl left (pts p) ≠ [] := (hgok _ List.mem_cons_self).2.2.2 hk
  have hgok0 : GOK AL so ma un nv C0 := fun q hq => hgok q (List.mem_cons_of_mem _ hq)
  obtain ⟨s1, s2, s3, s4⟩ := sum_ar tp hk
  obtain ⟨o1, o2, o3⟩ := ENV_op he (op := opn p) (by omega)
  have hoo : opn p < 10 ∧ so (opn p) ≠ 3 := ⟨o2, by omega⟩
  have pl := pts_len tp.1.1.1
  have h6 : (pts p).length ≤ 6 := by rw [pl]; exact (tok_ar hsv hs2 tp _ (hd0_mem tp.1.1.1)).1
  have h6H := flat1_6 (op := opn p) hsv hs2 s2 tt
  have hlb : ∀ j : Nat, (pts p).length ≤ j → left.testBit j = false := fun j hj => by
    cases hq : left.testBit j with
    | false => rfl
    | true => have := (hlf j hq).1; omega
  have bpl := (hlf bp hbp).1
  have hnb := (hlf bp hbp).2
  have tq : tok so un ma nv (nth (pts p) bp) := tok_pts tp _ (nth_mem bpl)
  have lq := tok_len tq
  obtain ⟨q, q1, q2, q3⟩ := fx_partOf_c (n := n) hT.1 ha (j := bp) (by rw [ha2, ← pl]; exact bpl)
  rw [ha2] at q2
  have hqN : q < N.length := by omega
  have soq := fx_sortOf_c (n := n) he hT hqN
  rw [q2] at soq
  have hst2 : sto so un (nth (pts p) bp) ≤ 2 := by unfold sto; split; omega; split <;> omega
  have nda := (TB_get hT.1 ha).1
  have hcp := nda.2.1 _ (hd0_mem nda.1)
  rw [ha2] at hcp
  have co := fx_codeOf_c (n := n) hT.1 ha
  rw [ha2] at co
  have ndq := (TB_get hT.1 hqN).1
  have hcq := ndq.2.1 _ (hd0_mem ndq.1)
  rw [q2] at hcq
  have coq := fx_codeOf_c (n := n) hT.1 hqN
  rw [q2] at coq
  have p2m : 0 < 2 ^ (flat1 so un (opn p) T).length := Nat.pow_pos (by decide)
  have pow6 := pow64 h6H
  have chlt : chs so un (nth (pts p) bp) wy < 2 ^ (flat1 so un (opn p) T).length := by
    unfold chs
    by_cases z : sto so un (nth (pts p) bp) = 2
    · rw [if_pos z] at hlim ⊢
      exact Nat.pow_lt_pow_right (by decide) hlim
    · rw [if_neg z] at hlim ⊢; exact hlim
  have ch64 : chs so un (nth (pts p) bp) wy < 64 := Nat.lt_of_lt_of_le chlt pow6
  have wy64 : wy < 64 := by
    by_cases z : sto so un (nth (pts p) bp) = 2
    · rw [if_pos z] at hlim; omega
    · rw [if_neg z] at hlim; omega
  have chb : ∀ k : Nat, (flat1 so un (opn p) T).length ≤ k → (chs so un (nth (pts p) bp) wy).testBit k = false := fun k hk9 => Nat.testBit_lt_two_pow (Nat.lt_of_lt_of_le chlt (Nat.pow_le_pow_right (by decide) hk9))
  have swE : ∀ sg : Nat → List Nat, SW so un (p, left, T) C0 be bp wy sg ↔ SolG so un ((p, left, T) :: C0) be sg ∧ FST (chs so un (nth (pts p) bp) wy) (flat1 so un (opn p) T) ∧ fil so un sg (nth (pts p) bp) = SS so un (opn p) T (chs so un (nth (pts p) bp) wy) := fun sg => by
    unfold SW
    rw [if_neg (by show ¬ kd so p = 1; omega)]
  have vonq : ∀ sg : Nat → List Nat, SolG so un ((p, left, T) :: C0) be sg → von so un sg (nth (pts p) bp) := fun sg hs => by
    have h9 := hs.2 _ List.mem_cons_self
    rw [gsum_iff hsv tp hk hoo tt hne] at h9
    refine h9.1 _ ?_
    have : ∀ (qs : List (List Nat)) (k i : Nat), i < qs.length → left.testBit (k + i) = true → nth qs i ∈ sel left false k qs := by
      intro qs
      induction qs with
      | nil => intro k i hi _; exact absurd hi (Nat.not_lt_zero _)
      | cons x qs ih =>
        intro k i hi hb
        show nth (x :: qs) i ∈ (if left.testBit k = false then sel left false (k + 1) qs else x :: sel left false (k + 1) qs)
        cases i with
        | zero =>
          rw [Nat.add_zero] at hb
          rw [hb, if_neg (by decide)]
          exact List.mem_cons_self
        | succ i =>
          rw [List.length_cons] at hi
          have g := ih (k + 1) i (by omega) (by rw [show k + 1 + i = k + (i + 1) by omega]; exact hb)
          have e : nth (x :: qs) (i + 1) = nth qs i := rfl
          rw [e]
          by_cases z : left.testBit k = false
          · rw [if_pos z]; exact g
          · rw [if_neg z]; exact List.mem_cons_of_mem _ g
    exact this (pts p) 0 bp bpl (by rw [Nat.zero_add]; exact hbp)
  have dead : ∀ (u' vt' : Nat → Nat → Int32) (w' : Nat → Nat → Int64) (E : List (List Nat)), TBK vt' w' las so ma un nv (N ++ E) → vt' 0 1 = nI hd → (∀ e ∈ E, AL e) → FRM u u' gu be nb → u' 0 3 = u 0 3 → (∀ sg : Nat → List Nat, ¬ SW so un (p, left, T) C0 be bp wy sg) → WOUT las so ma un nv AL hd u N (p, left, T) C0 be gu nb bp wy (some (-2, u', vt', w')) := fun u' vt' w' E e1 e2 e3 e4 e5 e6 => ⟨-2, u', vt', w', E, rfl, e1, e2, e3, e4, e5, Or.inr ⟨rfl, e6⟩⟩
  have dead0 : (∀ sg : Nat → List Nat, ¬ SW so un (p, left, T) C0 be bp wy sg) → WOUT las so ma un nv AL hd u N (p, left, T) C0 be gu nb bp wy (some (-2, u, vt, w)) := dead u vt w [] (by rw [List.append_nil]; exact hT) hst (fun e h => absurd h List.not_mem_nil) FRM.refl rfl
  -- the walk up to the choice
  have st : fx_X0_share n u vt w ga (nI bk) = jx_X0_share_113 n ga (nI bk) (nI gi) (nI a) (nI b) (nI (opn p)) (nI q) (nI (sto so un (nth (pts p) bp))) (nI wy) (nI (chs so un (nth (pts p) bp) wy)) u vt w := by
    unfold fx_X0_share
    rw [if_neg (by rw [show (0 : Int32) = nI 0 from rfl, nI_lt_iff (by omega) (by decide)]; omega), if_neg (by rw [show (64 : Int32) = nI 64 from rfl, nI_le_iff (by decide) (by omega)]; omega), xr_n hbk (by decide), hgi]
    unfold jx_X0_share_20
    rw [if_neg (by rw [show (0 : Int32) = nI 0 from rfl, nI_lt_iff (by omega) (by decide)]; omega), if_pos (by rw [show (256 : Int32) = nI 256 from rfl, nI_lt_iff (by omega) (by decide)]; omega), xr_n (by omega) (by decide), xr_n (by omega) (by decide), ea, eb, co, xb1_s, fx_operatorIn_c hcp, xb1_s, opI_op s1, xr_n hbk (by decide), h7, q3, xb1_s, soq, xb1_s, xr_n hbk (by decide), h8]
    unfold chs
    by_cases z : sto so un (nth (pts p) bp) = 2
    · have pw9 : (1 : Int32) <<< (nI wy &&& 31) = nI (2 ^ wy) := pw32 ⟨wy, by rw [if_pos z] at hlim; omega⟩
      rw [if_pos (by rw [z]; rfl), xl_eq, pw9, if_pos z]; rfl
    · rw [if_neg (by rw [show (2 : Int32) = nI 2 from rfl, nI_inj (by omega) (by decide)]; exact z), if_neg z]; rfl
  rw [st]
  generalize hch : chs so un (nth (pts p) bp) wy = ch at *
  unfold jx_X0_share_113
  rcases fx_isFirst_c (n := n) (bits := ch) hn he hT.1 hb9 s2 ch64 (by rw [hb2]; exact chb) with ⟨f1, f2⟩ | ⟨f1, f2⟩
  · rw [hb2] at f1
    rw [f2, xb1_s, if_neg (by decide)]
    have main : (sl ch (flat1 so un (opn p) T) = [] → un (opn p) ≠ none) → WOUT las so ma un nv AL hd u N (p, left, T) C0 be gu nb bp wy (jx_X0_share_151 n ga (nI bk) (nI gi) (nI a) (nI b) (nI (opn p)) (nI q) (nI (sto so un (nth (pts p) bp))) (nI wy) (nI ch) u vt w) := fun hu => by
      obtain ⟨y, v1, w1, E, y1, y2, y3, y4, y5, y6, y7⟩ := fx_subSum_c (n := n) (op := opn p) (bits := ch) hn he hT hb9 s2 (by omega) ch64 (by rw [hb2]; exact chb) (by rw [hb2]; exact hu)
      rw [hb2] at y3 y5
      have tkS := SS_tok (bits := ch) hsv hs2 hoo s2 tt hu
      have alS := hALs T (opn p) ch tt alt o2 s2 hu
      have fS := SS_flat (bits := ch) hsv hoo s2 tt hu
      generalize hS : SS so un (opn p) T ch = S at *
      have hEA : ∀ e ∈ E, AL e := fun e h => by
        rcases y3 with g | g
        · rw [g] at h; exact absurd h List.not_mem_nil
        · rw [g] at h; rw [List.mem_singleton.mp h]; exact alS
      have hEl : E.length ≤ 1 := by
        rcases y3 with g | g
        · rw [g]; exact Nat.zero_le _
        · rw [g]; exact Nat.le_refl _
      have st1 : v1 0 1 = nI hd := by rw [y7 1 (by decide)]; exact hst
      have fr0 : FRM u u gu be nb := FRM.refl
      unfold jx_X0_share_151
      rw [coq, xb1_s, y1, xb3_s]
      have co1 := fx_codeOf_c (n := n) y2.1 y4
      rw [y5] at co1
      have nd1 := (TB_get y2.1 y4).1
      have hcS := nd1.2.1 _ (hd0_mem nd1.1)
      rw [y5] at hcS
      -- the rest of the walk
      have rest : (sto so un (nth (pts p) bp) = 2 → opI (hd0 S) = opI (hd0 (nth (pts p) bp))) → WOUT las so ma un nv AL hd u N (p, left, T) C0 be gu nb bp wy (jx_X0_share_206 n ga (nI bk) (nI gi) (nI a) (nI b) (nI (opn p)) (nI q) (nI (sto so un (nth (pts p) bp))) (nI wy) (nI ch) (nI (cc (hd0 (nth (pts p) bp)))) (nI y) u v1 w1) := fun hrig => by
        have hTb := y2
        have hNE : (N ++ E).length + 20 ≤ 1024 := by rw [List.length_append]; omega
        obtain ⟨c1, c2, c3⟩ := asSum_c (n := n) (ga := ga) (un := un) he y2.1 (nth_pre (B := E) hb9).1 s2
        rw [(nth_pre hb9).2, hb2] at c1
        have pwm : (1 : Int32) <<< (nI (flat1 so un (opn p) T).length &&& 31) = nI (2 ^ (flat1 so un (opn p) T).length) := pw32 ⟨(flat1 so un (opn p) T).length, by omega⟩
        have mb : ∀ j : Nat, (2 ^ (flat1 so un (opn p) T).length - 1).testBit j = decide (j < (flat1 so un (opn p) T).length) := fun j => Nat.testBit_two_pow_sub_one _ _
        have full : sl (2 ^ (flat1 so un (opn p) T).length - 1) (flat1 so un (opn p) T) = flat1 so un (opn p) T := sel_full (fun j _ hj => by rw [mb, decide_eq_true (by omega)])
        have M0 : SHI so un p left T bp S 0 left (2 ^ (flat1 so un (opn p) T).length - 1) := ⟨hL.2, by omega, fun j hj => hj, fun j hj => by rw [mb]; exact decide_eq_false (by omega), ⟨0, List.Perm.refl _, by rw [full]; exact List.Perm.refl _, fun h => absurd h (Nat.not_lt_zero _), fun _ => ⟨by omega, fun _ => rfl⟩⟩, fun h => absurd h (Nat.not_lt_zero _), fun _ z hz => absurd hz (Nat.not_lt_zero _), fun z _ => rfl⟩
        unfold jx_X0_share_206
        rw [xr_n (by omega) (by decide), hL.1, c1, xb1_s, xl_eq, pwm, xl_eq, i1, nI_sub (by omega)]
        have e0 : nI 0 = (0 : Int32) := rfl
        have lp := lx_sh234_c (n := n) (gi := gi) (bk := bk) (u := u) (wy := wy) (x9 := nI ch) (x10 := nI (cc (hd0 (nth (pts p) bp)))) (left := left) (bp := bp) (S := S) hn he y2 (nth_pre (B := E) ha).1 (((nth_pre (B := E) ha).2).trans ha2) (nth_pre (B := E) hb9).1 (((nth_pre (B := E) hb9).2).trans hb2) y4 y5 (nth_pre (B := E) hqN).1 (((nth_pre (B := E) hqN).2).trans q2) hk hL.2 hlb hbp hbk h7 hne 6 0 n left (2 ^ (flat1 so un (opn p) T).length - 1) rfl (by omega) M0
        rw [e0] at lp
        have hSWg : ∀ sg : Nat → List Nat, SW so un (p, left, T) C0 be bp wy sg → extS be sg ∧ gsat so un sg (p, left, T) ∧ (∀ z ∈ C0, gsat so un sg z) ∧ von so un sg (nth (pts p) bp) ∧ fil so un sg (nth (pts p) bp) = S := fun sg hs => by
          rw [swE] at hs
          exact ⟨hs.1.1, hs.1.2 _ List.mem_cons_self, fun z hz => hs.1.2 z (List.mem_cons_of_mem _ hz), vonq sg hs.1, hs.2.2⟩
        rcases lp with ⟨l1, l2⟩ | ⟨lf, rs, x14, l1, l2⟩
        · rw [l2]
          exact dead u v1 w1 E y2 st1 hEA FRM.refl rfl (fun sg hs => by
            obtain ⟨a1, a2, a3, a4, a5⟩ := hSWg sg hs
            exact l1 sg a4 a5 a2)
        · rw [l2]
          have l1s := l1
          obtain ⟨m1, m2, m3, m4, ⟨k, g1, g2, g3, g4⟩, m5, m6, m7⟩ := l1s
          have bp6 : bp < 6 := by omega
          have k1 := g3 bp6
          have hlfb : ∀ j : Nat, (pts p).length ≤ j → lf.testBit j = false := fun j hj => by
            cases hq : lf.testBit j with
            | false => rfl
            | true => have := m3 j hq; rw [hlb j hj] at this; exact nomatch this
          have semR : ∀ sg : Nat → List Nat, von so un sg (nth (pts p) bp) → fil so un sg (nth (pts p) bp) = S → (gsat so un sg (p, left, T) ↔ OKR so un p T lf rs ∧ ∀ z ∈ remC so un p lf T rs, gsat so un sg z) := fun sg hv hS9 => by
            rw [SHI_sem hsv tp hk hoo tt hne hbp bpl l1 hv hS9]
            exact rem_sem hsv hs2 tp hk hoo tt m1 hlfb m2 m4
          have fl9 : (nth (pts p) bp).length + (sl lf (pts p)).flatten.length ≤ (sl left (pts p)).flatten.length := by
            have := (g1.flatten).length_eq
            rw [List.flatten_append, List.length_append] at this
            obtain ⟨k', hk'⟩ : ∃ k' : Nat, k = k' + 1 := ⟨k - 1, by omega⟩
            have e : (repl k (nth (pts p) bp)).flatten = nth (pts p) bp ++ (repl k' (nth (pts p) bp)).flatten := by rw [hk']; rfl
            rw [e, List.length_append] at this
            omega
          have hqp := wf_pos tq.1.1.1
          have rsg := remC_sg (un := un) (left := lf) (rest := rs) (t := T) hsv hs2 tp hk
          have rln := remC_len (so := so) (un := un) (p := p) (t := T) (left := lf) (rest := rs)
          have potC : pot so ((p, left, T) :: C0) = 4 * (sl left (pts p)).flatten.length + 1 + pot so C0 := by
            show 4 * sgm so (p, left, T) + 1 + pot so C0 = _
            unfold sgm; rw [if_pos hk]
          have sgCC : sgC so ((p, left, T) :: C0) = (sl left (pts p)).flatten.length + sgC so C0 := by
            show sgm so (p, left, T) + sgC so C0 = _
            unfold sgm; rw [if_pos hk]
          have lnil := sl_nil m1 hlfb
          have hSS : OKR so un p T lf rs → lf ≠ 0 → tok so un ma nv (SS so un (opn p) T rs) ∧ AL (SS so un (opn p) T rs) := fun ok h0 => by
            have hu9 : sl rs (flat1 so un (opn p) T) = [] → un (opn p) ≠ none := fun e hn9 => by
              have := ok.2 h0 hn9
              rw [e] at this
              exact h0 (lnil.mp (List.length_eq_zero_iff.mp (by simpa using this)))
            exact ⟨SS_tok hsv hs2 hoo s2 tt hu9, hALs T (opn p) rs tt alt o2 s2 hu9⟩
          have RS : (rs < 64 ∧ (∀ j : Nat, (flat1 so un (opn p) T).length ≤ j → rs.testBit j = false) ∧ ∃ k : Nat, 1 ≤ k ∧ (sto so un (nth (pts p) bp) ≠ 0 → k = 1) ∧ (sl left (pts p)).Perm (repl k (nth (pts p) bp) ++ sl lf (pts p)) ∧ (flat1 so un (opn p) T).Perm (flats so un (opn p) (repl k S) ++ sl rs (flat1 so un (opn p) T))) ∧ FST ch (flat1 so un (opn p) T) :=
            ⟨⟨m2, m4, k, k1, fun h => by have := (g4 h).1; omega, g1, g2⟩, f1⟩
          have LS : lf < 64 ∧ (∀ j : Nat, lf.testBit j = true → left.testBit j = true) ∧ lf.testBit bp = false := ⟨m1, m3, m5 bp6⟩
          by_cases l0 : sto so un (nth (pts p) bp) = 0
          · -- a variable
            rw [if_pos (by rw [l0]; rfl)]
            have hq5 : hd0 (nth (pts p) bp) < 512 := by
              apply Classical.byContradiction
              intro g
              unfold sto at l0
              rw [if_neg g] at l0
              split at l0 <;> omega
            have hc5 : hd0 (nth (pts p) bp) < 5 := by rcases tq.1.1.2.1 _ (hd0_mem tq.1.1.1) with z | z <;> omega
            have hleaf : nth (pts p) bp = [hd0 (nth (pts p) bp)] := by
              have r := row_pts tq.1.1.1
              have hl : (pts (nth (pts p) bp)).flatten = [] := leaf_row (so := so) (by rw [← r]; exact tq.1.1) (by unfold ar; rw [if_pos hq5])
              rw [hl] at r; exact r
            generalize hcv : hd0 (nth (pts p) bp) = c at *
            have hbn : be c = none := by
              obtain ⟨d, d1, d2, d3⟩ := hnb
              rw [hleaf] at d1
              rw [List.mem_singleton.mp d1] at d3; exact d3
            obtain ⟨u1, z1, z2, z3, z4, z5⟩ := fx_bind_c (n := n) (BDG_ext (E := E) hB) hc5 y4 y5
            obtain ⟨rf, f3, f4, f5⟩ := fx_fits_c (n := n) hn he y2 z2 (nth_pre (B := E) hwp).1 (nth_pre (B := E) hwt).1
            have frm : FRM u u1 gu be nb := ⟨fun z h1 h4 j _ => by rw [z3 z (by omega) (by omega)], fun v hv hb9 => z5 v (fun e => by rw [e] at hb9; exact hb9 hbn), fun z h6 _ j _ => by rw [z3 z (by omega) (by omega)], ⟨z3 12 (by decide) (by decide), z3 13 (by decide) (by decide)⟩, z4 0 (by decide), z4 1 (by decide), z4 5 (by decide)⟩
            have extE : ∀ sg : Nat → List Nat, (extS be sg ∧ sg c = S) ↔ extS (bup be c S) sg := fun sg => by
              constructor
              · rintro ⟨x1, x2⟩ v hv r hr
                by_cases z : v = c
                · rw [z, bup_eq] at hr
                  rw [z, x2, Option.some.inj hr]
                · rw [bup_ne z] at hr; exact x1 v hv r hr
              · intro x
                refine ⟨fun v hv r hr => ?_, x c hc5 S bup_eq⟩
                have z : v ≠ c := fun e => by rw [e, hbn] at hr; exact nomatch hr
                exact x v hv r (by rw [bup_ne z]; exact hr)
            have filq : ∀ sg : Nat → List Nat, fil so un sg (nth (pts p) bp) = sg c := fun sg => by rw [hleaf]; exact fil_var hq5
            unfold jx_X0_share_357
            rw [if_pos (by rw [l0]; rfl), cc_v hq5, z1, xb1_s, z4 0 (by decide), z4 1 (by decide), hw0, hw1, f3, xb1_s]
            by_cases k0 : rf = 0
            · rw [if_pos k0]
              refine dead u1 v1 w1 E y2 st1 hEA frm (z4 3 (by decide)) (fun sg hs => ?_)
              obtain ⟨a1, a2, a3, a4, a5⟩ := hSWg sg hs
              rw [swE] at hs
              have h9 := hsnd sg hs.1
              have := f5 ⟨sg, (extE sg).mp ⟨a1, (filq sg).symm.trans a5⟩, by rw [(nth_pre hwp).2, (nth_pre hwt).2]; exact h9⟩
              rw [k0] at this; exact absurd this (by decide)
            · rw [if_neg k0]
              rcases fx_remainder_c (n := n) (i := gi) (u := u1) (t := T) (G := gu) (C0 := C0) hn he y2 st1 (by omega) (by omega) (by omega) (by rw [z4 2 (by decide)]; exact hG) (nth_pre (B := E) ha).1 (((nth_pre (B := E) ha).2).trans ha2) (by rw [z3 1 (by decide) (by decide)]; exact ea) (nth_pre (B := E) hb9).1 (((nth_pre (B := E) hb9).2).trans hb2) (by rw [z3 3 (by decide) (by decide)]; exact eb) (by rw [z3 4 (by decide) (by decide)]; exact CHN_top (CHN_frame (fun z h1 h4 j _ => by rw [z3 z (by omega) (by omega)]) (CHN_ext hC0)) (by omega)) hk m1 hlfb m2 m4 with ⟨ok, x', u', vt2, w2, E', G', r1, r2, r3, r4, r5, r6, r7, r8, r9, r10⟩ | ⟨bad, r1⟩
              · rw [r1, xb4_s]
                have gk := remC_gok (rest := rs) (t := T) (un := un) hsv hs2 tp (hSS ok) m1 hlfb
                refine ⟨x', u', vt2, w2, E ++ E', rfl, by rw [← List.append_assoc]; exact r2, r3, fun e h => ?_, FRM.trans frm (FRM_go r8), by rw [r8.2.2 3 (by decide), z4 3 (by decide)], Or.inl ⟨remC so un p lf T rs ++ C0, bup be c S, G', Or.inr ⟨hk, lf, rs, LS, by rw [hch, hS]; exact RS, Or.inl ⟨l0, c, hleaf, hc5, hbn, fun z hz => ?_, by rw [hch, hS], rfl⟩⟩, by rw [← List.append_assoc]; exact r5, r6, by omega, by rw [← List.append_assoc]; exact BDG_frame (BDG_ext z2) (r8.2.2 4 (by decide)) (r8.2.1 5 (by decide)), fun v hv hnn => bup_ne (fun e => by rw [e] at hnn; exact hnn hbn), fun z hz => ?_, ?_, ?_, fun sg => ?_⟩⟩
                · rcases List.mem_append.mp h with h | h
                  · exact hEA e h
                  · obtain ⟨d1, d2⟩ := r4 e h
                    rw [d2]; exact (hSS ok d1).2
                · have z6 : z < 6 := by
                    apply Classical.byContradiction
                    intro g
                    rw [bit_hi m1 (by omega)] at hz; exact nomatch hz
                  have := m6 l0 z z6 hz
                  rw [hleaf] at this; exact this
                · rcases List.mem_append.mp hz with h | h
                  · exact gk z h
                  · exact hgok0 z h
                · rw [pot_app, pot_sg (C := remC so un p lf T rs), potC]
                  by_cases z : (sl lf (pts p)).length = 1
                  · rw [if_pos z] at rsg; omega
                  · rw [if_neg z] at rsg; omega
                · rw [sgC_app, sgCC]; omega
                · constructor
                  · intro hs
                    obtain ⟨a1, a2, a3, a4, a5⟩ := hSWg sg hs
                    refine ⟨(extE sg).mp ⟨a1, (filq sg).symm.trans a5⟩, fun z hz => ?_⟩
                    rcases List.mem_append.mp hz with h | h
                    · exact ((semR sg a4 a5).mp a2).2 z h
                    · exact a3 z h
                  · rintro ⟨x1, x2⟩
                    obtain ⟨a1, a2⟩ := (extE sg).mpr x1
                    have a5 : fil so un sg (nth (pts p) bp) = S := (filq sg).trans a2
                    have a4 : von so un sg (nth (pts p) bp) := fun d hd9 h5 => by
                      rw [hleaf] at hd9
                      rw [List.mem_singleton.mp hd9, a2]
                      exact ⟨tkS.1, tok_len tkS⟩
                    rw [swE]
                    refine ⟨⟨a1, fun z hz => ?_⟩, f1, a5⟩
                    rcases List.mem_cons.mp hz with h | h
                    · rw [h]
                      exact (semR sg a4 a5).mpr ⟨ok, fun z hz => x2 z (List.mem_append_left _ hz)⟩
                    · exact x2 z (List.mem_append_right _ h)
              · rw [r1, xb4_s]
                refine dead u1 v1 w1 E y2 st1 hEA frm (z4 3 (by decide)) (fun sg hs => ?_)
                obtain ⟨a1, a2, a3, a4, a5⟩ := hSWg sg hs
                exact bad ((semR sg a4 a5).mp a2).1
          · -- a sum or one part
            have l0' : ¬ nI (sto so un (nth (pts p) bp)) = 0 := by rw [show (0 : Int32) = nI 0 from rfl, nI_inj (by omega) (by decide)]; exact l0
            obtain ⟨rf, f3, f4, f5⟩ := fx_fits_c (n := n) hn he y2 (BDG_ext (E := E) hB) (nth_pre (B := E) hqN).1 y4
            rw [if_neg l0', f3, xb1_s]
            by_cases k0 : rf = 0
            · rw [if_pos k0]
              refine dead u v1 w1 E y2 st1 hEA FRM.refl rfl (fun sg hs => ?_)
              obtain ⟨a1, a2, a3, a4, a5⟩ := hSWg sg hs
              have := f5 ⟨sg, a1, by rw [(nth_pre hqN).2, q2, y5]; exact ⟨a4, a5⟩⟩
              rw [k0] at this; exact absurd this (by decide)
            · rw [if_neg k0]
              unfold jx_X0_share_357
              rw [if_neg l0']
              rcases fx_remainder_c (n := n) (i := gi) (u := u) (t := T) (G := gu) (C0 := C0) hn he y2 st1 (by omega) (by omega) (by omega) hG (nth_pre (B := E) ha).1 (((nth_pre (B := E) ha).2).trans ha2) ea (nth_pre (B := E) hb9).1 (((nth_pre (B := E) hb9).2).trans hb2) eb (CHN_top (CHN_ext hC0) (by omega)) hk m1 hlfb m2 m4 with ⟨ok, x', u', vt2, w2, E', G', r1, r2, r3, r4, r5, r6, r7, r8, r9, r10⟩ | ⟨bad, r1⟩
              · have hx2 : ¬ x' = -2 := fun e => by
                  rcases CHN_x r5 (by omega) with ⟨g, _⟩ | ⟨i', i1', i2', _⟩
                  · rw [g] at e; exact absurd e (by decide)
                  · rw [i2'] at e
                    have : (nI i').toInt = (-2 : Int32).toInt := by rw [e]
                    rw [nI_toInt (by omega)] at this
                    have h2 : (-2 : Int32).toInt = -2 := rfl
                    omega
                obtain ⟨u2, t1, t2, t3, t4⟩ := fx_addGoal_c (n := n) (L := 63) (a := q) (b := y) (p := nth (pts p) bp) (t := S) r6 (by omega) r2.1.1 (nth_pre (B := E') (nth_pre (B := E) hqN).1).1 (((nth_pre (B := E') (nth_pre (B := E) hqN).1).2).trans (((nth_pre (B := E) hqN).2).trans q2)) (nth_pre (B := E') y4).1 (((nth_pre (B := E') y4).2).trans y5) (by decide) r5
                have t1' : fx_X0_addGoal n u' (nI q) 63 (nI y) x' = some (nI G', u2) := t1
                rw [r1, xb4_s, if_neg hx2, t1', xb2_s]
                have gk := remC_gok (rest := rs) (t := T) (un := un) hsv hs2 tp (hSS ok) m1 hlfb
                have h6q : (pts (nth (pts p) bp)).length ≤ 6 := by rw [pts_len tq.1.1.1]; exact (tok_ar hsv hs2 tq _ (hd0_mem tq.1.1.1)).1
                have sgq : sgm so (nth (pts p) bp, 63, S) = (nth (pts p) bp).length - 1 := by
                  unfold sgm
                  by_cases z : kd so (nth (pts p) bp) = 2
                  · rw [if_pos z]
                    show (sl 63 (pts (nth (pts p) bp))).flatten.length = _
                    rw [sl63 h6q]
                    have := congrArg List.length (row_pts tq.1.1.1)
                    rw [List.length_cons] at this
                    omega
                  · rw [if_neg z]
                refine ⟨nI G', u2, vt2, w2, E ++ E', rfl, by rw [← List.append_assoc]; exact r2, r3, fun e h => ?_, FRM.trans (FRM_go r8) (FRM_go ⟨fun z h1 h4 j hj => t4.1 z h1 h4 j (by omega), t4.2⟩), by rw [t4.2.2 3 (by decide), r8.2.2 3 (by decide)], Or.inl ⟨(nth (pts p) bp, 63, S) :: (remC so un p lf T rs ++ C0), be, G' + 1, Or.inr ⟨hk, lf, rs, LS, by rw [hch, hS]; exact RS, Or.inr ⟨l0, by rw [hch, hS]; exact hrig, rfl, by rw [hch, hS]⟩⟩, by rw [← List.append_assoc]; exact t3, t2, by omega, by rw [← List.append_assoc]; exact BDG_frame (BDG_ext (BDG_ext hB)) (by rw [t4.2.2 4 (by decide), r8.2.2 4 (by decide)]) (by rw [t4.2.1 5 (by decide), r8.2.1 5 (by decide)]), fun _ _ _ => rfl, fun z hz => ?_, ?_, ?_, fun sg => ?_⟩⟩
                · rcases List.mem_append.mp h with h | h
                  · exact hEA e h
                  · obtain ⟨d1, d2⟩ := r4 e h
                    rw [d2]; exact (hSS ok d1).2
                · rcases List.mem_cons.mp hz with h | h
                  · rw [h]
                    refine ⟨tq, tkS, alS, fun k2 => ?_⟩
                    show sl 63 (pts (nth (pts p) bp)) ≠ []
                    rw [sl63 h6q]
                    intro e
                    have h1 := pts_len tq.1.1.1
                    have h2 := (sum_ar tq k2).2.2.1
                    rw [e] at h1
                    simp only [List.length_nil] at h1
                    omega
                  · rcases List.mem_append.mp h with h | h
                    · exact gk z h
                    · exact hgok0 z h
                · show G' + 1 + (4 * sgm so (nth (pts p) bp, 63, S) + 1 + pot so (remC so un p lf T rs ++ C0)) + 1 ≤ _
                  rw [sgq, pot_app, pot_sg (C := remC so un p lf T rs), potC]
                  by_cases z : (sl lf (pts p)).length = 1
                  · rw [if_pos z] at rsg; omega
                  · rw [if_neg z] at rsg; omega
                · show sgm so (nth (pts p) bp, 63, S) + sgC so (remC so un p lf T rs ++ C0) + 1 ≤ _
                  rw [sgq, sgC_app, sgCC]; omega
                · have gq := gsat_whole (so := so) (un := un) (sg := sg) (t := S) h6q tq
                  constructor
                  · intro hs
                    obtain ⟨a1, a2, a3, a4, a5⟩ := hSWg sg hs
                    refine ⟨a1, fun z hz => ?_⟩
                    rcases List.mem_cons.mp hz with h | h
                    · rw [h]; exact gq.mpr ⟨a4, a5⟩
                    · rcases List.mem_append.mp h with h | h
                      · exact ((semR sg a4 a5).mp a2).2 z h
                      · exact a3 z h
                  · rintro ⟨a1, x2⟩
                    obtain ⟨a4, a5⟩ := gq.mp (x2 _ List.mem_cons_self)
                    rw [swE]
                    refine ⟨⟨a1, fun z hz => ?_⟩, f1, a5⟩
                    rcases List.mem_cons.mp hz with h | h
                    · rw [h]
                      exact (semR sg a4 a5).mpr ⟨ok, fun z hz => x2 z (List.mem_cons_of_mem _ (List.mem_append_left _ hz))⟩
                    · exact x2 z (List.mem_cons_of_mem _ (List.mem_append_right _ h))
              · rw [r1, xb4_s, if_pos rfl]
                refine dead u v1 w1 E y2 st1 hEA FRM.refl rfl (fun sg hs => ?_)
                obtain ⟨a1, a2, a3, a4, a5⟩ := hSWg sg hs
                exact bad ((semR sg a4 a5).mp a2).1
      by_cases z2 : sto so un (nth (pts p) bp) = 2
      · rw [if_pos (by rw [z2]; rfl), co1, xb1_s, fx_operatorIn_c hcS, xb1_s, fx_operatorIn_c hcq, xb1_s]
        by_cases oe : opI (hd0 S) = opI (hd0 (nth (pts p) bp))
        · rw [if_pos oe]
          exact rest (fun _ => oe)
        · rw [if_neg oe]
          refine dead u v1 w1 E y2 st1 hEA FRM.refl rfl (fun sg hs => ?_)
          rw [swE] at hs
          have hv := vonq sg hs.1
          have hone : isOneP so un (nth (pts p) bp) := by
            unfold sto at z2
            by_cases h5 : hd0 (nth (pts p) bp) < 512
            · rw [if_pos h5] at z2; exact absurd z2 (by decide)
            · rw [if_neg h5] at z2
              refine ⟨by omega, ?_⟩
              by_cases y9 : so (hd0 (nth (pts p) bp) / 512 - 1) = 2
              · right
                apply Classical.byContradiction
                intro y8
                rw [if_pos ⟨y9, y8⟩] at z2; exact absurd z2 (by decide)
              · exact Or.inl y9
          have hpln : plain so un (opn p) (nth (pts p) bp) := (nf_sum hsu hoo s2 tp.1 s4 (by have := tok_len tp; omega)).1 _ (nth_mem bpl)
          have := (one_plain hsu hoo s2 tq.1.1 lq hv hpln hone).2
          rw [hs.2.2] at this
          exact oe this
      · rw [if_neg (by rw [show (2 : Int32) = nI 2 from rfl, nI_inj (by omega) (by decide)]; exact z2)]
        exact rest (fun h => absurd h z2)
    by_cases c0 : ch = 0
    · rw [if_pos (by rw [c0]; rfl), fx_hasUnit_c he.1 hsv o1, xb1_s]
      by_cases hu : un (opn p) = none
      · rw [if_pos hu, if_pos rfl]
        refine dead0 (fun sg hs => ?_)
        rw [swE] at hs
        have hv := vonq sg hs.1
        have nq : nok so un (fil so un sg (nth (pts p) bp)) := fil_nok hsu 21 _ tq.1.1 (by omega) (by omega) hv
        have e : sl ch (flat1 so un (opn p) T) = [] := by
          have := (sl_nil (s := 0) (qs := flat1 so un (opn p) T) (by decide) (fun j _ => Nat.zero_testBit j)).mpr rfl
          rw [c0]; exact this
        have : SS so un (opn p) T ch = [] := by unfold SS mkt; rw [if_pos s2, e, hu]
        rw [hs.2.2, this] at nq
        exact absurd nq.1.1.symm (by decide)
      · rw [if_neg hu, if_neg (by decide)]
        exact main (fun _ => hu)
    · rw [if_neg (by rw [show (0 : Int32) = nI 0 from rfl, nI_inj (by omega) (by decide)]; exact c0)]
      exact main (fun e => absurd ((sl_nil ch64 chb).mp e) c0)
  · rw [hb2] at f1
    rw [f2, xb1_s, if_pos rfl]
    refine dead0 (fun sg hs => ?_)
    rw [swE] at hs
    exact f1 hs.2.1
