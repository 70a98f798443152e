/-! ===== some parts of a sum: which choice, and what is left ===== -/
def SS (so : Nat → Nat) (un : Nat → Option Nat) (op : Nat) (t : List Nat) (bits : Nat) : List Nat := mkt so un op (sl bits (flat1 so un op t))
theorem sl_sub {s : Nat} : ∀ {qs : List (List Nat)} {k : Nat}, (sel s false k qs).Sublist qs
  | [], _ => List.Sublist.refl _
  | x :: qs, k => by
    show (if s.testBit k = false then sel s false (k + 1) qs else x :: sel s false (k + 1) qs).Sublist _
    by_cases z : s.testBit k = false
    · rw [if_pos z]; exact (sl_sub).cons x
    · rw [if_neg z]; exact (sl_sub).cons₂ x
theorem srt_pw {H : List (List Nat)} (hw : wfs H) (h : srt H = H) : H.Pairwise leL := by rw [← h]; exact srt_sorted hw
theorem SS_stand {so : Nat → Nat} {un : Nat → Option Nat} {op bits : Nat} {t : List Nat} (hsu : SU so un) (ho : op < 10 ∧ so op ≠ 3) (h2 : so op = 2) (h : nok so un t) (hN : t.length < 512) : SS so un op t bits = stand so un op (sl bits (flat1 so un op t)) := by
  obtain ⟨a, b, c, d⟩ := nf_as hsu ho h2 h hN
  have hwH := okts_wfs (noks_okts d)
  have e : stys so un op (sl bits (flat1 so un op t)) = sl bits (flat1 so un op t) := by
    unfold stys
    rw [if_neg (by omega), flats_plain (fun q hq => a q (sel_mem hq))]
    exact srt_id (fun q hq => hwH q (sel_mem hq)) ((srt_pw hwH b).sublist sl_sub)
  rw [stand_stys, e]; rfl
theorem flat1_6 {so ma : Nat → Nat} {un : Nat → Option Nat} {nv op : Nat} {t : List Nat} (hsv : SV so un ma nv) (hs2 : ∀ o : Nat, so o ≠ 3 → so o ≤ 2) (h2 : so op = 2) (h : tok so un ma nv t) : (flat1 so un op t).length ≤ 6 := by
  unfold flat1
  rw [if_pos h2]
  by_cases q : isop op t = true
  · rw [if_pos q, pts_len h.1.1.1]
    exact (tok_ar hsv hs2 h _ (hd0_mem h.1.1.1)).1
  · rw [if_neg q]
    by_cases y : isun un op t = true
    · rw [if_pos y]; decide
    · rw [if_neg y]; simp
theorem SS_tok {so ma : Nat → Nat} {un : Nat → Option Nat} {nv op bits : Nat} {t : List Nat} (hsv : SV so un ma nv) (hs2 : ∀ o : Nat, so o ≠ 3 → so o ≤ 2) (ho : op < 10 ∧ so op ≠ 3) (h2 : so op = 2) (h : tok so un ma nv t) (hu : sl bits (flat1 so un op t) = [] → un op ≠ none) : tok so un ma nv (SS so un op t bits) := by
  have hsu := SV_SU hsv
  have h20 := tok_len h
  obtain ⟨a, b, c, d⟩ := nf_as hsu ho h2 h.1 (by omega)
  have hfl := flat1_len (so := so) (un := un) (op := op) h.1.1.1
  have h6 := flat1_6 hsv hs2 h2 h
  have hsl : (sl bits (flat1 so un op t)).flatten.length ≤ (flat1 so un op t).flatten.length := sel_len
  have est := SS_stand (bits := bits) hsu ho h2 h.1 (by omega)
  have hcodes : ∀ q ∈ sl bits (flat1 so un op t), ∀ e ∈ q, e ∈ t := fun q hq e he => flat1_codes h.1.1.1 (sel_mem hq) he
  have nb := (no_big h.2.1).2
  refine ⟨?_, ?_, ?_⟩
  · rw [est]
    exact (stand_nok hsu ho (fun q hq => d q (sel_mem hq)) (fun e => ⟨h2, hu e⟩) (Nat.lt_of_le_of_lt hsl (by omega))).1
  · refine not_great ?_ (fun e he => ?_)
    · unfold SS
      by_cases z : 2 ≤ (sl bits (flat1 so un op t)).length
      · rw [mkt_many (fun _ => z), List.length_cons]
        have hl2 : 2 ≤ (flat1 so un op t).length := Nat.le_trans z sel_le
        have hi : isop op t = true := by
          cases q : isop op t with
          | true => rfl
          | false =>
            unfold flat1 at hl2
            rw [if_pos h2, q] at hl2
            by_cases y : isun un op t = true
            · rw [y] at hl2; simp at hl2
            · rw [if_neg (by decide), if_neg y] at hl2; simp at hl2
        have ef : flat1 so un op t = pts t := by unfold flat1; rw [if_pos h2, if_pos hi]
        have := congrArg List.length (row_pts h.1.1.1)
        rw [List.length_cons, ← ef] at this
        omega
      · have : (sl bits (flat1 so un op t)).length = 0 ∨ (sl bits (flat1 so un op t)).length = 1 := by omega
        rcases this with g | g
        · have e := List.length_eq_zero_iff.mp g
          rw [e]
          cases hu9 : un op with
          | none => exact absurd hu9 (hu e)
          | some u => rw [mkt_nil h2 hu9]; simp
        · obtain ⟨y, hy⟩ := List.length_eq_one_iff.mp g
          rw [hy, mkt_one h2]
          have hym : y ∈ flat1 so un op t := sel_mem (s := bits) (o := false) (k := 0) (by rw [show sel bits false 0 (flat1 so un op t) = [y] from hy]; simp)
          have := mem_len hym
          omega
    · unfold SS at he
      rcases mkt_codes he with ⟨q, q1, q2⟩ | g | ⟨_, u, u1, u2⟩
      · exact nb e (hcodes q q1 e q2)
      · rw [g]; unfold big1
        have : (sl bits (flat1 so un op t)).length ≤ 6 := Nat.le_trans sel_le h6
        rw [ar_code (by omega), decide_eq_false (show ¬ 6 < (sl bits (flat1 so un op t)).length by omega), Bool.and_false]
      · rw [u2]; unfold big1
        rw [ar_code (by decide), decide_eq_false (show ¬ 6 < 0 by decide), Bool.and_false]
  · rw [est]
    exact stand_S hsv ho (fun q hq => okts_wfs (noks_okts d) q (sel_mem hq)) (fun q hq e he => h.2.2 e (hcodes q hq e he)) (fun z => absurd h2 z) (by omega)
theorem fx_subSum_c {n x op no nv bits : Nat} {ga v : Nat → Nat → Int32} {w : Nat → Nat → Int64} {las : Nat → Bool} {N : List (List Nat)} {so ma : Nat → Nat} {un : Nat → Option Nat} {nmL : Nat → List Nat} (hn : 100000 ≤ n) (he : ENV ga las so ma un no nv nmL) (hT : TBK v w las so ma un nv N) (hx : x < N.length) (h2 : so op = 2) (hN : N.length < 1024) (hbt : bits < 64) (hbl : ∀ k : Nat, (flat1 so un op (nth N x)).length ≤ k → bits.testBit k = false) (hu : sl bits (flat1 so un op (nth N x)) = [] → un op ≠ none) :
    ∃ (y : Nat) (v' : Nat → Nat → Int32) (w' : Nat → Nat → Int64) (E : List (List Nat)), fx_X8_subSum n v w ga (nI x) (nI op) (nI bits) = some (nI y, v', w') ∧ TBK v' w' las so ma un nv (N ++ E) ∧ (E = [] ∨ E = [SS so un op (nth N x) bits]) ∧ y < (N ++ E).length ∧ nth (N ++ E) y = SS so un op (nth N x) bits ∧ v' 9 = v 9 ∧ ∀ j : Nat, j ≠ 0 → v' 0 j = v 0 j := by
  have hsv := he.2.1
  obtain ⟨p1, p2, p3⟩ := ENV_op he (op := op) (by omega)
  have tk := hT.2 _ (nth_mem hx)
  have h20 := tok_len tk
  have hfl := flat1_len (so := so) (un := un) (op := op) tk.1.1.1
  have hsl : (sl bits (flat1 so un op (nth N x))).flatten.length ≤ (flat1 so un op (nth N x)).flatten.length := sel_len
  have tkS := SS_tok (bits := bits) hsv (fun o h => (ENV_op he h).2.2) ⟨p2, by omega⟩ h2 tk hu
  have e0 : nI 0 = (0 : Int32) := rfl
  obtain ⟨r, v', w', E, z1, z2, z3, z4, z5, z6⟩ := lx_subSum_c (w := w) (bits := bits) hn he hx h2 hN hbt hbl (fun q hq d hd => (no_big tk.2.1).2 d (flat1_codes tk.1.1.1 hq hd)) hu (by omega) 6 0 n v rfl (by omega) hT.1 (fun j hj => by simp [sl, sel] at hj)
  have z1' : fx_X8_subSum n v w ga (nI x) (nI op) (nI bits) = some (r, v', w') := z1
  rcases z4 with ⟨bad, _⟩ | ⟨ng, y, y1, y2, y3⟩
  · exact absurd (tkS.2.1.symm.trans bad) (by decide)
  · rw [y3] at z1'
    refine ⟨y, v', w', E, z1', ⟨z2, fun t ht => ?_⟩, z3.imp id (fun g => g.1), y1, y2, z5, z6⟩
    rcases List.mem_append.mp ht with g | g
    · exact hT.2 t g
    · rcases z3 with q | ⟨q, _⟩
      · rw [q] at g; exact absurd g List.not_mem_nil
      · rw [q] at g; rw [List.mem_singleton.mp g]; exact tkS
/-- of alike parts the first ones are taken -/
def FST (bits : Nat) (H : List (List Nat)) : Prop := ∀ i : Nat, bits.testBit i = false → bits.testBit (i + 1) = true → nth H i ≠ nth H (i + 1)
theorem bit2 : ∀ s : Fin 64, ∀ k : Fin 5, (((nI s.val >>> (nI k.val &&& 31)) &&& 3) = 2) ↔ (s.val.testBit k.val = false ∧ s.val.testBit (k.val + 1) = true) := by decide +kernel
theorem lx_isFirst_c {n x op no nv bits : Nat} {ga v : Nat → Nat → Int32} {w : Nat → Nat → Int64} {las : Nat → Bool} {N : List (List Nat)} {so ma : Nat → Nat} {un : Nat → Option Nat} {nmL : Nat → List Nat} (he : ENV ga las so ma un no nv nmL) (hT : TB v w las N) (hx : x < N.length) (h2 : so op = 2) (hbt : bits < 64) (hbl : ∀ k : Nat, (flat1 so un op (nth N x)).length ≤ k → bits.testBit k = false) :
    ∀ (d i m : Nat), i + d = 5 → d < m → (∀ z : Nat, z < i → bits.testBit z = false → bits.testBit (z + 1) = true → nth (flat1 so un op (nth N x)) z ≠ nth (flat1 so un op (nth N x)) (z + 1)) →
      (FST bits (flat1 so un op (nth N x)) ∧ lx_X8_isFirstChoice_3 n v (nI x) (nI op) (nI bits) m (nI (i + 1)) = some 1) ∨ (¬ FST bits (flat1 so un op (nth N x)) ∧ lx_X8_isFirstChoice_3 n v (nI x) (nI op) (nI bits) m (nI (i + 1)) = some 0)
  | 0, i, m + 1, hi, _, hz => by
    have ei : i = 5 := by omega
    subst ei
    refine Or.inl ⟨fun z h0 h1 => ?_, ?_⟩
    · by_cases q : z < 5
      · exact hz z q h0 h1
      · have h6 := (asSum_c (n := n) he hT hx h2).2.1
        rw [hbl (z + 1) (by omega)] at h1; exact nomatch h1
    · show bx_X8_isFirstChoice_3 n v (nI x) (nI op) (nI bits) (lx_X8_isFirstChoice_3 n v (nI x) (nI op) (nI bits) m) (nI 6) = _
      unfold bx_X8_isFirstChoice_3
      rw [if_pos (by decide)]
  | d + 1, i, m + 1, hi, hm, hz => by
    obtain ⟨a1, h6, a3⟩ := asSum_c (n := n) he hT hx h2
    have h1 := hT.1
    have b2 := bit2 ⟨bits, hbt⟩ ⟨i, by omega⟩
    have b2' : (((nI bits >>> (nI i &&& 31)) &&& 3) = 2) ↔ (bits.testBit i = false ∧ bits.testBit (i + 1) = true) := b2
    have hsh : lx_X8_isFirstChoice_3 n v (nI x) (nI op) (nI bits) (m + 1) (nI (i + 1)) = bx_X8_isFirstChoice_3 n v (nI x) (nI op) (nI bits) (lx_X8_isFirstChoice_3 n v (nI x) (nI op) (nI bits) m) (nI (i + 1)) := rfl
    rw [hsh]
    unfold bx_X8_isFirstChoice_3
    rw [if_neg (by rw [show (6 : Int32) = nI 6 from rfl, nI_le_iff (by decide) (by omega)]; omega), xl_eq, i1, nI_sub (by omega), show i + 1 - 1 = i by omega, xl_eq, xl_eq]
    by_cases q : bits.testBit i = false ∧ bits.testBit (i + 1) = true
    · rw [if_pos (b2'.mpr q)]
      have hlt : i + 1 < (flat1 so un op (nth N x)).length := by
        apply Classical.byContradiction
        intro g
        rw [hbl (i + 1) (by omega)] at q; exact nomatch q.2
      obtain ⟨p, p1, p2, p3⟩ := a3 (i + 1) hlt
      obtain ⟨p', q1, q2, q3⟩ := a3 i (by omega)
      rw [p3, xb1_s, xl_eq, q3, xb1_s]
      by_cases g : p = p'
      · rw [if_pos (by rw [g])]
        exact Or.inr ⟨fun f => f i q.1 q.2 (by rw [← p2, ← q2, g]), rfl⟩
      · rw [if_neg (by rw [nI_inj (by omega) (by omega)]; exact g), xl_eq, ← i1, nI_1]
        refine lx_isFirst_c he hT hx h2 hbt hbl d (i + 1) m (by omega) (by omega) (fun z hz9 h0 h1 => ?_)
        by_cases e : z = i
        · subst e
          intro e9
          exact g (nth_inj hT.2.2.1 p1 q1 (by rw [p2, q2, e9]))
        · exact hz z (by omega) h0 h1
    · rw [if_neg (fun g => q (b2'.mp g)), xl_eq, ← i1, nI_1]
      refine lx_isFirst_c he hT hx h2 hbt hbl d (i + 1) m (by omega) (by omega) (fun z hz9 h0 h1 => ?_)
      by_cases e : z = i
      · subst e; exact absurd ⟨h0, h1⟩ q
      · exact hz z (by omega) h0 h1
theorem fx_isFirst_c {n x op no nv bits : Nat} {ga v : Nat → Nat → Int32} {w : Nat → Nat → Int64} {las : Nat → Bool} {N : List (List Nat)} {so ma : Nat → Nat} {un : Nat → Option Nat} {nmL : Nat → List Nat} (hn : 100000 ≤ n) (he : ENV ga las so ma un no nv nmL) (hT : TB v w las N) (hx : x < N.length) (h2 : so op = 2) (hbt : bits < 64) (hbl : ∀ k : Nat, (flat1 so un op (nth N x)).length ≤ k → bits.testBit k = false) :
    (FST bits (flat1 so un op (nth N x)) ∧ fx_X8_isFirstChoice n v (nI x) (nI op) (nI bits) = some 1) ∨ (¬ FST bits (flat1 so un op (nth N x)) ∧ fx_X8_isFirstChoice n v (nI x) (nI op) (nI bits) = some 0) :=
  lx_isFirst_c he hT hx h2 hbt hbl 5 0 n rfl (by omega) (fun z hz => absurd hz (Nat.not_lt_zero _))
/-- a bit cleared -/
def clr (s i : Nat) : Nat := if s.testBit i = true then s - 2 ^ i else s
theorem clr_ok : ∀ s : Fin 64, ∀ i : Fin 6, clr s.val i.val < 64 ∧ (nI s.val &&& (((1 : Int32) <<< (nI i.val &&& 31)) ^^^ (-1))) = nI (clr s.val i.val) ∧ ∀ j : Fin 6, (clr s.val i.val).testBit j.val = (s.val.testBit j.val && decide (j.val ≠ i.val)) := by decide +kernel
theorem sel_same {s s' : Nat} : ∀ {qs : List (List Nat)} {k : Nat}, (∀ j : Nat, k ≤ j → j < k + qs.length → s'.testBit j = s.testBit j) → sel s' false k qs = sel s false k qs
  | [], _, _ => rfl
  | x :: qs, k, h => by
    rw [List.length_cons] at h
    show (if s'.testBit k = false then sel s' false (k + 1) qs else x :: sel s' false (k + 1) qs) = (if s.testBit k = false then sel s false (k + 1) qs else x :: sel s false (k + 1) qs)
    rw [h k (by omega) (by omega), sel_same (qs := qs) (k := k + 1) (fun j h1 h2 => h j (by omega) (by omega))]
theorem sel_clr {s s' i : Nat} : ∀ {qs : List (List Nat)} {k : Nat}, k ≤ i → i < k + qs.length → s.testBit i = true → s'.testBit i = false → (∀ j : Nat, j ≠ i → k ≤ j → j < k + qs.length → s'.testBit j = s.testBit j) → (sel s false k qs).Perm (nth qs (i - k) :: sel s' false k qs)
  | [], k, h1, h2, _, _, _ => by simp at h2; omega
  | x :: qs, k, h1, h2, h3, h4, h5 => by
    rw [List.length_cons] at h2 h5
    show (if s.testBit k = false then sel s false (k + 1) qs else x :: sel s false (k + 1) qs).Perm (nth (x :: qs) (i - k) :: (if s'.testBit k = false then sel s' false (k + 1) qs else x :: sel s' false (k + 1) qs))
    by_cases e : k = i
    · subst e
      rw [h3, h4, if_neg (by decide), if_pos rfl, Nat.sub_self, sel_same (s := s) (s' := s') (fun j a b => h5 j (by omega) (by omega) (by omega))]
      exact List.Perm.refl _
    · rw [h5 k e (by omega) (by omega)]
      have ih := sel_clr (s := s) (s' := s') (i := i) (qs := qs) (k := k + 1) (by omega) (by omega) h3 h4 (fun j a b c => h5 j a (by omega) (by omega))
      have en : nth (x :: qs) (i - k) = nth qs (i - (k + 1)) := by
        rw [show i - k = (i - (k + 1)) + 1 by omega]; rfl
      rw [en]
      by_cases z : s.testBit k = false
      · rw [if_pos z, if_pos z]; exact ih
      · rw [if_neg z, if_neg z]
        exact (ih.cons x).trans (List.Perm.swap _ _ _)
theorem sel_mem_bit {s : Nat} {q : List Nat} : ∀ {qs : List (List Nat)} {k : Nat}, q ∈ sel s false k qs → ∃ i : Nat, i < qs.length ∧ s.testBit (k + i) = true ∧ nth qs i = q
  | [], _, h => absurd h List.not_mem_nil
  | x :: qs, k, h => by
    have h' : q ∈ (if s.testBit k = false then sel s false (k + 1) qs else x :: sel s false (k + 1) qs) := h
    have lift : q ∈ sel s false (k + 1) qs → ∃ i : Nat, i < (x :: qs).length ∧ s.testBit (k + i) = true ∧ nth (x :: qs) i = q := fun g => by
      obtain ⟨i, i1, i2, i3⟩ := sel_mem_bit g
      exact ⟨i + 1, by rw [List.length_cons]; omega, by rw [show k + (i + 1) = k + 1 + i by omega]; exact i2, i3⟩
    by_cases z : s.testBit k = false
    · rw [if_pos z] at h'; exact lift h'
    · rw [if_neg z] at h'
      rcases List.mem_cons.mp h' with g | g
      · refine ⟨0, by rw [List.length_cons]; omega, ?_, g.symm⟩
        rw [Nat.add_zero]
        cases y : s.testBit k with
        | true => rfl
        | false => exact absurd y z
      · exact lift g
