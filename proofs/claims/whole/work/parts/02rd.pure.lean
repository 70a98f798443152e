/-! ===== reach and reached, told ===== -/
/-- what counts: what is reached; of the normal ones alone, where they are asked for -/
def CNT (so : Nat → Nat) (un : Nat → Option Nat) (R : RulL) (on : Int32) (t : List Nat) (j : Nat) (p2 : Int32) (w : List Nat) : Prop := rch so un R on t j w ∧ (p2 ≠ 0 → nrm so un R on w)
def TMc (so : Nat → Nat) (un : Nat → Option Nat) (R : RulL) (on : Int32) (t : List Nat) (j : Nat) (p2 : Int32) : Prop := TMr so un R on t j ∨ (p2 ≠ 0 ∧ ∃ w : List Nat, rch so un R on t j w ∧ TMs so un R on w.length w)
theorem RCS_to {so : Nat → Nat} {un : Nat → Option Nat} {ma : Nat → Nat} {nv : Nat} {R : RulL} {on : Int32} {t : List Nat} {j : Nat} {p2 r th' th code : Int32} {fre frm : Nat → Int32} {N : Int64} (h : RCS so un ma nv R on t j p2 r th' th code fre frm N) :
    (r = 1 ∧ th' = th ∧ ¬ TMc so un R on t j p2 ∧ ∃ Q : List (List Nat), RQ so un ma nv fre frm 0 Q ∧ (pick N 0 Q).Nodup ∧ (∀ x : List Nat, x ∈ pick N 0 Q ↔ CNT so un R on t j p2 x)) ∨ (r = 0 ∧ th' = code ∧ TMc so un R on t j p2) := by
  rcases h with ⟨h1, h2, Q, h3, h4, h5, h6, h7⟩ | ⟨h1, h2, h3⟩
  · refine Or.inl ⟨h1, h2, ?_, Q, h3, List.Sublist.nodup pick_sub h3.2.2.1, fun x => ?_⟩
    · rintro (q | ⟨q, w, q1, q2⟩)
      · exact h5 q
      · exact h6 q w q1 q2
    · rw [pick_mem]
      constructor
      · rintro ⟨i, i1, i2, i3⟩
        rw [Nat.zero_add] at i2
        rw [← i3]
        exact ⟨(h4 _).mp (nth_mem i1), (h7 i i1).mp i2⟩
      · rintro ⟨q1, q2⟩
        obtain ⟨i, i1, i2⟩ := mem_nth ((h4 x).mpr q1)
        exact ⟨i, i1, by rw [Nat.zero_add]; exact (h7 i i1).mpr (by rw [i2]; exact q2), i2⟩
  · exact Or.inr ⟨h1, h2, h3⟩
theorem fx_reach_ok {n : Nat} {fs fu fk fre frm frd : Nat → Int32} {so ma : Nat → Nat} {un : Nat → Option Nat} {nv : Nat} {on th x y z : Int32} {R : RulL} {Tm : List (List Nat)} {N0 : Int64} (s : WS) (hn : 100000 ≤ n) (hsg : SG fs fu so un) (hsv : SV so un ma nv) (h : KT so un ma nv fk Tm) (hR : KR2 so un ma nv fk R) :
    ∃ (r th' : Int32) (s' : WS) (fre' frm' frd' : Nat → Int32) (N' : Int64), fx_reach n th fs fu s.fp s.top s.fsp fk (nI Tm.length) (nI R.length) on s.fgp s.fgt s.fb s.fw s.wt s.fm s.pv s.ff s.tm s.fpl s.fru s.fr s.M fre frm frd N0 x y z = some (r, th', s'.fp, s'.top, s'.fsp, s'.fgp, s'.fgt, s'.fb, s'.fw, s'.wt, s'.fm, s'.pv, s'.ff, s'.tm, s'.fpl, s'.fru, s'.fr, s'.M, fre', frm', frd', N') ∧
      ((∃ i j : Nat, (i < Tm.length ∧ x = nI i) ∧ (j < 5 ∧ y = nI j) ∧
          ((¬ TMc so un R (ron on R.length) (nth Tm i) j z ∧ ∃ L : List (List Nat), L.Nodup ∧ (∀ w : List Nat, w ∈ L ↔ CNT so un R (ron on R.length) (nth Tm i) j z w) ∧ r = nI L.length ∧ th' = 0) ∨ (TMc so un R (ron on R.length) (nth Tm i) j z ∧ r = 0 ∧ th' = 3))) ∨
       (isn x Tm.length ∧ ¬ isn y 5 ∧ r = 0 ∧ th' = 2) ∨ (¬ isn x Tm.length ∧ r = 0 ∧ th' = 1)) := by
  have hl := h.1
  unfold fx_reach
  rcases fx_noTerm_ok (n := n) (th := 0) (x := x) (k := Tm.length) (by omega) with ⟨h1, e1⟩ | ⟨h1, e1⟩
  · rw [e1, xb2_s, if_pos rfl]
    rcases fx_noDepth_ok (n := n) (th := 0) (x := y) (c := 2) with ⟨h2, e2⟩ | ⟨h2, e2⟩
    · obtain ⟨i, i1, i2⟩ := isn_of (by omega) h1
      obtain ⟨j, j1, j2⟩ := isn_of (by decide) h2
      rw [e2, xb2_s, if_pos rfl, i2, j2]
      obtain ⟨r, th', s', fre', frm', frd', N', g1, g2⟩ := lrc_ok (fre := fre) (frm := frm) (frd := frd) (on := on) (p2 := z) (code := 3) (th := 0) (N0 := N0) (j := j) s hn hsg hsv h hR i1 (by omega)
      rw [g1, xb22_s]
      rcases RCS_to g2 with ⟨q1, q2, q3, Q, q4, q5, q6⟩ | ⟨q1, q2, q3⟩
      · have hQ := q4.1
        have lp := lx_reach_41_ok (n := n) (fs := fs) (fu := fu) (fk := fk) (fre := fre') (frm := frm') (frd := frd') (terms := nI Tm.length) (rules := nI R.length) (on := on) (p0 := nI i) (p1 := nI j) (p2 := z) (th := th') (N := N') (s := s') hQ q4.2.2.2.1 Q 0 0 n (by omega) (by omega)
        have e0 : nI 0 = (0 : Int32) := rfl
        rw [e0, Nat.zero_add] at lp
        rw [if_neg (by rw [q1]; decide), lp]
        exact ⟨_, _, s', _, _, _, _, rfl, Or.inl ⟨i, j, ⟨i1, rfl⟩, ⟨j1, rfl⟩, Or.inl ⟨q3, _, q5, q6, rfl, q2⟩⟩⟩
      · rw [if_pos q1]
        exact ⟨_, _, s', _, _, _, _, rfl, Or.inl ⟨i, j, ⟨i1, rfl⟩, ⟨j1, rfl⟩, Or.inr ⟨q3, rfl, q2⟩⟩⟩
    · rw [e2, xb2_s, if_neg (by decide)]
      exact ⟨_, _, s, _, _, _, _, rfl, Or.inr (Or.inl ⟨h1, h2, rfl, rfl⟩)⟩
  · rw [e1, xb2_s, if_neg (by decide)]
    exact ⟨_, _, s, _, _, _, _, rfl, Or.inr (Or.inr ⟨h1, rfl, rfl⟩)⟩
/-! in order -/
/-- how many of them come before -/
def lss (L : List (List Nat)) (x : List Nat) : Nat := (L.filter (fun y => decide (cmpL y x = -1))).length
theorem lss_nil {x : List Nat} : lss [] x = 0 := rfl
theorem lss_cons {L : List (List Nat)} {x y : List Nat} : lss (y :: L) x = (if cmpL y x = -1 then 1 else 0) + lss L x := by
  unfold lss
  by_cases h : cmpL y x = -1
  · rw [List.filter_cons_of_pos (by simpa using h), if_pos h, List.length_cons]; omega
  · rw [List.filter_cons_of_neg (by simpa using h), if_neg h]; omega
theorem lss_perm {A B : List (List Nat)} {x : List Nat} (h : A.Perm B) : lss A x = lss B x := (h.filter _).length_eq
theorem lss_0 : ∀ {L : List (List Nat)} {x : List Nat}, (∀ y ∈ L, klt x y) → lss L x = 0
  | [], _, _ => rfl
  | y :: L, x, h => by
    rw [lss_cons, if_neg (show ¬ cmpL y x = -1 from klt_asym (h y (List.mem_cons_self ..))), lss_0 (fun z hz => h z (List.mem_cons_of_mem _ hz))]
theorem lss_at : ∀ {L : List (List Nat)} {q : Nat}, L.Pairwise klt → q < L.length → lss L (nth L q) = q
  | a :: L, 0, h, _ => by
    show lss (a :: L) a = 0
    rw [lss_cons, if_neg (show ¬ cmpL a a = -1 from klt_irrefl), lss_0 (List.pairwise_cons.mp h).1]
  | a :: L, q + 1, h, hq => by
    have hq' : q < L.length := by simp only [List.length_cons] at hq; omega
    show lss (a :: L) (nth L q) = q + 1
    rw [lss_cons, if_pos (show cmpL a (nth L q) = -1 from (List.pairwise_cons.mp h).1 _ (nth_mem hq')), lss_at (List.pairwise_cons.mp h).2 hq']; omega
theorem nth_mid : ∀ {A B : List (List Nat)} {y : List Nat}, nth (A ++ y :: B) A.length = y
  | [], _, _ => rfl
  | a :: A, B, y => nth_mid (A := A) (B := B) (y := y)
theorem srt_klt {P : List (List Nat)} (hw : ∀ t ∈ P, wf 1 t) (hn : P.Nodup) : (srt P).Pairwise klt := by
  have hp := srt_perm P
  have h1 : (srt P).Pairwise leL := srt_sorted hw
  have h2 : (srt P).Nodup := hp.nodup_iff.mpr hn
  refine (List.pairwise_and_iff.mpr ⟨h1, h2⟩).imp_of_mem (fun {a b} ha hb hab => ?_)
  rcases hab.1 with q | q
  · exact q
  · exact absurd ((cmpL_eq (hw a (hp.mem_iff.mp ha)) (hw b (hp.mem_iff.mp hb))).mp q) hab.2
abbrev RdRes := Option (Int32 × Int32 × (Nat → Int32) × Int32 × (Nat → Int32) × (Nat → Int32) × (Nat → Int32) × (Nat → Int32) × (Nat → Int32) × Int32 × Int32 × Int32 × (Nat → Int32) × Int32 × (Nat → Int32) × (Nat → Int32) × (Nat → Int32) × Int32 × (Nat → Int32) × (Nat → Int32) × Int32 × Int32 × (Nat → Int32) × (Nat → Int32) × (Nat → Int32) × Int64)
abbrev K38 := Int32 → Int32 → (Nat → Int32) → Int32 → (Nat → Int32) → (Nat → Int32) → (Nat → Int32) → (Nat → Int32) → (Nat → Int32) → Int32 → Int32 → Int32 → (Nat → Int32) → Int32 → (Nat → Int32) → (Nat → Int32) → (Nat → Int32) → Int32 → (Nat → Int32) → (Nat → Int32) → Int32 → Int32 → (Nat → Int32) → (Nat → Int32) → (Nat → Int32) → Int64 → RdRes
theorem lx81_ok {n : Nat} {nm nmm fs fu fk fre frm frd shr tx : Nat → Int32} {so ma : Nat → Nat} {un : Nat → Option Nat} {nv : Nat} {terms rules on p0 p1 p2 p3 th x5 iss shn : Int32} {N : Int64} {Q : List (List Nat)} {x : List Nat} {k38 : K38} (hn : 100000 ≤ n) (hQ : RQ so un ma nv fre frm 0 Q) (hx : tok so un ma nv x) :
    ∀ (B A : List (List Nat)) (c m : Nat) (s : WS), Q = A ++ B → s.top = nI x.length → la s.fp 0 x → B.length < m →
      ∃ s' : WS, la s'.fp 0 x ∧ lx_reached_81 n nm nmm fs fu fk terms rules on p0 p1 p2 p3 k38 m x5 (nI 0) (nI c) (nI A.length) th s.fp s.top s.fsp s.fgp s.fgt s.fb s.fw s.wt s.fm s.pv s.ff s.tm s.fpl s.fru s.fr s.M shr tx iss shn fre frm frd N =
        if nI (c + lss (pick N A.length B) x) = p3 then (xb5 (fx_shows n nm nmm s'.fp shr tx iss shn (nI 0)) fun r shr' tx' iss' shn' => some (r, th, s'.fp, s'.top, s'.fsp, s'.fgp, s'.fgt, s'.fb, s'.fw, s'.wt, s'.fm, s'.pv, s'.ff, s'.tm, s'.fpl, s'.fru, s'.fr, s'.M, shr', tx', iss', shn', fre, frm, frd, N)) else k38 (x5 + 1) th s'.fp s'.top s'.fsp s'.fgp s'.fgt s'.fb s'.fw s'.wt s'.fm s'.pv s'.ff s'.tm s'.fpl s'.fru s'.fr s'.M shr tx iss shn fre frm frd N := by
  have hx20 := tok_len hx
  have hQ50 := hQ.1
  intro B
  induction B with
  | nil =>
    intro A c m s hA ht hl hm
    cases m with
    | zero => omega
    | succ m =>
      refine ⟨s, hl, ?_⟩
      show bx_reached_81 n nm nmm fs fu fk terms rules on p0 p1 p2 p3 k38 (lx_reached_81 n nm nmm fs fu fk terms rules on p0 p1 p2 p3 k38 m) x5 (nI 0) (nI c) (nI A.length) th s.fp s.top s.fsp s.fgp s.fgt s.fb s.fw s.wt s.fm s.pv s.ff s.tm s.fpl s.fru s.fr s.M shr tx iss shn fre frm frd N = _
      unfold bx_reached_81
      rw [List.append_nil] at hA
      rw [xr_0, hQ.2.2.2.1, hA, if_pos (Int32.le_refl _), pick_0, lss_nil, Nat.add_zero, xl_eq]
  | cons y B ih =>
    intro A c m s hA ht hl hm
    simp only [List.length_cons] at hm
    cases m with
    | zero => omega
    | succ m =>
      have hlen : Q.length = A.length + (B.length + 1) := by rw [hA]; simp
      have hk : A.length < Q.length := by omega
      obtain ⟨k1, k2, k3, k4⟩ := RQ_get hQ hk
      have rc := reachComes_ok (fp := s.fp) (top := x.length) hn (show 0 < 2 by decide) hQ hk (by omega)
      have en : nth Q A.length = y := by rw [hA]; exact nth_mid
      rw [en] at rc k1 k2 k3
      have hl2 : la (put s.fp x.length y) 0 x := la_put (Or.inl (by omega)) hl
      have cp := fx_compares_ok (n := n) (f := put s.fp x.length y) (l := y) (r := x) (a := x.length) (b := 0) put_la k1.1.1.1 k1.1.1.2.1 (by omega) hl2 hx.1.1.1 hx.1.1.2.1 (by omega) hn
      obtain ⟨s', z1, z2⟩ : ∃ s' : WS, la s'.fp 0 x ∧ lx_reached_81 n nm nmm fs fu fk terms rules on p0 p1 p2 p3 k38 (m + 1) x5 (nI 0) (nI c) (nI A.length) th s.fp s.top s.fsp s.fgp s.fgt s.fb s.fw s.wt s.fm s.pv s.ff s.tm s.fpl s.fru s.fr s.M shr tx iss shn fre frm frd N = if nI (c + lss (pick N A.length (y :: B)) x) = p3 then (xb5 (fx_shows n nm nmm s'.fp shr tx iss shn (nI 0)) fun r shr' tx' iss' shn' => some (r, th, s'.fp, s'.top, s'.fsp, s'.fgp, s'.fgt, s'.fb, s'.fw, s'.wt, s'.fm, s'.pv, s'.ff, s'.tm, s'.fpl, s'.fru, s'.fr, s'.M, shr', tx', iss', shn', fre, frm, frd, N)) else k38 (x5 + 1) th s'.fp s'.top s'.fsp s'.fgp s'.fgt s'.fb s'.fw s'.wt s'.fm s'.pv s'.ff s'.tm s'.fpl s'.fru s'.fr s'.M shr tx iss shn fre frm frd N := by
        have hA2 : Q = (A ++ [y]) ++ B := by rw [hA]; simp
        have hAl : (A ++ [y]).length = A.length + 1 := by simp
        have nx : ∀ c9 : Nat, ∃ s' : WS, la s'.fp 0 x ∧ lx_reached_81 n nm nmm fs fu fk terms rules on p0 p1 p2 p3 k38 m x5 (nI 0) (nI c9) (nI (A.length + 1)) th (put s.fp x.length y) (nI x.length) s.fsp s.fgp s.fgt s.fb s.fw s.wt s.fm s.pv s.ff s.tm s.fpl s.fru s.fr s.M shr tx iss shn fre frm frd N = if nI (c9 + lss (pick N (A.length + 1) B) x) = p3 then (xb5 (fx_shows n nm nmm s'.fp shr tx iss shn (nI 0)) fun r shr' tx' iss' shn' => some (r, th, s'.fp, s'.top, s'.fsp, s'.fgp, s'.fgt, s'.fb, s'.fw, s'.wt, s'.fm, s'.pv, s'.ff, s'.tm, s'.fpl, s'.fru, s'.fr, s'.M, shr', tx', iss', shn', fre, frm, frd, N)) else k38 (x5 + 1) th s'.fp s'.top s'.fsp s'.fgp s'.fgt s'.fb s'.fw s'.wt s'.fm s'.pv s'.ff s'.tm s'.fpl s'.fru s'.fr s'.M shr tx iss shn fre frm frd N := fun c9 => by
          obtain ⟨s', a1, a2⟩ := ih (A ++ [y]) c9 m (put s.fp x.length y, nI x.length, s.2.2) hA2 rfl hl2 (by omega)
          rw [hAl] at a2
          exact ⟨s', a1, a2⟩
        have st : lx_reached_81 n nm nmm fs fu fk terms rules on p0 p1 p2 p3 k38 (m + 1) x5 (nI 0) (nI c) (nI A.length) th s.fp s.top s.fsp s.fgp s.fgt s.fb s.fw s.wt s.fm s.pv s.ff s.tm s.fpl s.fru s.fr s.M shr tx iss shn fre frm frd N = lx_reached_81 n nm nmm fs fu fk terms rules on p0 p1 p2 p3 k38 m x5 (nI 0) (nI (c + if bt64 N A.length = true ∧ cmpL y x = -1 then 1 else 0)) (nI (A.length + 1)) th (put s.fp x.length y) (nI x.length) s.fsp s.fgp s.fgt s.fb s.fw s.wt s.fm s.pv s.ff s.tm s.fpl s.fru s.fr s.M shr tx iss shn fre frm frd N := by
          show bx_reached_81 n nm nmm fs fu fk terms rules on p0 p1 p2 p3 k38 (lx_reached_81 n nm nmm fs fu fk terms rules on p0 p1 p2 p3 k38 m) x5 (nI 0) (nI c) (nI A.length) th s.fp s.top s.fsp s.fgp s.fgt s.fb s.fw s.wt s.fm s.pv s.ff s.tm s.fpl s.fru s.fr s.M shr tx iss shn fre frm frd N = _
          unfold bx_reached_81
          have e0 : nI 0 = (0 : Int32) := rfl
          have c0 : nI c + 0 = nI c := Int32.add_zero _
          rw [xr_0, hQ.2.2.2.1, if_neg (by rw [nI_le_iff (by omega) (by omega)]; omega), ht]
          rw [e0] at rc cp ⊢
          rw [rc, xb3_s, fx_isCounted_ok (by omega), xb1_s]
          cases hb : bt64 N A.length with
          | true =>
            rw [if_pos rfl, if_neg (by decide), cp, xb1_s]
            by_cases hc : cmpL y x = -1
            · rw [hc, if_neg (by decide), xl_eq, xl_eq, nI_1, nI_1, if_pos ⟨rfl, rfl⟩]
            · have : (0 : Int32) ≤ cmpL y x := by
                rcases cmpL_vals y x with q | q | q
                · exact absurd q hc
                · rw [q]; decide
                · rw [q]; decide
              rw [if_pos this, xl_eq, xl_eq, nI_1, if_neg (fun q => hc q.2), c0]; rfl
          | false =>
            rw [if_pos (by decide), xl_eq, xl_eq, nI_1, if_neg (fun q => absurd q.1 (by decide)), c0]; rfl
        rw [st]
        obtain ⟨s', a1, a2⟩ := nx (c + if bt64 N A.length = true ∧ cmpL y x = -1 then 1 else 0)
        refine ⟨s', a1, a2.trans ?_⟩
        have e9 : c + (if bt64 N A.length = true ∧ cmpL y x = -1 then 1 else 0) + lss (pick N (A.length + 1) B) x = c + lss (pick N A.length (y :: B)) x := by
          cases hb : bt64 N A.length with
          | true =>
            rw [pick_t hb, lss_cons]
            by_cases hc : cmpL y x = -1
            · rw [if_pos ⟨rfl, hc⟩, if_pos hc]; omega
            · rw [if_neg (fun q => hc q.2), if_neg hc]; omega
          | false =>
            rw [pick_f hb, if_neg (fun q => absurd q.1 (by decide))]; omega
        rw [e9]
      exact ⟨s', z1, z2⟩
theorem lx38_ok {n : Nat} {nm nmm fs fu fk fre frm frd shr tx : Nat → Int32} {so ma : Nat → Nat} {un : Nat → Option Nat} {nv : Nat} {nmL : Nat → List Nat} {terms rules on p0 p1 p2 p3 iss shn : Int32} {N : Int64} {Q : List (List Nat)} (hn : 100000 ≤ n) (hsv : SV so un ma nv) (hnm : NMs so nv nm nmm nmL) (hQ : RQ so un ma nv fre frm 0 Q) :
    ∀ (d k m : Nat) (s : WS), k + d = Q.length → d < m →
      ∃ (r th' : Int32) (s' : WS) (shr' tx' : Nat → Int32) (iss' shn' : Int32), lx_reached_38 n nm nmm fs fu fk terms rules on p0 p1 p2 p3 m (nI k) 0 s.fp s.top s.fsp s.fgp s.fgt s.fb s.fw s.wt s.fm s.pv s.ff s.tm s.fpl s.fru s.fr s.M shr tx iss shn fre frm frd N = some (r, th', s'.fp, s'.top, s'.fsp, s'.fgp, s'.fgt, s'.fb, s'.fw, s'.wt, s'.fm, s'.pv, s'.ff, s'.tm, s'.fpl, s'.fru, s'.fr, s'.M, shr', tx', iss', shn', fre, frm, frd, N) ∧
        ((∃ i : Nat, k ≤ i ∧ i < Q.length ∧ bt64 N i = true ∧ nI (lss (pick N 0 Q) (nth Q i)) = p3 ∧ th' = 0 ∧ r = nI (txt nmL (nth Q i)).length ∧ SHW so un ma nv nmL (some (nth Q i)) shr' tx' iss' shn') ∨
         ((∀ i : Nat, k ≤ i → i < Q.length → bt64 N i = true → ¬ nI (lss (pick N 0 Q) (nth Q i)) = p3) ∧ th' = 3 ∧ r = 0 ∧ shr' = shr ∧ tx' = tx ∧ iss' = iss ∧ shn' = shn)) := by
  have hQ50 := hQ.1
  intro d
  induction d with
  | zero =>
    intro k m s hk hm
    cases m with
    | zero => omega
    | succ m =>
      refine ⟨0, 3, s, shr, tx, iss, shn, ?_, Or.inr ⟨fun i h1 h2 => by omega, rfl, rfl, rfl, rfl, rfl, rfl⟩⟩
      show bx_reached_38 n nm nmm fs fu fk terms rules on p0 p1 p2 p3 (lx_reached_38 n nm nmm fs fu fk terms rules on p0 p1 p2 p3 m) (nI k) 0 s.fp s.top s.fsp s.fgp s.fgt s.fb s.fw s.wt s.fm s.pv s.ff s.tm s.fpl s.fru s.fr s.M shr tx iss shn fre frm frd N = _
      unfold bx_reached_38
      rw [xr_0, hQ.2.2.2.1, if_pos (by rw [nI_le_iff (by omega) (by omega)]; omega)]
  | succ d ih =>
    intro k m s hk hm
    cases m with
    | zero => omega
    | succ m =>
      have hkQ : k < Q.length := by omega
      obtain ⟨k1, k2, k3, k4⟩ := RQ_get hQ hkQ
      have e0 : nI 0 = (0 : Int32) := rfl
      cases hb : bt64 N k with
      | false =>
        have st : lx_reached_38 n nm nmm fs fu fk terms rules on p0 p1 p2 p3 (m + 1) (nI k) 0 s.fp s.top s.fsp s.fgp s.fgt s.fb s.fw s.wt s.fm s.pv s.ff s.tm s.fpl s.fru s.fr s.M shr tx iss shn fre frm frd N = lx_reached_38 n nm nmm fs fu fk terms rules on p0 p1 p2 p3 m (nI (k + 1)) 0 s.fp s.top s.fsp s.fgp s.fgt s.fb s.fw s.wt s.fm s.pv s.ff s.tm s.fpl s.fru s.fr s.M shr tx iss shn fre frm frd N := by
          show bx_reached_38 n nm nmm fs fu fk terms rules on p0 p1 p2 p3 (lx_reached_38 n nm nmm fs fu fk terms rules on p0 p1 p2 p3 m) (nI k) 0 s.fp s.top s.fsp s.fgp s.fgt s.fb s.fw s.wt s.fm s.pv s.ff s.tm s.fpl s.fru s.fr s.M shr tx iss shn fre frm frd N = _
          unfold bx_reached_38
          rw [xr_0, hQ.2.2.2.1, if_neg (by rw [nI_le_iff (by omega) (by omega)]; omega), fx_isCounted_ok (by omega), xb1_s, hb, if_pos (by decide), xl_eq, nI_1]
        rw [st]
        obtain ⟨r, th', s', shr', tx', iss', shn', z1, z2⟩ := ih (k + 1) m s (by omega) (by omega)
        refine ⟨r, th', s', shr', tx', iss', shn', z1, ?_⟩
        rcases z2 with ⟨i, i1, i2⟩ | ⟨i1, i2⟩
        · exact Or.inl ⟨i, by omega, i2⟩
        · refine Or.inr ⟨fun i h1 h2 h3 => ?_, i2⟩
          by_cases e : i = k
          · rw [e, hb] at h3; exact absurd h3 (by decide)
          · exact i1 i (by omega) h2 h3
      | true =>
        have rc := reachComes_ok (fp := s.fp) (top := 0) hn (show 0 < 2 by decide) hQ hkQ (by decide)
        rw [Nat.zero_add] at rc
        obtain ⟨s1, a1, a2⟩ := lx81_ok (nm := nm) (nmm := nmm) (fs := fs) (fu := fu) (fk := fk) (frd := frd) (shr := shr) (tx := tx) (terms := terms) (rules := rules) (on := on) (p0 := p0) (p1 := p1) (p2 := p2) (p3 := p3) (th := 0) (x5 := nI k) (iss := iss) (shn := shn) (N := N) (k38 := lx_reached_38 n nm nmm fs fu fk terms rules on p0 p1 p2 p3 m) hn hQ k1 Q [] 0 n (put s.fp 0 (nth Q k), nI (nth Q k).length, s.2.2) rfl rfl put_la (by omega)
        have st : lx_reached_38 n nm nmm fs fu fk terms rules on p0 p1 p2 p3 (m + 1) (nI k) 0 s.fp s.top s.fsp s.fgp s.fgt s.fb s.fw s.wt s.fm s.pv s.ff s.tm s.fpl s.fru s.fr s.M shr tx iss shn fre frm frd N = if nI (lss (pick N 0 Q) (nth Q k)) = p3 then (xb5 (fx_shows n nm nmm s1.fp shr tx iss shn (nI 0)) fun r shr' tx' iss' shn' => some (r, 0, s1.fp, s1.top, s1.fsp, s1.fgp, s1.fgt, s1.fb, s1.fw, s1.wt, s1.fm, s1.pv, s1.ff, s1.tm, s1.fpl, s1.fru, s1.fr, s1.M, shr', tx', iss', shn', fre, frm, frd, N)) else lx_reached_38 n nm nmm fs fu fk terms rules on p0 p1 p2 p3 m (nI (k + 1)) 0 s1.fp s1.top s1.fsp s1.fgp s1.fgt s1.fb s1.fw s1.wt s1.fm s1.pv s1.ff s1.tm s1.fpl s1.fru s1.fr s1.M shr tx iss shn fre frm frd N := by
          rw [show 0 + lss (pick N ([] : List (List Nat)).length Q) (nth Q k) = lss (pick N 0 Q) (nth Q k) by rw [Nat.zero_add]; rfl, nI_1] at a2
          rw [← a2]
          show bx_reached_38 n nm nmm fs fu fk terms rules on p0 p1 p2 p3 (lx_reached_38 n nm nmm fs fu fk terms rules on p0 p1 p2 p3 m) (nI k) 0 s.fp s.top s.fsp s.fgp s.fgt s.fb s.fw s.wt s.fm s.pv s.ff s.tm s.fpl s.fru s.fr s.M shr tx iss shn fre frm frd N = _
          unfold bx_reached_38
          rw [e0] at rc
          rw [xr_0, hQ.2.2.2.1, if_neg (by rw [nI_le_iff (by omega) (by omega)]; omega), fx_isCounted_ok (by omega), xb1_s, hb, if_pos rfl, if_neg (by decide), rc, xb3_s]
          rfl
        rw [st]
        by_cases hp : nI (lss (pick N 0 Q) (nth Q k)) = p3
        · obtain ⟨shr', tx', y1, y2⟩ := shows_SHW (shr := shr) (tx := tx) (iss := iss) (shn := shn) (fp := s1.fp) (a := 0) hn hnm hsv.1 a1 k1 (by decide)
          rw [if_pos hp, y1, xb5_s]
          exact ⟨_, _, s1, _, _, _, _, rfl, Or.inl ⟨k, Nat.le_refl _, hkQ, hb, hp, rfl, rfl, y2⟩⟩
        · rw [if_neg hp]
          obtain ⟨r, th', s', shr', tx', iss', shn', z1, z2⟩ := ih (k + 1) m s1 (by omega) (by omega)
          refine ⟨r, th', s', shr', tx', iss', shn', z1, ?_⟩
          rcases z2 with ⟨i, i1, i2⟩ | ⟨i1, i2⟩
          · exact Or.inl ⟨i, by omega, i2⟩
          · refine Or.inr ⟨fun i h1 h2 h3 => ?_, i2⟩
            by_cases e : i = k
            · rw [e]; exact hp
            · exact i1 i (by omega) h2 h3
theorem fx_reached_ok {n : Nat} {nm nmm fs fu fk fre frm frd shr tx : Nat → Int32} {so ma : Nat → Nat} {un : Nat → Option Nat} {nv : Nat} {nmL : Nat → List Nat} {on th x y z u iss shn : Int32} {R : RulL} {Tm : List (List Nat)} {N0 : Int64} (s : WS) (hn : 100000 ≤ n) (hsg : SG fs fu so un) (hsv : SV so un ma nv) (hnm : NMs so nv nm nmm nmL) (h : KT so un ma nv fk Tm) (hR : KR2 so un ma nv fk R) :
    ∃ (r th' : Int32) (s' : WS) (shr' tx' : Nat → Int32) (iss' shn' : Int32) (fre' frm' frd' : Nat → Int32) (N' : Int64), fx_reached n th nm nmm fs fu s.fp s.top s.fsp fk (nI Tm.length) (nI R.length) on s.fgp s.fgt s.fb s.fw s.wt s.fm s.pv s.ff s.tm s.fpl s.fru s.fr s.M shr tx iss shn fre frm frd N0 x y z u = some (r, th', s'.fp, s'.top, s'.fsp, s'.fgp, s'.fgt, s'.fb, s'.fw, s'.wt, s'.fm, s'.pv, s'.ff, s'.tm, s'.fpl, s'.fru, s'.fr, s'.M, shr', tx', iss', shn', fre', frm', frd', N') ∧
      ((∃ (i j : Nat) (L : List (List Nat)), (i < Tm.length ∧ x = nI i) ∧ (j < 5 ∧ y = nI j) ∧ ¬ TMc so un R (ron on R.length) (nth Tm i) j z ∧ L.Pairwise klt ∧ (∀ w : List Nat, w ∈ L ↔ CNT so un R (ron on R.length) (nth Tm i) j z w) ∧ L.length ≤ 50 ∧
          ((∃ q : Nat, q < L.length ∧ u = nI q ∧ th' = 0 ∧ r = nI (txt nmL (nth L q)).length ∧ SHW so un ma nv nmL (some (nth L q)) shr' tx' iss' shn') ∨ (¬ isn u L.length ∧ th' = 3 ∧ r = 0 ∧ shr' = shr ∧ tx' = tx ∧ iss' = iss ∧ shn' = shn))) ∨
       (((∃ i j : Nat, (i < Tm.length ∧ x = nI i) ∧ (j < 5 ∧ y = nI j) ∧ TMc so un R (ron on R.length) (nth Tm i) j z ∧ th' = 4) ∨ (isn x Tm.length ∧ ¬ isn y 5 ∧ th' = 2) ∨ (¬ isn x Tm.length ∧ th' = 1)) ∧ r = 0 ∧ shr' = shr ∧ tx' = tx ∧ iss' = iss ∧ shn' = shn)) := by
  have hl := h.1
  unfold fx_reached
  rcases fx_noTerm_ok (n := n) (th := 0) (x := x) (k := Tm.length) (by omega) with ⟨h1, e1⟩ | ⟨h1, e1⟩
  · rw [e1, xb2_s, if_pos rfl]
    rcases fx_noDepth_ok (n := n) (th := 0) (x := y) (c := 2) with ⟨h2, e2⟩ | ⟨h2, e2⟩
    · obtain ⟨i, i1, i2⟩ := isn_of (by omega) h1
      obtain ⟨j, j1, j2⟩ := isn_of (by decide) h2
      rw [e2, xb2_s, if_pos rfl, i2, j2]
      obtain ⟨r, th', s', fre', frm', frd', N', g1, g2⟩ := lrc_ok (fre := fre) (frm := frm) (frd := frd) (on := on) (p2 := z) (code := 4) (th := 0) (N0 := N0) (j := j) s hn hsg hsv h hR i1 (by omega)
      rw [g1, xb22_s]
      rcases RCS_to g2 with ⟨q1, q2, q3, Q, q4, q5, q6⟩ | ⟨q1, q2, q3⟩
      · have hQ := q4.1
        obtain ⟨r2, th2, s2, shr', tx', iss', shn', z1, z2⟩ := lx38_ok (fs := fs) (fu := fu) (fk := fk) (frd := frd') (shr := shr) (tx := tx) (terms := nI Tm.length) (rules := nI R.length) (on := on) (p0 := nI i) (p1 := nI j) (p2 := z) (p3 := u) (iss := iss) (shn := shn) (N := N') hn hsv hnm q4 Q.length 0 n s' (by omega) (by omega)
        have e0 : nI 0 = (0 : Int32) := rfl
        rw [e0] at z1
        rw [if_neg (by rw [q1]; decide), q2, z1]
        have hp := srt_perm (pick N' 0 Q)
        have hk := srt_klt (P := pick N' 0 Q) (fun t ht => (q4.2.1 t (pick_sub.subset ht)).1.1.1) q5
        have hln : (srt (pick N' 0 Q)).length ≤ 50 := by
          rw [hp.length_eq]
          have := (pick_sub (N := N') (Q := Q) (k := 0)).length_le
          omega
        refine ⟨_, _, s2, _, _, _, _, _, _, _, _, rfl, Or.inl ⟨i, j, srt (pick N' 0 Q), ⟨i1, rfl⟩, ⟨j1, rfl⟩, q3, hk, fun w => (hp.mem_iff).trans (q6 w), hln, ?_⟩⟩
        rcases z2 with ⟨i9, _, b2, b3, b4, b5, b6, b7⟩ | ⟨b1, b2, b3⟩
        · have hmem : nth Q i9 ∈ srt (pick N' 0 Q) := hp.mem_iff.mpr (pick_mem.mpr ⟨i9, b2, by rw [Nat.zero_add]; exact b3, rfl⟩)
          obtain ⟨q, c1, c2⟩ := mem_nth hmem
          have ec : lss (pick N' 0 Q) (nth Q i9) = q := by
            rw [← lss_perm hp, ← c2]; exact lss_at hk c1
          rw [ec] at b4
          exact Or.inl ⟨q, c1, b4.symm, b5, by rw [c2]; exact b6, by rw [c2]; exact b7⟩
        · refine Or.inr ⟨fun hu => ?_, b2, b3⟩
          obtain ⟨q, c1, c2⟩ := isn_of (by omega) hu
          obtain ⟨i9, d1, d2, d3⟩ := pick_mem.mp (hp.mem_iff.mp (nth_mem c1))
          rw [Nat.zero_add] at d2
          refine b1 i9 (Nat.zero_le _) d1 d2 ?_
          rw [d3, c2, ← lss_perm hp, lss_at hk c1]
      · rw [if_pos q1]
        exact ⟨_, _, s', _, _, _, _, _, _, _, _, rfl, Or.inr ⟨Or.inl ⟨i, j, ⟨i1, rfl⟩, ⟨j1, rfl⟩, q3, q2⟩, rfl, rfl, rfl, rfl, rfl⟩⟩
    · rw [e2, xb2_s, if_neg (by decide)]
      exact ⟨_, _, s, _, _, _, _, _, _, _, _, rfl, Or.inr ⟨Or.inr (Or.inl ⟨h1, h2, rfl⟩), rfl, rfl, rfl, rfl, rfl⟩⟩
  · rw [e1, xb2_s, if_neg (by decide)]
    exact ⟨_, _, s, _, _, _, _, _, _, _, _, rfl, Or.inr ⟨Or.inr (Or.inr ⟨h1, rfl⟩), rfl, rfl, rfl, rfl, rfl⟩⟩
