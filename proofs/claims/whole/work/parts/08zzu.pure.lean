/-! ===== spreads: grow, meets ===== -/
theorem list_20 {n no nv rn i bits : Nat} {ga vr sp rf u v : Nat → Nat → Int32} {w8 : Nat → Nat → Int64} {las : Nat → Bool} {so ma : Nat → Nat} {un : Nat → Option Nat} {nmL : Nat → List Nat} {Tm : List (List Nat)} {R : RulL} (hn : 100000000 ≤ n) (he : ENV ga las so ma un no nv nmL) (hmv : MVA so ma un las nv) (hr : rn ≤ 1000) (hU : RUP so ma un nv R) (hb9 : bits < 2 ^ R.length) (hL : LSX sp v w8 las so ma un nv R bits) (hRW : RWS rn vr Tm) (hi : i < Tm.length) (hw : tok so un ma nv (nth Tm i)) :
    ∃ (r : Int32) (sp' rf' u' v' : Nat → Nat → Int32) (w' : Nat → Nat → Int64), fx_X7_list n sp rf u v w8 ga rn vr (nI i) 20 = some (r, sp', rf', u', v', w') ∧ (∃ N' : List (List Nat), TB v' w' las N') ∧
      ((r = 1 ∧ LSX sp' v' w' las so ma un nv R bits ∧ ∃ S : List StpE, STF so un R bits (nth Tm i).length (nth Tm i) sp' rf' S) ∨ (r = 0 ∧ TMs so un R (nI bits) (nth Tm i).length (nth Tm i))) := by
  obtain ⟨r, sp', rf', u', v', w', K, c1, c2, c3, c4, c5, c6⟩ := list_S (rf := rf) (u := u) (most := 20) hn he hmv hr hU hb9 hL hRW hi hw (by decide) (by decide)
  have hl := tok_len hw
  have e : K = (nth Tm i).length := by omega
  rw [e] at c6
  exact ⟨r, sp', rf', u', v', w', c1, c5, c6⟩
/-- all steps of a row: what the found rows are -/
theorem STF_rows {so ma : Nat → Nat} {un : Nat → Option Nat} {nv bits : Nat} {R : RulL} {w : List Nat} {sp rf : Nat → Nat → Int32} {S : List StpE} (hsv : SV so un ma nv) (hU : RUP so ma un nv R) (hw : tok so un ma nv w) (h : STF so un R bits w.length w sp rf S) :
    ∃ A : List (List Nat), RWS 201 rf A ∧ A.length ≤ 200 ∧ STT sp A S ∧ A.length = S.length ∧ (∀ t ∈ A, tok so un ma nv t) ∧ (∀ x : List Nat, (∃ j : Nat, j < A.length ∧ nth A j = x) ↔ stp so un R (nI bits) w x) ∧ ¬ TMs so un R (nI bits) w.length w := by
  obtain ⟨A, a1, a2, a3, a4⟩ := h
  have htk := StL_tokU hsv hU hw (Nat.le_refl _) a4
  have all := stt_all a3 a4.1 (fun s hs => (htk s hs).2)
  have el : ∀ j : Nat, j < A.length → ∃ s ∈ S, s.2.2 = nth A j := fun j hj => by
    obtain ⟨k, k1, k2⟩ := all j hj
    exact ⟨_, stq_mem k1, k2⟩
  refine ⟨A, a1, a2, a3, a3.1.symm, fun t ht => ?_, fun x => ⟨?_, ?_⟩, a4.2.2.2.2⟩
  · obtain ⟨j, j1, j2⟩ := mem_nth ht
    obtain ⟨s, s1, s2⟩ := el j j1
    rw [← j2, ← s2]
    exact (htk s s1).1
  · rintro ⟨j, j1, j2⟩
    obtain ⟨s, s1, s2⟩ := el j j1
    exact ⟨s, (a4.2.2.2.1 s).mp s1, by rw [s2, j2]⟩
  · rintro ⟨s, s1, s2⟩
    obtain ⟨k, k1, k2⟩ := mem_stq ((a4.2.2.2.1 s).mpr s1)
    obtain ⟨q, q1, _, q3, _⟩ := a3.2 k k1
    exact ⟨q, q1, by rw [q3, k2, s2]⟩
abbrev GrwR := Option (Int32 × (Nat → Nat → Int32) × Int64 × (Nat → Nat → Int32) × (Nat → Nat → Int32) × (Nat → Nat → Int32) × (Nat → Nat → Int32) × (Nat → Nat → Int32) × (Nat → Nat → Int64))
abbrev K2gr := Int32 → (Nat → Nat → Int32) → Int64 → (Nat → Nat → Int32) → (Nat → Nat → Int32) → (Nat → Nat → Int32) → (Nat → Nat → Int32) → (Nat → Nat → Int32) → (Nat → Nat → Int64) → GrwR
theorem jx70_c {n e k : Nat} {ga : Nat → Nat → Int32} {p0 p1 x3 : Int32} {k2 : K2gr} {k31 : Int32 → Int32 → K2gr} {se re sp rf ma ta : Nat → Nat → Int32} {w : Nat → Nat → Int64} {ns : Int64} {A : List (List Nat)} {so : Nat → Nat} {un : Nat → Option Nat} {R : RulL} {bits : Nat} {q : List Nat} (hA : RWS 201 rf A) (hA2 : A.length ≤ 200) (hk : k < 60) (hst : ∀ x : List Nat, (∃ j : Nat, j < A.length ∧ nth A j = x) ↔ stp so un R (nI bits) q x) (hb0 : ∀ i : Nat, k ≤ i → i < 64 → bt64 ns i = false) :
    ∃ ns' : Int64, jx_X6_grow_70 n ga p0 p1 k2 k31 x3 (nI e) (nI k) se ns re sp rf ma ta w = k31 x3 (nI e) (nI (k + 1)) se ns' re sp rf ma ta w ∧ (bt64 ns' k = true ↔ nrm so un R (nI bits) q) ∧ (∀ i : Nat, i < k → bt64 ns' i = bt64 ns i) ∧ ∀ i : Nat, k + 1 ≤ i → i < 64 → bt64 ns' i = false := by
  unfold jx_X6_grow_70 fx_X7_used
  rw [xb1_s, hA.2.1]
  by_cases z : A.length = 0
  · have z2 : nI A.length = (0 : Int32) := by rw [z]; rfl
    rw [if_pos z2, xl_eq, xl_eq, xl_eq, xl_eq, nI_1]
    refine ⟨_, rfl, ?_, fun i hi => ?_, fun i h1 h2 => ?_⟩
    · rw [or64 (by omega) (by omega), hb0 k (Nat.le_refl _) (by omega)]
      refine ⟨fun _ y hy => ?_, fun _ => by simp⟩
      obtain ⟨j, j1, _⟩ := (hst y).mpr hy
      omega
    · rw [or64 (by omega) (by omega), decide_eq_false (show ¬ i = k by omega), Bool.or_false]
    · rw [or64 (by omega) (by omega), decide_eq_false (show ¬ i = k by omega), Bool.or_false, hb0 i (by omega) h2]
  · have z2 : ¬ nI A.length = (0 : Int32) := by rw [show (0 : Int32) = nI 0 from rfl, nI_inj (by omega) (by decide)]; exact z
    rw [if_neg z2, xl_eq, nI_1]
    refine ⟨_, rfl, ?_, fun i hi => rfl, fun i h1 h2 => hb0 i (by omega) h2⟩
    rw [hb0 k (Nat.le_refl _) (by omega)]
    refine ⟨fun q => absurd q (by decide), fun h => ?_⟩
    exact absurd ((hst _).mp ⟨0, by omega, rfl⟩) (h _)
theorem lx_grow31_c {n no nv bits a b : Nat} {ga : Nat → Nat → Int32} {las : Nat → Bool} {so ma9 : Nat → Nat} {un : Nat → Option Nat} {nmL : Nat → List Nat} {R : RulL} {p1 : Int32} {k2 : K2gr} {Q : List (List Nat)} (hn : 100000000 ≤ n) (he : ENV ga las so ma9 un no nv nmL) (hmv : MVA so ma9 un las nv) (hU : RUP so ma9 un nv R) (hb9 : bits < 2 ^ R.length) (ha : a < 1000) (hb : b < 1000) :
    ∀ (d k m : Nat) (se re sp rf ma ta : Nat → Nat → Int32) (ns : Int64) (w : Nat → Nat → Int64) (N : List (List Nat)), k + d = Q.length → d < m → RQc so ma9 un nv re (Q ++ N) → LSX sp ta w las so ma9 un nv R bits → (∀ i : Nat, i < k → (bt64 ns i = true ↔ nrm so un R (nI bits) (nth Q i))) → (∀ i : Nat, k ≤ i → i < 64 → bt64 ns i = false) →
      ∃ (se' re' sp' rf' ma' ta' : Nat → Nat → Int32) (ns' : Int64) (w' : Nat → Nat → Int64), (∃ M : List (List Nat), TB ta' w' las M) ∧
        ((lx_X6_grow_31 n ga (nI b) p1 k2 m (nI a) (nI Q.length) (nI k) se ns re sp rf ma ta w = k2 (nI (a + 1)) se' ns' re' sp' rf' ma' ta' w' ∧ se' 0 0 = nI Q.length ∧ LSX sp' ta' w' las so ma9 un nv R bits ∧ (∀ i : Nat, k ≤ i → i < Q.length → ¬ TMs so un R (nI bits) (nth Q i).length (nth Q i)) ∧ (∀ i : Nat, i < Q.length → (bt64 ns' i = true ↔ nrm so un R (nI bits) (nth Q i))) ∧ (∀ i : Nat, Q.length ≤ i → i < 64 → bt64 ns' i = false) ∧
            ∃ N' : List (List Nat), RQc so ma9 un nv re' (Q ++ N') ∧ (a < b → ∀ x : List Nat, x ∈ Q ++ N' ↔ x ∈ Q ++ N ∨ ∃ i : Nat, k ≤ i ∧ i < Q.length ∧ stp so un R (nI bits) (nth Q i) x) ∧ (¬ a < b → N' = N)) ∨
         (lx_X6_grow_31 n ga (nI b) p1 k2 m (nI a) (nI Q.length) (nI k) se ns re sp rf ma ta w = some (0, se', ns', re', sp', rf', ma', ta', w') ∧
            ((∃ i : Nat, k ≤ i ∧ i < Q.length ∧ TMs so un R (nI bits) (nth Q i).length (nth Q i)) ∨ (a < b ∧ TM50 (fun x => x ∈ Q ++ N ∨ ∃ i : Nat, k ≤ i ∧ i < Q.length ∧ stp so un R (nI bits) (nth Q i) x))))) := by
  intro d
  induction d with
  | zero =>
    intro k m se re sp rf ma ta ns w N hk hm hQ hL h1 h2
    cases m with
    | zero => omega
    | succ m =>
      have e : k = Q.length := by omega
      subst e
      have hTB : ∃ M : List (List Nat), TB ta w las M := by
        obtain ⟨Nb, F, _, q, _⟩ := hL
        exact ⟨_, q⟩
      refine ⟨mu se 0 0 (nI Q.length), re, sp, rf, ma, ta, ns, w, hTB, Or.inl ⟨?_, by rw [mu_eq, upd_eq], hL, fun i h3 h4 => by omega, h1, h2, N, hQ, fun _ x => ⟨fun h => Or.inl h, fun h => ?_⟩, fun _ => rfl⟩⟩
      · show bx_X6_grow_31 n ga (nI b) p1 k2 (lx_X6_grow_31 n ga (nI b) p1 k2 m) _ _ _ _ _ _ _ _ _ _ _ = _
        unfold bx_X6_grow_31
        rw [if_pos (Int32.le_refl _), xl_eq, xl_eq, nI_1]
      · rcases h with h | ⟨i, h3, h4, _⟩
        · exact h
        · omega
  | succ d ih =>
    intro k m se re sp rf ma ta ns w N hk hm hQ hL h1 h2
    cases m with
    | zero => omega
    | succ m =>
      have hQl := hQ.2.1
      rw [List.length_append] at hQl
      have hkQ : k < (Q ++ N).length := by rw [List.length_append]; omega
      have en : nth (Q ++ N) k = nth Q k := nth_app1 (by omega)
      have tk := hQ.2.2.1 _ (nth_mem hkQ)
      obtain ⟨r, sp1, rf1, ma1, ta1, w1, c1, c2, c3⟩ := list_20 (rf := rf) (u := ma) hn he hmv (rn := 51) (by decide) hU hb9 hL hQ.1 hkQ tk
      rw [en] at tk c3
      have st : lx_X6_grow_31 n ga (nI b) p1 k2 (m + 1) (nI a) (nI Q.length) (nI k) se ns re sp rf ma ta w = if r = (0 : Int32) then some ((0 : Int32), se, ns, re, sp1, rf1, ma1, ta1, w1) else (if nI b ≤ nI a then jx_X6_grow_70 n ga (nI b) p1 k2 (lx_X6_grow_31 n ga (nI b) p1 k2 m) (nI a) (nI Q.length) (nI k) se ns re sp1 rf1 ma1 ta1 w1 else (xb2 (fx_X6_keepNew n re rf1) fun r_33 v_re_34 => if r_33 = (0 : Int32) then (some ((0 : Int32), se, ns, v_re_34, sp1, rf1, ma1, ta1, w1)) else (jx_X6_grow_70 n ga (nI b) p1 k2 (lx_X6_grow_31 n ga (nI b) p1 k2 m) (nI a) (nI Q.length) (nI k) se ns v_re_34 sp1 rf1 ma1 ta1 w1))) := by
        show bx_X6_grow_31 n ga (nI b) p1 k2 (lx_X6_grow_31 n ga (nI b) p1 k2 m) _ _ _ _ _ _ _ _ _ _ _ = _
        unfold bx_X6_grow_31
        rw [if_neg (by rw [nI_le_iff (by omega) (by omega)]; omega), c1, xb6_s]
      rw [st]
      rcases c3 with ⟨d1, d2, S, d3⟩ | ⟨d1, d2⟩
      · obtain ⟨A, e1, e2, e3, e4, e5, e6, e7⟩ := STF_rows he.2.1 hU tk d3
        rw [d1, if_neg (by decide)]
        have nok : ∀ i : Nat, (∀ i : Nat, k + 1 ≤ i → i < Q.length → ¬ TMs so un R (nI bits) (nth Q i).length (nth Q i)) → k ≤ i → i < Q.length → ¬ TMs so un R (nI bits) (nth Q i).length (nth Q i) := fun i h h3 h4 => by
          by_cases q : i = k
          · rw [q]; exact e7
          · exact h i (by omega) h4
        by_cases hab : a < b
        · rw [if_neg (by rw [nI_le_iff (by omega) (by omega)]; omega)]
          obtain ⟨r2, re2, f1, f2⟩ := lx_keepNew_c (n := n) (by omega) e1 e2 e5 A.length 0 n re (Q ++ N) (by omega) (by omega) hQ
          have f1' : fx_X6_keepNew n re rf1 = some (r2, re2) := f1
          rw [f1', xb2_s]
          have exj : ∀ x : List Nat, (∃ j : Nat, 0 ≤ j ∧ j < A.length ∧ nth A j = x) ↔ stp so un R (nI bits) (nth Q k) x := fun x => by
            rw [← e6 x]
            exact ⟨fun ⟨j, _, h⟩ => ⟨j, h⟩, fun ⟨j, h⟩ => ⟨j, Nat.zero_le _, h⟩⟩
          rcases f2 with ⟨g1, N1, g2, g3⟩ | ⟨g1, g2⟩
          · rw [g1, if_neg (by decide)]
            obtain ⟨ns1, i1, i2, i3, i4⟩ := jx70_c (n := n) (e := Q.length) (ga := ga) (p0 := nI b) (p1 := p1) (x3 := nI a) (k2 := k2) (k31 := lx_X6_grow_31 n ga (nI b) p1 k2 m) (se := se) (re := re2) (sp := sp1) (ma := ma1) (ta := ta1) (w := w1) e1 e2 (show k < 60 by omega) e6 h2
            rw [i1]
            rw [List.append_assoc] at g2 g3
            obtain ⟨se', re', sp', rf', ma', ta', ns', w', y0, y⟩ := ih (k + 1) m se re2 sp1 rf1 ma1 ta1 ns1 w1 (N ++ N1) (by omega) (by omega) g2 d2 (fun i hi => by
              by_cases q : i = k
              · rw [q]; exact i2
              · rw [i3 i (by omega)]; exact h1 i (by omega)) i4
            have mem : ∀ x : List Nat, (x ∈ Q ++ (N ++ N1) ∨ ∃ i : Nat, k + 1 ≤ i ∧ i < Q.length ∧ stp so un R (nI bits) (nth Q i) x) ↔ (x ∈ Q ++ N ∨ ∃ i : Nat, k ≤ i ∧ i < Q.length ∧ stp so un R (nI bits) (nth Q i) x) := fun x => by
              rw [g3 x, exj x]
              constructor
              · rintro ((h | h) | ⟨i, h3, h4, h5⟩)
                · exact Or.inl h
                · exact Or.inr ⟨k, Nat.le_refl _, by omega, h⟩
                · exact Or.inr ⟨i, by omega, h4, h5⟩
              · rintro (h | ⟨i, h3, h4, h5⟩)
                · exact Or.inl (Or.inl h)
                · by_cases e : i = k
                  · rw [e] at h5; exact Or.inl (Or.inr h5)
                  · exact Or.inr ⟨i, by omega, h4, h5⟩
            refine ⟨se', re', sp', rf', ma', ta', ns', w', y0, ?_⟩
            rcases y with ⟨y1, y2, y3, y4, y5, y6, N', y7, y8, y9⟩ | ⟨y1, y2⟩
            · exact Or.inl ⟨y1, y2, y3, fun i => nok i y4, y5, y6, N', y7, fun _ x => (y8 hab x).trans (mem x), fun h => absurd hab h⟩
            · refine Or.inr ⟨y1, ?_⟩
              rcases y2 with ⟨i, z1, z2, z3⟩ | ⟨_, z2⟩
              · exact Or.inl ⟨i, by omega, z2, z3⟩
              · exact Or.inr ⟨hab, TM50_mono (fun x hx => (mem x).mp hx) z2⟩
          · rw [g1, if_pos rfl]
            refine ⟨_, _, _, _, _, _, _, _, c2, Or.inr ⟨rfl, Or.inr ⟨hab, TM50_mono (fun x hx => ?_) g2⟩⟩⟩
            rcases hx with h | h
            · exact Or.inl h
            · exact Or.inr ⟨k, Nat.le_refl _, by omega, (exj x).mp h⟩
        · rw [if_pos (by rw [nI_le_iff (by omega) (by omega)]; omega)]
          obtain ⟨ns1, i1, i2, i3, i4⟩ := jx70_c (n := n) (e := Q.length) (ga := ga) (p0 := nI b) (p1 := p1) (x3 := nI a) (k2 := k2) (k31 := lx_X6_grow_31 n ga (nI b) p1 k2 m) (se := se) (re := re) (sp := sp1) (ma := ma1) (ta := ta1) (w := w1) e1 e2 (show k < 60 by omega) e6 h2
          rw [i1]
          obtain ⟨se', re', sp', rf', ma', ta', ns', w', y0, y⟩ := ih (k + 1) m se re sp1 rf1 ma1 ta1 ns1 w1 N (by omega) (by omega) hQ d2 (fun i hi => by
            by_cases q : i = k
            · rw [q]; exact i2
            · rw [i3 i (by omega)]; exact h1 i (by omega)) i4
          refine ⟨se', re', sp', rf', ma', ta', ns', w', y0, ?_⟩
          rcases y with ⟨y1, y2, y3, y4, y5, y6, N', y7, y8, y9⟩ | ⟨y1, y2⟩
          · exact Or.inl ⟨y1, y2, y3, fun i => nok i y4, y5, y6, N', y7, fun h => absurd h hab, y9⟩
          · refine Or.inr ⟨y1, ?_⟩
            rcases y2 with ⟨i, z1, z2, z3⟩ | ⟨z1, z2⟩
            · exact Or.inl ⟨i, by omega, z2, z3⟩
            · exact absurd z1 hab
      · rw [d1, if_pos rfl]
        exact ⟨_, _, _, _, _, _, _, _, c2, Or.inr ⟨rfl, Or.inl ⟨k, Nat.le_refl _, by omega, d2⟩⟩⟩
