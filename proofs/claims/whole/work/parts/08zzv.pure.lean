/-! ===== spreads: grow ===== -/
/-- a spread at level j: the first dn of its rows were asked -/
def SPS (so ma : Nat → Nat) (un : Nat → Option Nat) (nv : Nat) (R : RulL) (on : Int32) (t : List Nat) (j : Nat) (se re : Nat → Nat → Int32) (ns : Int64) (Q : List (List Nat)) (dn : Nat) : Prop :=
  RQc so ma un nv re Q ∧ (∀ x : List Nat, x ∈ Q ↔ rch so un R on t j x) ∧ dn ≤ Q.length ∧ se 0 0 = nI dn ∧ (∀ i : Nat, i < dn → ¬ TMs so un R on (nth Q i).length (nth Q i) ∧ ∀ x : List Nat, stp so un R on (nth Q i) x → x ∈ Q) ∧ (∀ (i : Nat) (w : List Nat), i < j → rch so un R on t i w → ¬ TMs so un R on w.length w) ∧ (∀ i : Nat, i < dn → (bt64 ns i = true ↔ nrm so un R on (nth Q i))) ∧ ∀ i : Nat, dn ≤ i → i < 64 → bt64 ns i = false
theorem SPS_not {so ma : Nat → Nat} {un : Nat → Option Nat} {nv : Nat} {R : RulL} {on : Int32} {t : List Nat} {j dn : Nat} {se re : Nat → Nat → Int32} {ns : Int64} {Q : List (List Nat)} (h : SPS so ma un nv R on t j se re ns Q dn) : ¬ TMr so un R on t j := by
  rintro (⟨i, w, h1, h2, h3⟩ | h1)
  · exact h.2.2.2.2.2.1 i w h1 h2 h3
  · exact not_TM50 h.2.1 h.1.2.1 h1
/-- what the spread is when it went all steps -/
def SPE (so ma : Nat → Nat) (un : Nat → Option Nat) (nv : Nat) (R : RulL) (on : Int32) (t : List Nat) (j : Nat) (p1 : Int32) (se re : Nat → Nat → Int32) (ns : Int64) : Prop :=
  ∃ Q : List (List Nat), RQc so ma un nv re Q ∧ (∀ x : List Nat, x ∈ Q ↔ rch so un R on t j x) ∧ ¬ TMc so un R on t j p1 ∧ (p1 = 0 → ∃ dn : Nat, SPS so ma un nv R on t j se re ns Q dn) ∧ (p1 ≠ 0 → (∀ i : Nat, i < Q.length → (bt64 ns i = true ↔ nrm so un R on (nth Q i))) ∧ ∀ i : Nat, Q.length ≤ i → i < 64 → bt64 ns i = false)
theorem lx_grow2_c {n no nv bits b L0 : Nat} {ga : Nat → Nat → Int32} {las : Nat → Bool} {so ma9 : Nat → Nat} {un : Nat → Option Nat} {nmL : Nat → List Nat} {R : RulL} {p1 : Int32} {t : List Nat} (hn : 100000000 ≤ n) (he : ENV ga las so ma9 un no nv nmL) (hmv : MVA so ma9 un las nv) (hU : RUP so ma9 un nv R) (hb9 : bits < 2 ^ R.length) (hb : b < 900) :
    ∀ (d a m : Nat) (se re sp rf ma ta : Nat → Nat → Int32) (ns : Int64) (w : Nat → Nat → Int64) (Q : List (List Nat)) (dn : Nat), a + d = b → d + 1 < m → SPS so ma9 un nv R (nI bits) t (L0 + a) se re ns Q dn → LSX sp ta w las so ma9 un nv R bits →
      ∃ (r : Int32) (se' re' sp' rf' ma' ta' : Nat → Nat → Int32) (ns' : Int64) (w' : Nat → Nat → Int64), lx_X6_grow_2 n ga (nI b) p1 m (nI a) se ns re sp rf ma ta w = some (r, se', ns', re', sp', rf', ma', ta', w') ∧ (∃ M : List (List Nat), TB ta' w' las M) ∧
        ((r = 1 ∧ LSX sp' ta' w' las so ma9 un nv R bits ∧ SPE so ma9 un nv R (nI bits) t (L0 + b) p1 se' re' ns') ∨ (r = 0 ∧ TMc so un R (nI bits) t (L0 + b) p1)) := by
  intro d
  induction d with
  | zero =>
    intro a m se re sp rf ma ta ns w Q dn hk hm hS hL
    cases m with
    | zero => omega
    | succ m =>
      have e : a = b := by omega
      subst e
      obtain ⟨s1, s2, s3, s4, s5, s6, s7, s8⟩ := hS
      have hS : SPS so ma9 un nv R (nI bits) t (L0 + a) se re ns Q dn := ⟨s1, s2, s3, s4, s5, s6, s7, s8⟩
      have hTB : ∃ M : List (List Nat), TB ta w las M := by
        obtain ⟨Nb, F, _, q, _⟩ := hL
        exact ⟨_, q⟩
      by_cases hp : p1 = 0
      · refine ⟨1, se, re, sp, rf, ma, ta, ns, w, ?_, hTB, Or.inl ⟨rfl, hL, Q, s1, s2, ?_, fun _ => ⟨dn, hS⟩, fun h => absurd hp h⟩⟩
        · show bx_X6_grow_2 n ga (nI a) p1 (lx_X6_grow_2 n ga (nI a) p1 m) _ _ _ _ _ _ _ _ _ = _
          unfold bx_X6_grow_2
          rw [if_neg (Int32.lt_irrefl (a := nI a)), if_pos rfl, if_pos hp]
        · rintro (q | ⟨q, _⟩)
          · exact SPS_not hS q
          · exact q hp
      · have st : lx_X6_grow_2 n ga (nI a) p1 (m + 1) (nI a) se ns re sp rf ma ta w = lx_X6_grow_31 n ga (nI a) p1 (lx_X6_grow_2 n ga (nI a) p1 m) n (nI a) (nI Q.length) (nI dn) se ns re sp rf ma ta w := by
          show bx_X6_grow_2 n ga (nI a) p1 (lx_X6_grow_2 n ga (nI a) p1 m) _ _ _ _ _ _ _ _ _ = _
          unfold bx_X6_grow_2
          rw [if_neg (Int32.lt_irrefl (a := nI a)), if_pos rfl, if_neg hp, s1.1.2.1, s4]
        have Ql := s1.2.1
        obtain ⟨se', re', sp', rf', ma', ta', ns', w', y0, y⟩ := lx_grow31_c (a := a) (b := a) (ga := ga) (p1 := p1) (k2 := lx_X6_grow_2 n ga (nI a) p1 m) (Q := Q) hn he hmv hU hb9 (by omega) (by omega) (Q.length - dn) dn n se re sp rf ma ta ns w [] (by omega) (by omega) (by rw [List.append_nil]; exact s1) hL s7 s8
        rw [st]
        rcases y with ⟨y1, y2, y3, y4, y5, y6, N', y7, _, y9⟩ | ⟨y1, y2⟩
        · have eN := y9 (Nat.lt_irrefl _)
          subst eN
          rw [List.append_nil] at y7
          refine ⟨1, se', re', sp', rf', ma', ta', ns', w', ?_, y0, Or.inl ⟨rfl, y3, Q, y7, s2, ?_, fun h => absurd h hp, fun _ => ⟨y5, y6⟩⟩⟩
          · rw [y1]
            cases m with
            | zero => omega
            | succ m =>
              show bx_X6_grow_2 n ga (nI a) p1 (lx_X6_grow_2 n ga (nI a) p1 m) _ _ _ _ _ _ _ _ _ = _
              unfold bx_X6_grow_2
              rw [if_neg (by rw [nI_lt_iff (by omega) (by omega)]; omega), if_neg (by rw [nI_inj (by omega) (by omega)]; omega)]
          · rintro (q | ⟨_, w0, q1, q2⟩)
            · exact SPS_not hS q
            · obtain ⟨i, i1, i2⟩ := mem_nth ((s2 w0).mpr q1)
              rw [← i2] at q2
              by_cases z : i < dn
              · exact (s5 i z).1 q2
              · exact y4 i (by omega) i1 q2
        · refine ⟨0, se', re', sp', rf', ma', ta', ns', w', y1, y0, Or.inr ⟨rfl, ?_⟩⟩
          rcases y2 with ⟨i, z1, z2, z3⟩ | ⟨z1, _⟩
          · exact Or.inr ⟨hp, nth Q i, (s2 _).mp (nth_mem z2), z3⟩
          · exact absurd z1 (Nat.lt_irrefl _)
  | succ d ih =>
    intro a m se re sp rf ma ta ns w Q dn hk hm hS hL
    cases m with
    | zero => omega
    | succ m =>
      obtain ⟨s1, s2, s3, s4, s5, s6, s7, s8⟩ := hS
      have hS : SPS so ma9 un nv R (nI bits) t (L0 + a) se re ns Q dn := ⟨s1, s2, s3, s4, s5, s6, s7, s8⟩
      have hab : a < b := by omega
      have st : lx_X6_grow_2 n ga (nI b) p1 (m + 1) (nI a) se ns re sp rf ma ta w = lx_X6_grow_31 n ga (nI b) p1 (lx_X6_grow_2 n ga (nI b) p1 m) n (nI a) (nI Q.length) (nI dn) se ns re sp rf ma ta w := by
        show bx_X6_grow_2 n ga (nI b) p1 (lx_X6_grow_2 n ga (nI b) p1 m) _ _ _ _ _ _ _ _ _ = _
        unfold bx_X6_grow_2
        rw [if_pos (by rw [nI_lt_iff (by omega) (by omega)]; exact hab), s1.1.2.1, s4]
      have Ql := s1.2.1
      obtain ⟨se', re', sp', rf', ma', ta', ns', w', y0, y⟩ := lx_grow31_c (a := a) (b := b) (ga := ga) (p1 := p1) (k2 := lx_X6_grow_2 n ga (nI b) p1 m) (Q := Q) hn he hmv hU hb9 (by omega) (by omega) (Q.length - dn) dn n se re sp rf ma ta ns w [] (by omega) (by omega) (by rw [List.append_nil]; exact s1) hL s7 s8
      rw [st]
      have hstep : ∀ (i : Nat) (x : List Nat), i < Q.length → stp so un R (nI bits) (nth Q i) x → rch so un R (nI bits) t (L0 + a + 1) x := fun i x hi hx => Or.inr ⟨nth Q i, (s2 _).mp (nth_mem hi), hx⟩
      rcases y with ⟨y1, y2, y3, y4, y5, y6, N', y7, y8, _⟩ | ⟨y1, y2⟩
      · have y8 := y8 hab
        rw [y1]
        have nt : ∀ i : Nat, i < Q.length → ¬ TMs so un R (nI bits) (nth Q i).length (nth Q i) := fun i hi => by
          by_cases q : i < dn
          · exact (s5 i q).1
          · exact y4 i (by omega) hi
        have all : ∀ (i : Nat) (x : List Nat), i < Q.length → stp so un R (nI bits) (nth Q i) x → x ∈ Q ++ N' := fun i x hi hx => by
          rw [y8 x, List.append_nil]
          by_cases q : i < dn
          · exact Or.inl ((s5 i q).2 x hx)
          · exact Or.inr ⟨i, by omega, hi, hx⟩
        have hS' : SPS so ma9 un nv R (nI bits) t (L0 + (a + 1)) se' re' ns' (Q ++ N') Q.length := by
          refine ⟨y7, fun x => ?_, by rw [List.length_append]; omega, y2, fun i hi => ?_, fun i w0 hi hw => ?_, fun i hi => ?_, y6⟩
          · constructor
            · intro hx
              rw [y8 x, List.append_nil] at hx
              rcases hx with h | ⟨i, h1, h2, h3⟩
              · exact Or.inl ((s2 x).mp h)
              · exact hstep i x h2 h3
            · intro hx
              rcases hx with h | ⟨w0, h1, h2⟩
              · exact List.mem_append_left _ ((s2 x).mpr h)
              · obtain ⟨i, i1, i2⟩ := mem_nth ((s2 w0).mpr h1)
                rw [← i2] at h2
                exact all i x i1 h2
          · rw [nth_app1 hi]
            exact ⟨nt i hi, fun x hx => all i x hi hx⟩
          · have hw2 : rch so un R (nI bits) t (L0 + a) w0 := rch_mono (by omega) hw
            obtain ⟨i9, i1, i2⟩ := mem_nth ((s2 w0).mpr hw2)
            rw [← i2]
            exact nt i9 i1
          · rw [nth_app1 hi]
            exact y5 i hi
        obtain ⟨r, se2, re2, sp2, rf2, ma2, ta2, ns2, w2, z1, z2, z3⟩ := ih (a + 1) m se' re' sp' rf' ma' ta' ns' w' (Q ++ N') Q.length (by omega) (by omega) hS' y3
        exact ⟨r, se2, re2, sp2, rf2, ma2, ta2, ns2, w2, z1, z2, z3⟩
      · refine ⟨0, se', re', sp', rf', ma', ta', ns', w', y1, y0, Or.inr ⟨rfl, Or.inl (TMr_mono (i := L0 + a + 1) (by omega) ?_)⟩⟩
        rcases y2 with ⟨i, z1, z2, z3⟩ | ⟨_, z2⟩
        · exact Or.inl ⟨L0 + a, nth Q i, by omega, (s2 _).mp (nth_mem z2), z3⟩
        · refine Or.inr (TM50_mono (fun x hx => ?_) z2)
          rcases hx with h | ⟨i, h1, h2, h3⟩
          · rw [List.append_nil] at h
            exact Or.inl ((s2 x).mp h)
          · exact hstep i x h2 h3
theorem fx_grow_c {n no nv bits b L0 dn : Nat} {ga se re sp rf ma ta : Nat → Nat → Int32} {w : Nat → Nat → Int64} {ns : Int64} {las : Nat → Bool} {so ma9 : Nat → Nat} {un : Nat → Option Nat} {nmL : Nat → List Nat} {R : RulL} {p1 : Int32} {t : List Nat} {Q : List (List Nat)} (hn : 100000000 ≤ n) (he : ENV ga las so ma9 un no nv nmL) (hmv : MVA so ma9 un las nv) (hU : RUP so ma9 un nv R) (hb9 : bits < 2 ^ R.length) (hb : b < 900) (hS : SPS so ma9 un nv R (nI bits) t L0 se re ns Q dn) (hL : LSX sp ta w las so ma9 un nv R bits) :
    ∃ (r : Int32) (se' re' sp' rf' ma' ta' : Nat → Nat → Int32) (ns' : Int64) (w' : Nat → Nat → Int64), fx_X6_grow n se ns re sp rf ma ta w ga (nI b) p1 = some (r, se', ns', re', sp', rf', ma', ta', w') ∧ (∃ M : List (List Nat), TB ta' w' las M) ∧
      ((r = 1 ∧ LSX sp' ta' w' las so ma9 un nv R bits ∧ SPE so ma9 un nv R (nI bits) t (L0 + b) p1 se' re' ns') ∨ (r = 0 ∧ TMc so un R (nI bits) t (L0 + b) p1)) :=
  lx_grow2_c hn he hmv hU hb9 hb b 0 n se re sp rf ma ta ns w Q dn (by omega) (by omega) hS hL
/-- a spread that begins -/
theorem begin_S {n rn i : Nat} {se re vr : Nat → Nat → Int32} {ns : Int64} {Tm : List (List Nat)} {so ma : Nat → Nat} {un : Nat → Option Nat} {nv : Nat} {R : RulL} {on : Int32} (hn : 100000 ≤ n) (hr : rn ≤ 1000) (hRW : RWS rn vr Tm) (hi : i < Tm.length) (hw : tok so un ma nv (nth Tm i)) :
    ∃ (se' re' : Nat → Nat → Int32), fx_X6_begin n se ns re rn vr (nI i) = some (se', 0, re') ∧ SPS so ma un nv R on (nth Tm i) 0 se' re' 0 [nth Tm i] 0 := by
  obtain ⟨se', re', a1, a2, a3⟩ := fx_begin6_c (se := se) (re := re) (ns := ns) hn hr hRW hi
  refine ⟨se', re', a1, ⟨a2, by simp, fun t ht => ?_, nodup_one⟩, fun x => ?_, Nat.zero_le _, a3, fun i h => absurd h (Nat.not_lt_zero _), fun i _ h => absurd h (Nat.not_lt_zero _), fun i h => absurd h (Nat.not_lt_zero _), fun i _ _ => bt64_0⟩
  · rw [List.mem_singleton.mp ht]; exact hw
  · rw [List.mem_singleton]; exact Iff.rfl
theorem lx_meets_c {n : Nat} {re rg : Nat → Nat → Int32} {so ma : Nat → Nat} {un : Nat → Option Nat} {nv : Nat} {Q P : List (List Nat)} (hn : 100000 ≤ n) (hQ : RQc so ma un nv re Q) (hP : RQc so ma un nv rg P) : ∀ (d k m : Nat), k + d = Q.length → d < m →
    (lx_X6_meets_2 n re rg m (nI k) = some 1 ∧ ∃ x ∈ Q, x ∈ P) ∨ (lx_X6_meets_2 n re rg m (nI k) = some 0 ∧ ∀ i : Nat, k ≤ i → i < Q.length → nth Q i ∉ P) := by
  have hQ50 := hQ.2.1
  have hP50 := hP.2.1
  intro d
  induction d with
  | zero =>
    intro k m hk hm
    cases m with
    | zero => omega
    | succ m =>
      refine Or.inr ⟨?_, fun i h1 h2 => by omega⟩
      show bx_X6_meets_2 n re rg (lx_X6_meets_2 n re rg m) (nI k) = _
      unfold bx_X6_meets_2
      rw [hQ.1.2.1, if_pos (by rw [nI_le_iff (by omega) (by omega)]; omega)]
  | succ d ih =>
    intro k m hk hm
    cases m with
    | zero => omega
    | succ m =>
      have hkQ : k < Q.length := by omega
      have st : ∀ o : Int32, fx_X2_indexOf n 51 rg 51 re (nI k) = some o → lx_X6_meets_2 n re rg (m + 1) (nI k) = if o < (0 : Int32) then lx_X6_meets_2 n re rg m (nI (k + 1)) else some 1 := fun o ho => by
        show bx_X6_meets_2 n re rg (lx_X6_meets_2 n re rg m) (nI k) = _
        unfold bx_X6_meets_2
        rw [hQ.1.2.1, if_neg (by rw [nI_le_iff (by omega) (by omega)]; omega), ho, xb1_s, xl_eq, nI_1]
      rcases fx_indexOf_c (n := n) (an := 51) (bn := 51) hn (by decide) (by decide) hP.1 hQ.1 hkQ (fun t ht => (hP.2.2.1 t ht).1.1.1) (hQ.2.2.1 _ (nth_mem hkQ)).1.1.1 with ⟨g1, g2⟩ | ⟨q, g1, g2, g3⟩
      · rw [st _ g2, if_pos (by decide)]
        rcases ih (k + 1) m (by omega) (by omega) with h | ⟨h, h'⟩
        · exact Or.inl h
        · refine Or.inr ⟨h, fun i h1 h2 => ?_⟩
          by_cases e : i = k
          · rw [e]; exact g1
          · exact h' i (by omega) h2
      · rw [st _ g3, if_neg (by rw [show (0 : Int32) = nI 0 from rfl, nI_lt_iff (by omega) (by decide)]; omega)]
        exact Or.inl ⟨rfl, nth Q k, nth_mem hkQ, by rw [← g2]; exact nth_mem g1⟩
theorem fx_meets_c {n : Nat} {re rg : Nat → Nat → Int32} {so ma : Nat → Nat} {un : Nat → Option Nat} {nv : Nat} {Q P : List (List Nat)} (hn : 100000 ≤ n) (hQ : RQc so ma un nv re Q) (hP : RQc so ma un nv rg P) : (fx_X6_meets n re rg = some 1 ∧ ∃ x ∈ Q, x ∈ P) ∨ (fx_X6_meets n re rg = some 0 ∧ ∀ x ∈ Q, x ∉ P) := by
  have hQ50 := hQ.2.1
  rcases lx_meets_c hn hQ hP Q.length 0 n (by omega) (by omega) with h | ⟨h, h'⟩
  · exact Or.inl h
  · refine Or.inr ⟨h, fun x hx => ?_⟩
    obtain ⟨i, i1, i2⟩ := mem_nth hx
    rw [← i2]; exact h' i (Nat.zero_le _) i1
