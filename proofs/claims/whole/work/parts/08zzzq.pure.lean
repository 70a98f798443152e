/-! ===== reach, reached, meet: the class ===== -/
/-- a spread, grown from a told term -/
def GRO (so ma : Nat → Nat) (un : Nat → Option Nat) (nv : Nat) (R : RulL) (on : Int32) (t : List Nat) (j : Nat) (p2 : Int32) (re : Nat → Nat → Int32) (ns : Int64) : Prop :=
  ∃ Q : List (List Nat), RQc so ma un nv re Q ∧ ¬ TMc so un R on t j p2 ∧ (p2 = 0 → ∀ x : List Nat, x ∈ Q ↔ CNT so un R on t j p2 x) ∧ (p2 ≠ 0 → (pick ns 0 Q).Nodup ∧ (∀ x : List Nat, x ∈ pick ns 0 Q ↔ CNT so un R on t j p2 x) ∧ ∀ i : Nat, Q.length ≤ i → i < 64 → bt64 ns i = false)
theorem GRO_of {so ma : Nat → Nat} {un : Nat → Option Nat} {nv : Nat} {R : RulL} {on : Int32} {t : List Nat} {j : Nat} {p2 : Int32} {se re : Nat → Nat → Int32} {ns : Int64} (h : SPE so ma un nv R on t j p2 se re ns) : GRO so ma un nv R on t j p2 re ns := by
  obtain ⟨Q, q1, q2, q3, q4, q5⟩ := h
  refine ⟨Q, q1, q3, fun z x => ?_, fun z => ?_⟩
  · rw [q2 x]
    exact ⟨fun g => ⟨g, fun y => absurd z y⟩, fun g => g.1⟩
  · obtain ⟨b1, b2⟩ := q5 z
    refine ⟨List.Sublist.nodup pick_sub q1.2.2.2, fun x => ?_, b2⟩
    rw [pick_mem]
    constructor
    · rintro ⟨i, i1, i2, i3⟩
      rw [Nat.zero_add] at i2
      rw [← i3]
      exact ⟨(q2 _).mp (nth_mem i1), fun _ => (b1 i i1).mp i2⟩
    · rintro ⟨g1, g2⟩
      obtain ⟨i, i1, i2⟩ := mem_nth ((q2 x).mpr g1)
      exact ⟨i, i1, by rw [Nat.zero_add]; exact (b1 i i1).mpr (by rw [i2]; exact g2 z), i2⟩
/-- prepare, begin, grow -/
theorem spread_c {n no nv bits i j : Nat} {ga rt rs se re sp rf u v : Nat → Nat → Int32} {w : Nat → Nat → Int64} {ns : Int64} {las las0 : Nat → Bool} {so ma : Nat → Nat} {un : Nat → Option Nat} {nmL : Nat → List Nat} {A N0 : List (List Nat)} {R : RulL} {z : Int32} (hn : 100000000 ≤ n) (he : ENV ga las so ma un no nv nmL) (hmv : MVA so ma un las nv) (hA : RWS 30 rt A) (ht : ∀ t ∈ A, tok so un ma nv t) (hB : RWS 16 rs (sdl R)) (hU : RUP so ma un nv R) (hb9 : bits < 2 ^ R.length) (hT : TB v w las0 N0) (hi : i < A.length) (hj : j < 5) :
    ∃ (sp1 v1 : Nat → Nat → Int32) (w1 : Nat → Nat → Int64) (se1 re1 : Nat → Nat → Int32) (r : Int32) (se2 re2 sp2 rf2 u2 v2 : Nat → Nat → Int32) (ns2 : Int64) (w2 : Nat → Nat → Int64), fx_X7_prepare n sp v w ga 16 rs (nI bits) = some (sp1, v1, w1) ∧ fx_X6_begin n se ns re 30 rt (nI i) = some (se1, 0, re1) ∧ fx_X6_grow n se1 0 re1 sp1 rf u v1 w1 ga (nI j) z = some (r, se2, ns2, re2, sp2, rf2, u2, v2, w2) ∧ (∃ M : List (List Nat), TB v2 w2 las M) ∧
      ((r = 1 ∧ GRO so ma un nv R (nI bits) (nth A i) j z re2 ns2) ∨ (r = 0 ∧ TMc so un R (nI bits) (nth A i) j z)) := by
  have hn5 : 100000 ≤ n := by omega
  obtain ⟨sp1, v1, w1, c1, c2⟩ := prepare_S (n := n) (sp := sp) hn5 he hU hB hb9 hT
  obtain ⟨se1, re1, d1, d2⟩ := begin_S (n := n) (se := se) (re := re) (ns := ns) (R := R) (on := nI bits) hn5 (show 30 ≤ 1000 by decide) hA hi (ht _ (nth_mem hi))
  obtain ⟨r, se2, re2, sp2, rf2, u2, v2, ns2, w2, e1, e2, e3⟩ := fx_grow_c (rf := rf) (ma := u) (p1 := z) (b := j) hn he hmv hU hb9 (by omega) d2 c2
  rw [Nat.zero_add] at e3
  refine ⟨sp1, v1, w1, se1, re1, r, se2, re2, sp2, rf2, u2, v2, ns2, w2, c1, d1, e1, e2, ?_⟩
  rcases e3 with ⟨f1, f2, f3⟩ | ⟨f1, f2⟩
  · exact Or.inl ⟨f1, GRO_of f3⟩
  · exact Or.inr ⟨f1, f2⟩
theorem fx_reach_c {n no nv : Nat} {xx ga rt rs se re sp rf u v : Nat → Nat → Int32} {w : Nat → Nat → Int64} {ns : Int64} {las las0 : Nat → Bool} {so ma : Nat → Nat} {un : Nat → Option Nat} {nmL : Nat → List Nat} {A N0 : List (List Nat)} {R : RulL} {on x y z : Int32} (hn : 100000000 ≤ n) (he : ENV ga las so ma un no nv nmL) (hmv : MVA so ma un las nv) (hA : RWS 30 rt A) (ht : ∀ t ∈ A, tok so un ma nv t) (hB : RWS 16 rs (sdl R)) (hU : RUP so ma un nv R) (hx : xx 0 0 = ron on R.length) (hT : TB v w las0 N0) :
    ∃ (x9 r : Int32) (se' : Nat → Nat → Int32) (ns' : Int64) (re' sp' rf' u' v' : Nat → Nat → Int32) (w' : Nat → Nat → Int64), fx_X9_reach n xx rt rs se ns re sp rf u v w ga x y z = some (x9, r, se', ns', re', sp', rf', u', v', w') ∧ (∃ (las : Nat → Bool) (N : List (List Nat)), TB v' w' las N) ∧
      ((∃ i j : Nat, (i < A.length ∧ x = nI i) ∧ (j < 5 ∧ y = nI j) ∧
          ((¬ TMc so un R (ron on R.length) (nth A i) j z ∧ ∃ L : List (List Nat), L.Nodup ∧ (∀ w : List Nat, w ∈ L ↔ CNT so un R (ron on R.length) (nth A i) j z w) ∧ r = nI L.length ∧ x9 = 0) ∨ (TMc so un R (ron on R.length) (nth A i) j z ∧ r = 0 ∧ x9 = 2))) ∨
       (isn x A.length ∧ ¬ isn y 5 ∧ r = 0 ∧ x9 = 1) ∨ (¬ isn x A.length ∧ r = 0 ∧ x9 = 3)) := by
  have hAl := hA.1
  obtain ⟨bits, b1, b2⟩ := ron_bits (on := on) hU.1
  unfold fx_X9_reach
  rw [fx_checkTerm_c hA, xb1_s]
  by_cases h0 : isn x A.length
  · rw [if_pos h0, if_pos rfl, fx_checkDistance_c, xb1_s]
    by_cases h1 : isn y 5
    · obtain ⟨i, i1, i2⟩ := isn_of (by omega) h0
      obtain ⟨j, j1, j2⟩ := isn_of (by decide) h1
      obtain ⟨sp1, v1, w1, se1, re1, r, se2, re2, sp2, rf2, u2, v2, ns2, w2, c1, c2, c3, ⟨M, c4⟩, c5⟩ := spread_c (se := se) (re := re) (ns := ns) (sp := sp) (rf := rf) (u := u) (z := z) hn he hmv hA ht hB hU b1 hT i1 j1
      rw [if_pos h1, if_pos rfl, hx, b2, i2, c1, xb3_s, c2, xb3_s, j2, c3, xb9_s]
      rcases c5 with ⟨d1, Q, q1, q2, q3, q4⟩ | ⟨d1, d2⟩
      · rw [d1, if_neg (by decide)]
        by_cases hz : z = 0
        · rw [if_pos hz, q1.1.2.1]
          exact ⟨_, _, _, _, _, _, _, _, _, _, rfl, ⟨_, _, c4⟩, Or.inl ⟨i, j, ⟨i1, rfl⟩, ⟨j1, rfl⟩, Or.inl ⟨q2, Q, q1.2.2.2, q3 hz, rfl, rfl⟩⟩⟩
        · obtain ⟨p1, p2, p3⟩ := q4 hz
          rw [if_neg hz, fx_howMany_c (Q := Q) (by have := q1.2.1; omega) p3, xb1_s]
          exact ⟨_, _, _, _, _, _, _, _, _, _, rfl, ⟨_, _, c4⟩, Or.inl ⟨i, j, ⟨i1, rfl⟩, ⟨j1, rfl⟩, Or.inl ⟨q2, _, p1, p2, rfl, rfl⟩⟩⟩
      · rw [d1, if_pos rfl]
        exact ⟨_, _, _, _, _, _, _, _, _, _, rfl, ⟨_, _, c4⟩, Or.inl ⟨i, j, ⟨i1, rfl⟩, ⟨j1, rfl⟩, Or.inr ⟨d2, rfl, rfl⟩⟩⟩
    · rw [if_neg h1, if_neg (by decide)]
      exact ⟨_, _, _, _, _, _, _, _, _, _, rfl, ⟨_, _, hT⟩, Or.inr (Or.inl ⟨h0, h1, rfl, rfl⟩)⟩
  · rw [if_neg h0, if_neg (by decide)]
    exact ⟨_, _, _, _, _, _, _, _, _, _, rfl, ⟨_, _, hT⟩, Or.inr (Or.inr ⟨h0, rfl, rfl⟩)⟩
theorem pick_m1 : ∀ (Q : List (List Nat)) (k : Nat), k + Q.length ≤ 64 → pick (-1) k Q = Q
  | [], _, _ => rfl
  | q :: Q, k, h => by
    simp only [List.length_cons] at h
    have e : bt64 (-1) k = true := bt64_m1 ⟨k, by omega⟩
    rw [pick_t e, pick_m1 Q (k + 1) (by omega)]
theorem jx86_c {n no nv : Nat} {xx ga rt rs se re sw rw0 sp rf u v : Nat → Nat → Int32} {w : Nat → Nat → Int64} {ns N : Int64} {las : Nat → Bool} {so ma : Nat → Nat} {un : Nat → Option Nat} {nmL : Nat → List Nat} {Q : List (List Nat)} {x y z k : Int32} (hn : 100000 ≤ n) (he : ENV ga las so ma un no nv nmL) (hnl : NML so nv nmL) (hQ : RQc so ma un nv re Q) (hnd : (pick N 0 Q).Nodup) :
    ∃ (x9 r : Int32) (sw' rw' : Nat → Nat → Int32), jx_X9_reached_86 n xx rt rs ga x y z k k N se ns re sw rw0 sp rf u v w = some (x9, r, se, ns, re, sw', rw', sp, rf, u, v, w) ∧
      ∃ L : List (List Nat), L.Pairwise klt ∧ (∀ w : List Nat, w ∈ L ↔ w ∈ pick N 0 Q) ∧ L.length ≤ 50 ∧ ((∃ q : Nat, q < L.length ∧ k = nI q ∧ x9 = 0 ∧ r = nI (txt nmL (nth L q)).length ∧ SHC sw' rw' so ma un nv nmL (some (nth L q))) ∨ (¬ isn k L.length ∧ x9 = 4 ∧ r = 0 ∧ sw' = sw ∧ rw' = rw0)) := by
  have hp := srt_perm (pick N 0 Q)
  have hw : ∀ t ∈ Q, wf 1 t := fun t hm => (hQ.2.2.1 t hm).1.1.1
  have hk := srt_klt (P := pick N 0 Q) (fun t ht => hw t (pick_sub.subset ht)) hnd
  have hln : (srt (pick N 0 Q)).length ≤ 50 := by
    rw [hp.length_eq]
    have := (pick_sub (N := N) (Q := Q) (k := 0)).length_le
    have := hQ.2.1
    omega
  have hQ50 := hQ.2.1
  unfold jx_X9_reached_86
  rcases fx_nth_c (n := n) (N := N) (p := k) hn (show 51 ≤ 60 by decide) hQ.1 hw with ⟨q9, b2, b3, b4, b5⟩ | ⟨b1, b2⟩
  · have hmem : nth Q q9 ∈ srt (pick N 0 Q) := hp.mem_iff.mpr (pick_mem.mpr ⟨q9, b2, by rw [Nat.zero_add]; exact b3, rfl⟩)
    obtain ⟨q, c1, c2⟩ := mem_nth hmem
    have ec : lss (pick N 0 Q) (nth Q q9) = q := by
      rw [← lss_perm hp, ← c2]; exact lss_at hk c1
    rw [ec] at b4
    obtain ⟨sw', rw', g1, g2⟩ := fx_take_c (n := n) (sw := sw) (rw := rw0) hn he.1 he.2.2.2.2.1 hnl he.1.2.1 (by decide) hQ.1 b2 (hQ.2.2.1 _ (nth_mem b2))
    rw [b5, xb1_s, if_pos (by rw [show (0 : Int32) = nI 0 from rfl, nI_le_iff (by decide) (by omega)]; omega), g1, xb3_s]
    exact ⟨_, _, _, _, rfl, srt (pick N 0 Q), hk, fun w => hp.mem_iff, hln, Or.inl ⟨q, c1, b4.symm, rfl, by rw [c2], by rw [c2]; exact g2⟩⟩
  · rw [b2, xb1_s, if_neg (by decide)]
    refine ⟨_, _, _, _, rfl, srt (pick N 0 Q), hk, fun w => hp.mem_iff, hln, Or.inr ⟨fun hu => ?_, rfl, rfl, rfl, rfl⟩⟩
    obtain ⟨q, c1, c2⟩ := isn_of (by omega) hu
    obtain ⟨i9, d1, d2, d3⟩ := pick_mem.mp (hp.mem_iff.mp (nth_mem c1))
    rw [Nat.zero_add] at d2
    refine b1 i9 d1 d2 ?_
    rw [d3, c2, ← lss_perm hp, lss_at hk c1]
theorem fx_reached_c {n no nv : Nat} {xx ga rt rs se re sw rw0 sp rf u v : Nat → Nat → Int32} {w : Nat → Nat → Int64} {ns : Int64} {las las0 : Nat → Bool} {so ma : Nat → Nat} {un : Nat → Option Nat} {nmL : Nat → List Nat} {A N0 : List (List Nat)} {R : RulL} {on x y z k : Int32} (hn : 100000000 ≤ n) (he : ENV ga las so ma un no nv nmL) (hnl : NML so nv nmL) (hmv : MVA so ma un las nv) (hA : RWS 30 rt A) (ht : ∀ t ∈ A, tok so un ma nv t) (hB : RWS 16 rs (sdl R)) (hU : RUP so ma un nv R) (hx : xx 0 0 = ron on R.length) (hT : TB v w las0 N0) :
    ∃ (x9 r : Int32) (se' : Nat → Nat → Int32) (ns' : Int64) (re' sw' rw' sp' rf' u' v' : Nat → Nat → Int32) (w' : Nat → Nat → Int64), fx_X9_reached n xx rt rs se ns re sw rw0 sp rf u v w ga x y z k = some (x9, r, se', ns', re', sw', rw', sp', rf', u', v', w') ∧ (∃ (las : Nat → Bool) (N : List (List Nat)), TB v' w' las N) ∧
      ((∃ (i j : Nat) (L : List (List Nat)), (i < A.length ∧ x = nI i) ∧ (j < 5 ∧ y = nI j) ∧ ¬ TMc so un R (ron on R.length) (nth A i) j z ∧ L.Pairwise klt ∧ (∀ w : List Nat, w ∈ L ↔ CNT so un R (ron on R.length) (nth A i) j z w) ∧ L.length ≤ 50 ∧
          ((∃ q : Nat, q < L.length ∧ k = nI q ∧ x9 = 0 ∧ r = nI (txt nmL (nth L q)).length ∧ SHC sw' rw' so ma un nv nmL (some (nth L q))) ∨ (¬ isn k L.length ∧ x9 = 4 ∧ r = 0 ∧ sw' = sw ∧ rw' = rw0))) ∨
       (((∃ i j : Nat, (i < A.length ∧ x = nI i) ∧ (j < 5 ∧ y = nI j) ∧ TMc so un R (ron on R.length) (nth A i) j z ∧ x9 = 2) ∨ (isn x A.length ∧ ¬ isn y 5 ∧ x9 = 1) ∨ (¬ isn x A.length ∧ x9 = 3)) ∧ r = 0 ∧ sw' = sw ∧ rw' = rw0)) := by
  have hAl := hA.1
  obtain ⟨bits, b1, b2⟩ := ron_bits (on := on) hU.1
  unfold fx_X9_reached
  rw [fx_checkTerm_c hA, xb1_s]
  by_cases h0 : isn x A.length
  · rw [if_pos h0, if_pos rfl, fx_checkDistance_c, xb1_s]
    by_cases h1 : isn y 5
    · obtain ⟨i, i1, i2⟩ := isn_of (by omega) h0
      obtain ⟨j, j1, j2⟩ := isn_of (by decide) h1
      obtain ⟨sp1, v1, w1, se1, re1, r, se2, re2, sp2, rf2, u2, v2, ns2, w2, c1, c2, c3, ⟨M, c4⟩, c5⟩ := spread_c (se := se) (re := re) (ns := ns) (sp := sp) (rf := rf) (u := u) (z := z) hn he hmv hA ht hB hU b1 hT i1 j1
      rw [if_pos h1, if_pos rfl, hx, b2, i2, c1, xb3_s, c2, xb3_s, j2, c3, xb9_s]
      rcases c5 with ⟨d1, Q, q1, q2, q3, q4⟩ | ⟨d1, d2⟩
      · rw [d1, if_neg (by decide)]
        by_cases hz : z = 0
        · have pm := pick_m1 Q 0 (by have := q1.2.1; omega)
          obtain ⟨x9, r', sw', rw', g1, L, g2, g3, g4, g5⟩ := jx86_c (xx := xx) (rt := rt) (rs := rs) (se := se2) (sw := sw) (rw0 := rw0) (sp := sp2) (rf := rf2) (u := u2) (v := v2) (w := w2) (ns := ns2) (N := -1) (x := nI i) (y := nI j) (z := z) (k := k) (show 100000 ≤ n by omega) he hnl q1 (by rw [pm]; exact q1.2.2.2)
          rw [if_pos hz, g1]
          exact ⟨_, _, _, _, _, _, _, _, _, _, _, _, rfl, ⟨_, _, c4⟩, Or.inl ⟨i, j, L, ⟨i1, rfl⟩, ⟨j1, rfl⟩, q2, g2, fun w => (g3 w).trans (by rw [pm]; exact q3 hz w), g4, g5⟩⟩
        · obtain ⟨p1, p2, p3⟩ := q4 hz
          obtain ⟨x9, r', sw', rw', g1, L, g2, g3, g4, g5⟩ := jx86_c (xx := xx) (rt := rt) (rs := rs) (se := se2) (sw := sw) (rw0 := rw0) (sp := sp2) (rf := rf2) (u := u2) (v := v2) (w := w2) (ns := ns2) (N := ns2) (x := nI i) (y := nI j) (z := z) (k := k) (show 100000 ≤ n by omega) he hnl q1 p1
          rw [if_neg hz, g1]
          exact ⟨_, _, _, _, _, _, _, _, _, _, _, _, rfl, ⟨_, _, c4⟩, Or.inl ⟨i, j, L, ⟨i1, rfl⟩, ⟨j1, rfl⟩, q2, g2, fun w => (g3 w).trans (p2 w), g4, g5⟩⟩
      · rw [d1, if_pos rfl]
        exact ⟨_, _, _, _, _, _, _, _, _, _, _, _, rfl, ⟨_, _, c4⟩, Or.inr ⟨Or.inl ⟨i, j, ⟨i1, rfl⟩, ⟨j1, rfl⟩, d2, rfl⟩, rfl, rfl, rfl⟩⟩
    · rw [if_neg h1, if_neg (by decide)]
      exact ⟨_, _, _, _, _, _, _, _, _, _, _, _, rfl, ⟨_, _, hT⟩, Or.inr ⟨Or.inr (Or.inl ⟨h0, h1, rfl⟩), rfl, rfl, rfl⟩⟩
  · rw [if_neg h0, if_neg (by decide)]
    exact ⟨_, _, _, _, _, _, _, _, _, _, _, _, rfl, ⟨_, _, hT⟩, Or.inr ⟨Or.inr (Or.inr ⟨h0, rfl⟩), rfl, rfl, rfl⟩⟩
abbrev MeeR := Option (Int32 × Int32 × (Nat → Nat → Int32) × Int64 × (Nat → Nat → Int32) × (Nat → Nat → Int32) × Int64 × (Nat → Nat → Int32) × (Nat → Nat → Int32) × (Nat → Nat → Int32) × (Nat → Nat → Int32) × (Nat → Nat → Int32) × (Nat → Nat → Int64))
/-- where two told terms meet -/
def MEO (so : Nat → Nat) (un : Nat → Option Nat) (R : RulL) (on : Int32) (t t' : List Nat) (j : Nat) (o : MeeR) : Prop :=
  ∃ (x9 r th : Int32) (se re sf rg sp rf u v : Nat → Nat → Int32) (ns ng : Int64) (w : Nat → Nat → Int64), o = some (x9, r, se, ns, re, sf, ng, rg, sp, rf, u, v, w) ∧ (∃ (las : Nat → Bool) (N : List (List Nat)), TB v w las N) ∧ MEET so un R on t t' j r th ∧ ((th = 0 ∧ x9 = 0) ∨ (th = 3 ∧ x9 = 2))
theorem LSX_TB {sp v : Nat → Nat → Int32} {w : Nat → Nat → Int64} {las : Nat → Bool} {so ma : Nat → Nat} {un : Nat → Option Nat} {nv : Nat} {R : RulL} {bits : Nat} (h : LSX sp v w las so ma un nv R bits) : ∃ (las : Nat → Bool) (N : List (List Nat)), TB v w las N := by
  obtain ⟨Nb, F, _, l2, _⟩ := h
  exact ⟨_, _, l2⟩
theorem lx_meet_c {n no nv bits j : Nat} {xx ga rt rs : Nat → Nat → Int32} {las : Nat → Bool} {so ma : Nat → Nat} {un : Nat → Option Nat} {nmL : Nat → List Nat} {R : RulL} {p0 p1 : Int32} {t t' : List Nat} (hn : 100000000 ≤ n) (he : ENV ga las so ma un no nv nmL) (hmv : MVA so ma un las nv) (hU : RUP so ma un nv R) (hb9 : bits < 2 ^ R.length) (hj : j < 5) :
    ∀ (d k m : Nat) (se re sf rg sp rf u v : Nat → Nat → Int32) (ns ng : Int64) (w : Nat → Nat → Int64) (Q P : List (List Nat)) (dq dp : Nat), k + d = j + 1 → d < m → SPS so ma un nv R (nI bits) t (k - 1) se re ns Q dq → SPS so ma un nv R (nI bits) t' (k - 1) sf rg ng P dp → LSX sp v w las so ma un nv R bits → (∀ i : Nat, i < k → ¬ MT so un R (nI bits) t t' i) →
      MEO so un R (nI bits) t t' j (lx_X9_meet_57 n xx rt rs ga p0 p1 (nI j) m (nI k) se ns re sf ng rg sp rf u v w)
  | d, k, 0, se, re, sf, rg, sp, rf, u, v, ns, ng, w, Q, P, dq, dp, _, hm, _, _, _, _ => by omega
  | d, k, m + 1, se, re, sf, rg, sp, rf, u, v, ns, ng, w, Q, P, dq, dp, hk, hm, hQ, hP, hL, hno => by
    have hn5 : 100000 ≤ n := by omega
    show MEO so un R (nI bits) t t' j (bx_X9_meet_57 n xx rt rs ga p0 p1 (nI j) (lx_X9_meet_57 n xx rt rs ga p0 p1 (nI j) m) (nI k) se ns re sf ng rg sp rf u v w)
    unfold bx_X9_meet_57
    cases d with
    | zero =>
      have nb : ¬ TM2 so un R (nI bits) t t' (k - 1) := fun q => q.elim (SPS_not hQ) (SPS_not hP)
      rw [show k - 1 = j by omega] at nb
      rw [if_pos (by rw [nI_lt_iff (by omega) (by omega)]; omega)]
      exact ⟨_, _, 0, _, _, _, _, _, _, _, _, _, _, _, rfl, LSX_TB hL, Or.inr (Or.inl ⟨fun i hi => hno i (by omega), nb, rfl, rfl⟩), Or.inl ⟨rfl, rfl⟩⟩
    | succ d =>
      rw [if_neg (by rw [nI_lt_iff (by omega) (by omega)]; omega)]
      -- what comes when both stand at the level k
      have go : ∀ (se re sf rg sp rf u v : Nat → Nat → Int32) (ns ng : Int64) (w : Nat → Nat → Int64) (Q P : List (List Nat)) (dq dp : Nat), SPS so ma un nv R (nI bits) t k se re ns Q dq → SPS so ma un nv R (nI bits) t' k sf rg ng P dp → LSX sp v w las so ma un nv R bits → MEO so un R (nI bits) t t' j (xb1 (fx_X6_meets n re rg) fun r_5 => if r_5 = (0 : Int32) then (xl (nI k + (1)) fun x4_8 => lx_X9_meet_57 n xx rt rs ga p0 p1 (nI j) m x4_8 se ns re sf ng rg sp rf u v w) else (some ((0 : Int32), nI k, se, ns, re, sf, ng, rg, sp, rf, u, v, w))) := fun se re sf rg sp rf u v ns ng w Q P dq dp hQ hP hL => by
        rcases fx_meets_c (n := n) hn5 hQ.1 hP.1 with ⟨g1, x, g2, g3⟩ | ⟨g1, g2⟩
        · have nb : ¬ TM2 so un R (nI bits) t t' k := fun q => q.elim (SPS_not hQ) (SPS_not hP)
          rw [g1, xb1_s, if_neg (by decide)]
          exact ⟨_, _, 0, _, _, _, _, _, _, _, _, _, _, _, rfl, LSX_TB hL, Or.inl ⟨k, by omega, ⟨x, (hQ.2.1 x).mp g2, (hP.2.1 x).mp g3⟩, hno, nb, rfl, rfl⟩, Or.inl ⟨rfl, rfl⟩⟩
        · rw [g1, xb1_s, if_pos rfl, xl_eq, nI_1]
          refine lx_meet_c hn he hmv hU hb9 hj d (k + 1) m se re sf rg sp rf u v ns ng w Q P dq dp (by omega) (by omega) hQ hP hL (fun i hi => ?_)
          by_cases e : i = k
          · rw [e]
            rintro ⟨x, a1, a2⟩
            exact g2 x ((hQ.2.1 x).mpr a1) ((hP.2.1 x).mpr a2)
          · exact hno i (by omega)
      by_cases hk0 : k = 0
      · subst hk0
        rw [if_pos (by decide)]
        exact go se re sf rg sp rf u v ns ng w Q P dq dp hQ hP hL
      · rw [if_neg (by rw [show (0 : Int32) = nI 0 from rfl, nI_le_iff (by omega) (by decide)]; omega)]
        have e1k : k - 1 + 1 = k := by omega
        obtain ⟨r1, se1, re1, sp1, rf1, u1, v1, ns1, w1, a1, ⟨M1, a2⟩, a3⟩ := fx_grow_c (rf := rf) (ma := u) (p1 := 0) (b := 1) hn he hmv hU hb9 (by decide) hQ hL
        have a1' : fx_X6_grow n se ns re sp rf u v w ga 1 0 = some (r1, se1, ns1, re1, sp1, rf1, u1, v1, w1) := a1
        rw [e1k] at a3
        have noT : ∀ s : List Nat, TMc so un R (nI bits) s k 0 → TMr so un R (nI bits) s k := fun s hs => by
          rcases hs with q | ⟨q, _⟩
          · exact q
          · exact absurd rfl q
        rw [a1', xb9_s]
        rcases a3 with ⟨b1, b2, Q1, b3, b4, b5, b6, b7⟩ | ⟨b1, b2⟩
        · obtain ⟨dq1, b8⟩ := b6 rfl
          rw [b1, if_neg (by decide)]
          obtain ⟨r2, sf2, rg2, sp2, rf2, u2, v2, ng2, w2, c1, ⟨M2, c2⟩, c3⟩ := fx_grow_c (rf := rf1) (ma := u1) (p1 := 0) (b := 1) hn he hmv hU hb9 (by decide) hP b2
          have c1' : fx_X6_grow n sf ng rg sp1 rf1 u1 v1 w1 ga 1 0 = some (r2, sf2, ng2, rg2, sp2, rf2, u2, v2, w2) := c1
          rw [e1k] at c3
          rw [c1', xb9_s]
          rcases c3 with ⟨d1, d2, P1, d3, d4, d5, d6, d7⟩ | ⟨d1, d2⟩
          · obtain ⟨dp1, d8⟩ := d6 rfl
            rw [d1, if_neg (by decide)]
            exact go se1 re1 sf2 rg2 sp2 rf2 u2 v2 ns1 ng2 w2 Q1 P1 dq1 dp1 b8 d8 d2
          · rw [d1, if_pos rfl]
            refine ⟨_, _, 3, _, _, _, _, _, _, _, _, _, _, _, rfl, ⟨_, _, c2⟩, Or.inr (Or.inr ⟨k - 1, by omega, fun i hi => hno i (by omega), ?_, rfl, rfl⟩), Or.inr ⟨rfl, rfl⟩⟩
            rw [e1k]
            exact Or.inr (noT _ d2)
        · rw [b1, if_pos rfl]
          refine ⟨_, _, 3, _, _, _, _, _, _, _, _, _, _, _, rfl, ⟨_, _, a2⟩, Or.inr (Or.inr ⟨k - 1, by omega, fun i hi => hno i (by omega), ?_, rfl, rfl⟩), Or.inr ⟨rfl, rfl⟩⟩
          rw [e1k]
          exact Or.inl (noT _ b2)
theorem fx_meet_c {n no nv : Nat} {xx ga rt rs se re sf rg sp rf u v : Nat → Nat → Int32} {w : Nat → Nat → Int64} {ns ng : Int64} {las las0 : Nat → Bool} {so ma : Nat → Nat} {un : Nat → Option Nat} {nmL : Nat → List Nat} {A N0 : List (List Nat)} {R : RulL} {on x y z : Int32} (hn : 100000000 ≤ n) (he : ENV ga las so ma un no nv nmL) (hmv : MVA so ma un las nv) (hA : RWS 30 rt A) (ht : ∀ t ∈ A, tok so un ma nv t) (hB : RWS 16 rs (sdl R)) (hU : RUP so ma un nv R) (hx : xx 0 0 = ron on R.length) (hT : TB v w las0 N0) :
    (∃ i i' j : Nat, (i < A.length ∧ x = nI i) ∧ (i' < A.length ∧ y = nI i') ∧ (j < 5 ∧ z = nI j) ∧ MEO so un R (ron on R.length) (nth A i) (nth A i') j (fx_X9_meet n xx rt rs se ns re sf ng rg sp rf u v w ga x y z)) ∨
      (isn x A.length ∧ isn y A.length ∧ ¬ isn z 5 ∧ fx_X9_meet n xx rt rs se ns re sf ng rg sp rf u v w ga x y z = some (1, 0, se, ns, re, sf, ng, rg, sp, rf, u, v, w)) ∨ (¬ (isn x A.length ∧ isn y A.length) ∧ fx_X9_meet n xx rt rs se ns re sf ng rg sp rf u v w ga x y z = some (3, 0, se, ns, re, sf, ng, rg, sp, rf, u, v, w)) := by
  have hAl := hA.1
  have hn5 : 100000 ≤ n := by omega
  obtain ⟨bits, b1, b2⟩ := ron_bits (on := on) hU.1
  unfold fx_X9_meet
  rw [fx_checkTerm_c hA, xb1_s]
  by_cases h0 : isn x A.length
  · rw [if_pos h0, if_pos rfl, fx_checkTerm_c hA, xb1_s]
    by_cases h1 : isn y A.length
    · rw [if_pos h1, if_pos rfl, fx_checkDistance_c, xb1_s]
      by_cases h2 : isn z 5
      · obtain ⟨i, i1, i2⟩ := isn_of (by omega) h0
        obtain ⟨i', j1, j2⟩ := isn_of (by omega) h1
        obtain ⟨j, k1, k2⟩ := isn_of (by decide) h2
        obtain ⟨sp1, v1, w1, c1, c2⟩ := prepare_S (n := n) (sp := sp) hn5 he hU hB b1 hT
        obtain ⟨se1, re1, d1, d2⟩ := begin_S (n := n) (se := se) (re := re) (ns := ns) (R := R) (on := nI bits) hn5 (show 30 ≤ 1000 by decide) hA i1 (ht _ (nth_mem i1))
        obtain ⟨sf1, rg1, e1, e2⟩ := begin_S (n := n) (se := sf) (re := rg) (ns := ng) (R := R) (on := nI bits) hn5 (show 30 ≤ 1000 by decide) hA j1 (ht _ (nth_mem j1))
        rw [if_pos h2, if_pos rfl, hx, b2, i2, j2, k2, c1, xb3_s, d1, xb3_s, e1, xb3_s]
        exact Or.inl ⟨i, i', j, ⟨i1, rfl⟩, ⟨j1, rfl⟩, ⟨k1, rfl⟩, lx_meet_c hn he hmv hU b1 k1 (j + 1) 0 n se1 re1 sf1 rg1 sp1 rf u v1 0 0 w1 _ _ _ _ (by omega) (by omega) d2 e2 c2 (fun i hi => absurd hi (Nat.not_lt_zero _))⟩
      · rw [if_neg h2, if_neg (by decide)]
        exact Or.inr (Or.inl ⟨h0, h1, h2, rfl⟩)
    · rw [if_neg h1, if_neg (by decide)]
      exact Or.inr (Or.inr ⟨fun g => h1 g.2, rfl⟩)
  · rw [if_neg h0, if_neg (by decide)]
    exact Or.inr (Or.inr ⟨fun g => h0 g.1, rfl⟩)
