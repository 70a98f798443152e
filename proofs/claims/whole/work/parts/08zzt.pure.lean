/-! ===== spreads: begin, keepNew ===== -/
theorem nodup_one {q : List Nat} : [q].Nodup := List.nodup_cons.mpr ⟨List.not_mem_nil, List.nodup_nil⟩
theorem StL_tokU {so ma : Nat → Nat} {un : Nat → Option Nat} {nv : Nat} {R : RulL} {on : Int32} {np : Nat} {w : List Nat} {S : List StpE} (hsv : SV so un ma nv) (hR : RUP so ma un nv R) (hw : tok so un ma nv w) (hnp : np ≤ w.length) (hS : StL so un R on np w S) : ∀ s ∈ S, tok so un ma nv s.2.2 ∧ s.1 < 20 ∧ s.2.1 < 8 := fun s hs => by
  obtain ⟨h1, h2, h3, h4⟩ := (hS.2.2.2.1 s).mp hs
  have hwl := tok_len hw
  have h8 := hR.1
  have hm := rul_mem h2
  exact ⟨stG_tok hsv hw (by omega) (hR.2 _ hm).1 (hR.2 _ hm).2.2.2.2 h4, by omega, by omega⟩
theorem stq_mem {S : List StpE} {k : Nat} (h : k < S.length) : stq S k ∈ S := by
  unfold stq
  rw [List.getD_eq_getElem?_getD, List.getElem?_eq_getElem h]
  exact List.getElem_mem h
theorem mem_stq {S : List StpE} {s : StpE} (h : s ∈ S) : ∃ k : Nat, k < S.length ∧ stq S k = s := by
  obtain ⟨k, hk, e⟩ := List.getElem_of_mem h
  refine ⟨k, hk, ?_⟩
  unfold stq
  rw [List.getD_eq_getElem?_getD, List.getElem?_eq_getElem hk]
  exact e
theorem slt_irr {s : StpE} : ¬ slt s s := by
  rintro (h | ⟨_, h | ⟨_, h⟩⟩)
  · exact absurd h (Nat.lt_irrefl _)
  · exact absurd h (Nat.lt_irrefl _)
  · exact klt_irrefl h
theorem stq_inj : ∀ {S : List StpE} {i j : Nat}, S.Pairwise slt → i < j → j < S.length → stq S i ≠ stq S j
  | a :: S, 0, j + 1, h, _, hj, e => by
    have hj' : j < S.length := by simp only [List.length_cons] at hj; omega
    have := (List.pairwise_cons.mp h).1 _ (stq_mem hj')
    have e' : a = stq S j := e
    rw [← e'] at this
    exact slt_irr this
  | a :: S, i + 1, j + 1, h, hij, hj, e => stq_inj (S := S) (i := i) (j := j) (List.pairwise_cons.mp h).2 (by omega) (by simp only [List.length_cons] at hj; omega) e
/-- the slots of steps are all of them -/
theorem stt_all {u : Nat → Nat → Int32} {A : List (List Nat)} {S : List StpE} (h : STT u A S) (hp : S.Pairwise slt) (hv : ∀ s ∈ S, s.1 < 20 ∧ s.2.1 < 8) : ∀ q : Nat, q < A.length → ∃ k : Nat, k < S.length ∧ (stq S k).2.2 = nth A q := by
  obtain ⟨h1, h2⟩ := h
  -- a list of the slots of the first k steps
  have go : ∀ k : Nat, k ≤ S.length → ∃ L : List Nat, L.length = k ∧ L.Nodup ∧ ∀ s ∈ L, s < A.length ∧ ∃ j : Nat, j < k ∧ nth A s = (stq S j).2.2 ∧ u 2 s = nI (stq S j).1 ∧ u 3 s = nI (stq S j).2.1 := by
    intro k
    induction k with
    | zero => exact fun _ => ⟨[], rfl, List.nodup_nil, fun s hs => absurd hs List.not_mem_nil⟩
    | succ k ih =>
      intro hk
      obtain ⟨L, l1, l2, l3⟩ := ih (by omega)
      obtain ⟨s, s1, s2, s3, s4, s5⟩ := h2 k (by omega)
      refine ⟨s :: L, by rw [List.length_cons, l1], List.nodup_cons.mpr ⟨fun hs => ?_, l2⟩, fun s' hs' => ?_⟩
      · obtain ⟨_, j, j1, j2, j3, j4⟩ := l3 s hs
        obtain ⟨p1, p2⟩ := hv _ (stq_mem (S := S) (k := j) (by omega))
        obtain ⟨p3, p4⟩ := hv _ (stq_mem (S := S) (k := k) (by omega))
        refine stq_inj hp j1 (by omega) ?_
        rw [s3] at j2
        rw [s4] at j3
        rw [s5] at j4
        rw [nI_inj (by omega) (by omega)] at j3 j4
        exact Prod.ext j3.symm (Prod.ext j4.symm j2.symm)
      · rcases List.mem_cons.mp hs' with e | e
        · rw [e]; exact ⟨s1, k, by omega, s3, s4, s5⟩
        · obtain ⟨a, j, b, c⟩ := l3 s' e
          exact ⟨a, j, by omega, c⟩
  obtain ⟨L, l1, l2, l3⟩ := go S.length (Nat.le_refl _)
  intro q hq
  by_cases hm : q ∈ L
  · obtain ⟨_, j, j1, j2, _⟩ := l3 q hm
    exact ⟨j, j1, j2.symm⟩
  · have := nodup_le (L := q :: L) (F := List.range A.length) (List.nodup_cons.mpr ⟨hm, l2⟩) (fun x hx => by
      rcases List.mem_cons.mp hx with e | e
      · rw [e]; exact List.mem_range.mpr hq
      · exact List.mem_range.mpr (l3 x e).1)
    rw [List.length_cons, List.length_range] at this
    omega
theorem fx_begin6_c {n rn i : Nat} {se re vr : Nat → Nat → Int32} {ns : Int64} {Tm : List (List Nat)} (hn : 100000 ≤ n) (hr : rn ≤ 1000) (hRW : RWS rn vr Tm) (hi : i < Tm.length) :
    ∃ (se' re' : Nat → Nat → Int32), fx_X6_begin n se ns re rn vr (nI i) = some (se', 0, re') ∧ RWS 51 re' [nth Tm i] ∧ se' 0 0 = nI 0 := by
  obtain ⟨re1, a1, a2⟩ := fx_clear_c (n := n) (rn := 51) (v := re)
  obtain ⟨re2, b1, b2⟩ := fx_copy_c (n := n) (bn := rn) (vb := vr) (B := Tm) (i := i) hn (by decide) hr a2 (by decide) hRW hi
  refine ⟨mu se 0 0 0, re2, ?_, b2, by rw [mu_eq, upd_eq]; rfl⟩
  unfold fx_X6_begin
  rw [a1, xb1_s, b1, xb1_s]; rfl
/-- rows reached -/
def RQc (so ma : Nat → Nat) (un : Nat → Option Nat) (nv : Nat) (re : Nat → Nat → Int32) (Q : List (List Nat)) : Prop := RWS 51 re Q ∧ Q.length ≤ 50 ∧ (∀ t ∈ Q, tok so un ma nv t) ∧ Q.Nodup
theorem lx_keepNew_c {n : Nat} {rf : Nat → Nat → Int32} {A : List (List Nat)} {so ma : Nat → Nat} {un : Nat → Option Nat} {nv : Nat} (hn : 100000 ≤ n) (hA : RWS 201 rf A) (hA2 : A.length ≤ 200) (ht : ∀ t ∈ A, tok so un ma nv t) :
    ∀ (d k m : Nat) (re : Nat → Nat → Int32) (Q : List (List Nat)), k + d = A.length → d < m → RQc so ma un nv re Q →
      ∃ (r : Int32) (re' : Nat → Nat → Int32), lx_X6_keepNew_2 n rf m (nI k) re = some (r, re') ∧
        ((r = 1 ∧ ∃ N : List (List Nat), RQc so ma un nv re' (Q ++ N) ∧ ∀ x : List Nat, x ∈ Q ++ N ↔ x ∈ Q ∨ ∃ j : Nat, k ≤ j ∧ j < A.length ∧ nth A j = x) ∨
         (r = 0 ∧ TM50 (fun x => x ∈ Q ∨ ∃ j : Nat, k ≤ j ∧ j < A.length ∧ nth A j = x))) := by
  intro d
  induction d with
  | zero =>
    intro k m re Q hk hm hQ
    cases m with
    | zero => omega
    | succ m =>
      refine ⟨1, re, ?_, Or.inl ⟨rfl, [], by rw [List.append_nil]; exact hQ, fun x => ⟨fun h => Or.inl (by rw [List.append_nil] at h; exact h), fun h => ?_⟩⟩⟩
      · show bx_X6_keepNew_2 n rf (lx_X6_keepNew_2 n rf m) (nI k) re = _
        unfold bx_X6_keepNew_2 fx_X7_used
        rw [xb1_s, hA.2.1, if_pos (by rw [nI_le_iff (by omega) (by omega)]; omega)]
      · rw [List.append_nil]
        rcases h with h | ⟨j, h1, h2, _⟩
        · exact h
        · omega
  | succ d ih =>
    intro k m re Q hk hm hQ
    cases m with
    | zero => omega
    | succ m =>
      have hkA : k < A.length := by omega
      have tk := ht _ (nth_mem hkA)
      obtain ⟨q1, q2, q3, q4⟩ := hQ
      have st : ∀ (o : Int32), fx_X2_indexOf n 51 re 201 rf (nI k) = some o → lx_X6_keepNew_2 n rf (m + 1) (nI k) re = if (0 : Int32) ≤ o then lx_X6_keepNew_2 n rf m (nI (k + 1)) re else (if nI Q.length < (50 : Int32) then (xb1 (fx_X2_copy n 51 re 201 rf (nI k)) fun v => lx_X6_keepNew_2 n rf m (nI (k + 1)) v) else some (0, re)) := fun o ho => by
        show bx_X6_keepNew_2 n rf (lx_X6_keepNew_2 n rf m) (nI k) re = _
        unfold bx_X6_keepNew_2 fx_X7_used
        rw [xb1_s, hA.2.1, if_neg (by rw [nI_le_iff (by omega) (by omega)]; omega), ho, xb1_s, q1.2.1]
        simp only [xl_eq, nI_1]
      have mem : ∀ (Q1 : List (List Nat)), (∀ x : List Nat, x ∈ Q1 ↔ x ∈ Q ∨ nth A k = x) → ∀ x : List Nat, (x ∈ Q1 ∨ ∃ j : Nat, k + 1 ≤ j ∧ j < A.length ∧ nth A j = x) ↔ (x ∈ Q ∨ ∃ j : Nat, k ≤ j ∧ j < A.length ∧ nth A j = x) := fun Q1 h1 x => by
        rw [h1 x]
        constructor
        · rintro ((h | h) | ⟨j, h2, h3, h4⟩)
          · exact Or.inl h
          · exact Or.inr ⟨k, Nat.le_refl _, hkA, h⟩
          · exact Or.inr ⟨j, by omega, h3, h4⟩
        · rintro (h | ⟨j, h2, h3, h4⟩)
          · exact Or.inl (Or.inl h)
          · by_cases e : j = k
            · rw [e] at h4; exact Or.inl (Or.inr h4)
            · exact Or.inr ⟨j, by omega, h3, h4⟩
      rcases fx_indexOf_c (n := n) (an := 51) (bn := 201) hn (by decide) (by decide) q1 hA hkA (fun t ht2 => (q3 t ht2).1.1.1) tk.1.1.1 with ⟨g1, g2⟩ | ⟨q, g1, g2, g3⟩
      · rw [st _ g2, if_neg (by decide)]
        by_cases hl : Q.length < 50
        · obtain ⟨re1, c1, c2⟩ := fx_copy_c (n := n) (bn := 201) (vb := rf) (B := A) (i := k) hn (by decide) (by decide) q1 (by omega) hA hkA
          rw [if_pos (by rw [show (50 : Int32) = nI 50 from rfl, nI_lt_iff (by omega) (by decide)]; exact hl), c1, xb1_s]
          have hQ1 : RQc so ma un nv re1 (Q ++ [nth A k]) := ⟨c2, by rw [List.length_append]; simp only [List.length_cons, List.length_nil]; omega, fun t ht2 => by
              rcases List.mem_append.mp ht2 with h | h
              · exact q3 t h
              · rw [List.mem_singleton.mp h]; exact tk, List.nodup_append.mpr ⟨q4, nodup_one, fun a ha b hb2 => by
              rw [List.mem_singleton.mp hb2]
              rintro rfl
              exact g1 ha⟩⟩
          obtain ⟨r, re', z1, z2⟩ := ih (k + 1) m re1 (Q ++ [nth A k]) (by omega) (by omega) hQ1
          have hmm := mem (Q ++ [nth A k]) (fun x => by rw [List.mem_append, List.mem_singleton]; exact ⟨fun h => h.elim Or.inl (fun e => Or.inr e.symm), fun h => h.elim Or.inl (fun e => Or.inr e.symm)⟩)
          refine ⟨r, re', z1, ?_⟩
          rcases z2 with ⟨y1, N, y2, y3⟩ | ⟨y1, y2⟩
          · rw [List.append_assoc] at y2 y3
            exact Or.inl ⟨y1, [nth A k] ++ N, y2, fun x => (y3 x).trans (hmm x)⟩
          · exact Or.inr ⟨y1, TM50_mono (fun x hx => (hmm x).mp hx) y2⟩
        · rw [if_neg (by rw [show (50 : Int32) = nI 50 from rfl, nI_lt_iff (by omega) (by decide)]; exact hl)]
          refine ⟨0, re, rfl, Or.inr ⟨rfl, nth A k :: Q, List.nodup_cons.mpr ⟨g1, q4⟩, by rw [List.length_cons]; omega, fun x hx => ?_⟩⟩
          rcases List.mem_cons.mp hx with e | e
          · exact Or.inr ⟨k, Nat.le_refl _, hkA, e.symm⟩
          · exact Or.inl e
      · rw [st _ g3, if_pos (by rw [show (0 : Int32) = nI 0 from rfl, nI_le_iff (by decide) (by omega)]; omega)]
        obtain ⟨r, re', z1, z2⟩ := ih (k + 1) m re Q (by omega) (by omega) ⟨q1, q2, q3, q4⟩
        have hmm := mem Q (fun x => ⟨fun h => Or.inl h, fun h => by
          rcases h with h | h
          · exact h
          · rw [← h, ← g2]; exact nth_mem g1⟩)
        refine ⟨r, re', z1, ?_⟩
        rcases z2 with ⟨y1, N, y2, y3⟩ | ⟨y1, y2⟩
        · exact Or.inl ⟨y1, N, y2, fun x => (y3 x).trans (hmm x)⟩
        · exact Or.inr ⟨y1, TM50_mono (fun x hx => (hmm x).mp hx) y2⟩
