/-! ===== the stepper: rows as nodes, prepare ===== -/
theorem wf_fst {C : List Nat} {k : Nat} (h : wf k C) (hC : C ≠ []) : ∃ l1 l2 : List Nat, C = l1 ++ l2 ∧ wf 1 l1 := by
  have hk : k ≠ 0 := fun e => by
    subst e
    cases C with
    | nil => exact hC rfl
    | cons c l => exact absurd h.1 (Nat.lt_irrefl 0)
  obtain ⟨l1, l2, e, h1, _⟩ := wf_split (n := 1) (m := k - 1) (by rw [show 1 + (k - 1) = k by omega]; exact h)
  exact ⟨l1, l2, e, h1⟩
theorem seg : ∀ {ps : List (List Nat)} {P t S : List Nat}, wfs ps → wf 1 t → ps.flatten = P ++ (t ++ S) → ∃ q ∈ ps, ∃ P1 S1 : List Nat, q = P1 ++ (t ++ S1)
  | [], P, t, S, _, ht, e => by
    have l := congrArg List.length e
    rw [List.length_append, List.length_append] at l
    have := wf_pos ht
    have : ([] : List (List Nat)).flatten.length = 0 := rfl
    omega
  | q :: qs, P, t, S, hw, ht, e => by
    rw [List.flatten_cons] at e
    have hq := hw q List.mem_cons_self
    have hqs : wfs qs := fun z hz => hw z (List.mem_cons_of_mem _ hz)
    rcases List.append_eq_append_iff.mp e with ⟨P', e1, e2⟩ | ⟨C, e1, e2⟩
    · obtain ⟨z, z1, z2⟩ := seg hqs ht e2
      exact ⟨z, List.mem_cons_of_mem _ z1, z2⟩
    · by_cases hC : C = []
      · subst hC
        obtain ⟨z, z1, z2⟩ := seg (P := []) hqs ht e2.symm
        exact ⟨z, List.mem_cons_of_mem _ z1, z2⟩
      · rw [e1] at hq
        obtain ⟨m, hm⟩ := wf_suf hq
        obtain ⟨l1, l2, g1, g2⟩ := wf_fst hm hC
        rw [g1, List.append_assoc] at e2
        have := (wf_uniq ht g2 e2).1
        refine ⟨q, List.mem_cons_self, P, l2, ?_⟩
        rw [e1, g1, this]
theorem subrow_tok {so ma : Nat → Nat} {un : Nat → Option Nat} {nv : Nat} : ∀ {d : Nat} {r P t S : List Nat}, r.length ≤ d → tok so un ma nv r → r = P ++ (t ++ S) → wf 1 t → tok so un ma nv t
  | 0, r, _, _, _, hl, h, _, _ => by
    have := wf_pos h.1.1.1
    omega
  | d + 1, r, P, t, S, hl, h, e, ht => by
    cases P with
    | nil =>
      have e' : r ++ [] = t ++ S := by rw [List.append_nil]; exact e
      rw [← (wf_uniq h.1.1.1 ht e').1]; exact h
    | cons c P' =>
      have e2 := row_pts h.1.1.1
      rw [e] at e2
      have e3 := (List.cons.inj e2).2
      rw [← e] at e3
      obtain ⟨q, q1, P1, S1, q2⟩ := seg (fun q hq => (tok_pts h q hq).1.1.1) ht e3.symm
      have l := part_lt h.1.1.1 q1
      exact subrow_tok (d := d) (by omega) (tok_pts h q q1) q2 ht
theorem fx_fromRow_k {n held rn i no nv : Nat} {ga vr v : Nat → Nat → Int32} {w : Nat → Nat → Int64} {las : Nat → Bool} {A N : List (List Nat)} {so ma : Nat → Nat} {un : Nat → Option Nat} {nmL : Nat → List Nat} (hn : 100000 ≤ n) (he : ENV ga las so ma un no nv nmL) (hr : rn ≤ 1000) (hR : RWS rn vr A) (hi : i < A.length) (ht : tok so un ma nv (nth A i)) (hh : held ≤ 90) (hT : TBK v w las so ma un nv N) (hN : N.length + 20 ≤ 1024) (hs : v 0 1 = nI held) :
    ∃ (x : Nat) (v' : Nat → Nat → Int32) (w' : Nat → Nat → Int64) (E : List (List Nat)), fx_X8_fromRow n v w ga rn vr (nI i) = some (nI x, v', w') ∧ TBK v' w' las so ma un nv (N ++ E) ∧ x < (N ++ E).length ∧ nth (N ++ E) x = nth A i ∧ E.length ≤ 20 ∧ v' 0 1 = nI held ∧ ∀ j : Nat, j < held → v' 9 j = v 9 j := by
  have hs2 := fun (o : Nat) (h : so o ≠ 3) => (ENV_op he h).2.2
  have l20 := tok_len ht
  obtain ⟨x, v', w', E, a1, a2, a3, a4, a5, a6, a7, a8⟩ := fx_fromRow_c (n := n) hn he.2.2.1 hr hR hi ht.1.1.1 ht.1.1.2.1 (tok_ar he.2.1 hs2 ht) hh hT.1 (by omega) hs
  refine ⟨x, v', w', E, a1, ⟨a2, fun t hm => ?_⟩, a3, a4, by omega, a6, a7⟩
  rcases List.mem_append.mp hm with g | g
  · exact hT.2 t g
  · obtain ⟨_, P, S, e⟩ := a8 t g
    obtain ⟨j, j1, j2⟩ := List.mem_iff_getElem.mp hm
    have nd := (TB_get a2 j1).1.1
    have ej : nth (N ++ E) j = t := by
      unfold nth
      rw [List.getD_eq_getElem?_getD, List.getElem?_eq_getElem j1]; exact j2
    rw [ej] at nd
    exact subrow_tok (Nat.le_refl _) ht e nd
theorem bit8 : ∀ b : Fin 256, ∀ j : Fin 8, (((nI b.val >>> (nI j.val &&& 31)) &&& 1) = 0 ↔ b.val.testBit j.val = false) := by decide +kernel
/-- sides of rules as nodes -/
def LRN (u : Nat → Nat → Int32) (N R : List (List Nat)) (bits : Nat) (k : Nat) : Prop := ∀ j : Nat, j < k → bits.testBit j = true → (∃ y : Nat, y < N.length ∧ nth N y = nth R (2 * j) ∧ u 4 j = nI y) ∧ ∃ y : Nat, y < N.length ∧ nth N y = nth R (2 * j + 1) ∧ u 5 j = nI y
theorem LRN_ext {u : Nat → Nat → Int32} {N E R : List (List Nat)} {bits k : Nat} (h : LRN u N R bits k) : LRN u (N ++ E) R bits k := fun j hj hb9 => by
  obtain ⟨⟨y, a, b, c⟩, ⟨z, d, e, f⟩⟩ := h j hj hb9
  exact ⟨⟨y, (nth_pre a).1, by rw [(nth_pre a).2]; exact b, c⟩, z, (nth_pre d).1, by rw [(nth_pre d).2]; exact e, f⟩
theorem lx_prep_c {n bits no nv : Nat} {ga vr : Nat → Nat → Int32} {las : Nat → Bool} {R : List (List Nat)} {so ma : Nat → Nat} {un : Nat → Option Nat} {nmL : Nat → List Nat} (hn : 100000 ≤ n) (he : ENV ga las so ma un no nv nmL) (hR : RWS 16 vr R) (hb9 : bits < 256) (hbR : ∀ j : Nat, j < 8 → bits.testBit j = true → 2 * j + 1 < R.length) (htk : ∀ q ∈ R, tok so un ma nv q) :
    ∀ (k r m : Nat) (sp v : Nat → Nat → Int32) (w : Nat → Nat → Int64) (N : List (List Nat)), r + k = 8 → k < m → TBK v w las so ma un nv N → v 0 1 = nI 0 → N.length ≤ 40 * r → LRN sp N R bits r →
      ∃ (sp' v' : Nat → Nat → Int32) (w' : Nat → Nat → Int64) (E : List (List Nat)), lx_X7_prepare_14 n ga 16 vr (nI bits) m (nI r) sp v w = some (sp', v', w') ∧ TBK v' w' las so ma un nv (N ++ E) ∧ v' 0 1 = nI 0 ∧ (N ++ E).length ≤ 320 ∧ LRN sp' (N ++ E) R bits 8 ∧ sp' 0 1 = nI (N ++ E).length ∧ (∀ a : Nat, a ≠ 0 → a ≠ 4 → a ≠ 5 → sp' a = sp a) ∧ ∀ i : Nat, i ≠ 1 → sp' 0 i = sp 0 i
  | 0, r, m + 1, sp, v, w, N, hr, _, hT, hs, hN, hL => by
    have er : r = 8 := by omega
    subst er
    refine ⟨mu sp 0 1 (nI N.length), v, w, [], ?_, by rw [List.append_nil]; exact hT, hs, by rw [List.append_nil]; omega, ?_, by rw [List.append_nil, mu_eq, upd_eq], fun a h0 _ _ => by rw [mu_ne h0], fun i hi => by rw [mu_eq, upd_ne hi]⟩
    · show bx_X7_prepare_14 n ga 16 vr (nI bits) (lx_X7_prepare_14 n ga 16 vr (nI bits) m) (nI 8) sp v w = _
      unfold bx_X7_prepare_14
      rw [if_pos (by decide), hT.1.2.1]; rfl
    · rw [List.append_nil]
      intro j hj hbj
      obtain ⟨⟨y, a, b, c⟩, ⟨z, d, e, f⟩⟩ := hL j hj hbj
      exact ⟨⟨y, a, b, by rw [mu_ne (by decide)]; exact c⟩, z, d, e, by rw [mu_ne (by decide)]; exact f⟩
  | k + 1, r, m + 1, sp, v, w, N, hr, hm, hT, hs, hN, hL => by
    have hsh : lx_X7_prepare_14 n ga 16 vr (nI bits) (m + 1) (nI r) sp v w = bx_X7_prepare_14 n ga 16 vr (nI bits) (lx_X7_prepare_14 n ga 16 vr (nI bits) m) (nI r) sp v w := rfl
    rw [hsh]
    unfold bx_X7_prepare_14
    rw [if_neg (by rw [show (8 : Int32) = nI 8 from rfl, nI_le_iff (by decide) (by omega)]; omega), xl_eq, xl_eq]
    have hbit := bit8 ⟨bits, hb9⟩ ⟨r, by omega⟩
    by_cases q : bits.testBit r = false
    · rw [if_pos (hbit.mpr q), xl_eq, nI_1]
      refine lx_prep_c hn he hR hb9 hbR htk k (r + 1) m sp v w N (by omega) (by omega) hT hs (by omega) (fun j hj hbj => ?_)
      have : j ≠ r := fun e => by rw [e, q] at hbj; exact nomatch hbj
      exact hL j (by omega) hbj
    · have qt : bits.testBit r = true := by
        cases z : bits.testBit r with
        | true => rfl
        | false => exact absurd z q
      have hRl := hbR r (by omega) qt
      rw [if_neg (fun z => q (hbit.mp z)), xl_eq]
      obtain ⟨x, v1, w1, E1, a1, a2, a3, a4, a5, a6, _⟩ := fx_fromRow_k (n := n) (held := 0) hn he (by decide) hR (i := 2 * r) (by omega) (htk _ (nth_mem (by omega))) (by decide) hT (by omega) hs
      have hN1 : (N ++ E1).length = N.length + E1.length := List.length_append
      obtain ⟨y, v2, w2, E2, b1, b2, b3, b4, b5, b6, _⟩ := fx_fromRow_k (n := n) (held := 0) hn he (by decide) hR (i := 2 * r + 1) hRl (htk _ (nth_mem hRl)) (by decide) a2 (by omega) a6
      have hN2 : (N ++ E1 ++ E2).length = N.length + E1.length + E2.length := by rw [List.length_append, List.length_append]
      rw [show (2 : Int32) = nI 2 from rfl, nI_mul (by omega) (by decide) (by omega), a1, xb3_s, xwp_n (by omega) (by decide), xl_eq, xl_eq, nI_1, b1, xb3_s, xwp_n (by omega) (by decide), xl_eq, nI_1]
      obtain ⟨sp', v', w', E, g1, g2, g3, g4, g5, g6, g7, g8⟩ := lx_prep_c hn he hR hb9 hbR htk k (r + 1) m (mu (mu sp 4 r (nI x)) 5 r (nI y)) v2 w2 (N ++ E1 ++ E2) (by omega) (by omega) b2 b6 (by omega) (fun j hj hbj => by
        by_cases e : j = r
        · subst e
          refine ⟨⟨x, (nth_pre a3).1, by rw [(nth_pre a3).2]; exact a4, by rw [mu_ne (by decide), mu_eq, upd_eq]⟩, y, b3, b4, by rw [mu_eq, upd_eq]⟩
        · obtain ⟨⟨y1, c1, c2, c3⟩, ⟨z1, d1, d2, d3⟩⟩ := LRN_ext (E := E2) (LRN_ext (E := E1) hL) j (by omega) hbj
          exact ⟨⟨y1, c1, c2, by rw [mu_ne (by decide), mu_eq, upd_ne e]; exact c3⟩, z1, d1, d2, by rw [mu_eq, upd_ne e, mu_ne (by decide)]; exact d3⟩)
      refine ⟨sp', v', w', E1 ++ (E2 ++ E), g1, by rw [← List.append_assoc, ← List.append_assoc]; exact g2, g3, by rw [← List.append_assoc, ← List.append_assoc]; exact g4, by rw [← List.append_assoc, ← List.append_assoc]; exact g5, by rw [← List.append_assoc, ← List.append_assoc]; exact g6, fun a h0 h4 h5 => by rw [g7 a h0 h4 h5, mu_ne h5, mu_ne h4], fun i hi => by rw [g8 i hi, mu_ne (by decide), mu_ne (by decide)]⟩
theorem TB_las {v : Nat → Nat → Int32} {w : Nat → Nat → Int64} {las las' : Nat → Bool} (h : TB v w las []) : TB v w las' [] := ⟨h.1, h.2.1, h.2.2.1, fun i hi => absurd hi (Nat.not_lt_zero _), h.2.2.2.2⟩
theorem fx_prepare_c {n bits no nv : Nat} {ga vr sp v : Nat → Nat → Int32} {w : Nat → Nat → Int64} {las las0 : Nat → Bool} {R N : List (List Nat)} {so ma : Nat → Nat} {un : Nat → Option Nat} {nmL : Nat → List Nat} (hn : 100000 ≤ n) (he : ENV ga las so ma un no nv nmL) (hR : RWS 16 vr R) (hb9 : bits < 256) (hbR : ∀ j : Nat, j < 8 → bits.testBit j = true → 2 * j + 1 < R.length) (htk : ∀ q ∈ R, tok so un ma nv q) (hT : TB v w las0 N) :
    ∃ (sp' v' : Nat → Nat → Int32) (w' : Nat → Nat → Int64) (N' : List (List Nat)), fx_X7_prepare n sp v w ga 16 vr (nI bits) = some (sp', v', w') ∧ TBK v' w' las so ma un nv N' ∧ v' 0 1 = nI 0 ∧ N'.length ≤ 320 ∧ LRN sp' N' R bits 8 ∧ sp' 0 1 = nI N'.length ∧ sp' 0 0 = nI bits ∧ (∀ a : Nat, a ≠ 0 → a ≠ 4 → a ≠ 5 → sp' a = sp a) ∧ ∀ i : Nat, i ≠ 0 → i ≠ 1 → sp' 0 i = sp 0 i := by
  obtain ⟨v1, a1, a2, a3⟩ := fx_clear8_c (n := n) hn hT
  obtain ⟨sp', v', w', E, g1, g2, g3, g4, g5, g6, g7, g8⟩ := lx_prep_c (n := n) (las := las) hn he hR hb9 hbR htk 8 0 n (mu sp 0 0 (nI bits)) v1 w [] rfl (by omega) ⟨TB_las a2, fun t ht => absurd ht List.not_mem_nil⟩ a3 (Nat.zero_le _) (fun j hj => absurd hj (Nat.not_lt_zero j))
  refine ⟨sp', v', w', E, ?_, g2, g3, g4, g5, g6, by rw [g8 0 (by decide), mu_eq, upd_eq], fun a h0 h4 h5 => by rw [g7 a h0 h4 h5, mu_ne h0], fun i h0 h1 => by rw [g8 i h1, mu_eq, upd_ne h0]⟩
  unfold fx_X7_prepare
  rw [xl_eq, a1, xb1_s]
  exact g1
