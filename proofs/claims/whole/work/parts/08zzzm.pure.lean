/-! ===== fill: the class ===== -/
/-- the variables' bindings as fill lays them -/
def FBN (N : List (List Nat)) (bi : Nat → Nat → Int32) (vv : Nat) (b : List Nat) (k : Nat) : Prop := ∀ c : Nat, c < k → (c = vv → ∃ y : Nat, y < N.length ∧ bi 1 c = nI y ∧ nth N y = b) ∧ (c ≠ vv → bi 1 c = -1)
theorem FBN_ext {N E : List (List Nat)} {bi : Nat → Nat → Int32} {vv : Nat} {b : List Nat} {k : Nat} (h : FBN N bi vv b k) : FBN (N ++ E) bi vv b k := fun c hc => ⟨fun e => by
  obtain ⟨y, y1, y2, y3⟩ := (h c hc).1 e
  exact ⟨y, (nth_pre y1).1, y2, by rw [(nth_pre y1).2]; exact y3⟩, (h c hc).2⟩
theorem lx_fill_c {n no nv i j vv : Nat} {ga rt : Nat → Nat → Int32} {las : Nat → Bool} {so ma : Nat → Nat} {un : Nat → Option Nat} {nmL : Nat → List Nat} {A : List (List Nat)} {rc sw rw0 : Nat → Nat → Int32} (hn : 100000 ≤ n) (he : ENV ga las so ma un no nv nmL) (hA : RWS 30 rt A) (ht : ∀ t ∈ A, tok so un ma nv t) (hj : j < A.length) (hv5 : vv < 5) :
    ∀ (d k m : Nat) (v bi : Nat → Nat → Int32) (w : Nat → Nat → Int64) (N : List (List Nat)), k + d = 5 → d < m → TBK v w las so ma un nv N → v 0 1 = nI 0 → N.length ≤ 20 * k → FBN N bi vv (nth A j) k →
      ∃ (v' bi' : Nat → Nat → Int32) (w' : Nat → Nat → Int64) (N' : List (List Nat)) (m' : Nat), lx_X9_fill_25 n rt ga (nI i) (nI vv) (nI j) m (nI k) v w bi rc sw rw0 = lx_X9_fill_25 n rt ga (nI i) (nI vv) (nI j) (m' + 1) (nI 5) v' w' bi' rc sw rw0 ∧ TBK v' w' las so ma un nv N' ∧ v' 0 1 = nI 0 ∧ N'.length ≤ 100 ∧ FBN N' bi' vv (nth A j) 5
  | 0, k, 0, v, bi, w, N, _, hm, _, _, _, _ => by omega
  | 0, k, m + 1, v, bi, w, N, hk, _, hT, hs, hN, hF => by
    have e5 : k = 5 := by omega
    subst e5
    exact ⟨v, bi, w, N, m, rfl, hT, hs, hN, hF⟩
  | d + 1, k, 0, v, bi, w, N, _, hm, _, _, _, _ => by omega
  | d + 1, k, m + 1, v, bi, w, N, hk, hm, hT, hs, hN, hF => by
    have st : lx_X9_fill_25 n rt ga (nI i) (nI vv) (nI j) (m + 1) (nI k) v w bi rc sw rw0 = bx_X9_fill_25 n rt ga (nI i) (nI vv) (nI j) (lx_X9_fill_25 n rt ga (nI i) (nI vv) (nI j) m) (nI k) v w bi rc sw rw0 := rfl
    rw [st]
    unfold bx_X9_fill_25
    rw [if_neg (show ¬ (5 : Int32) ≤ nI k by rw [show (5 : Int32) = nI 5 from rfl, nI_le_iff (by decide) (by omega)]; omega)]
    by_cases e : k = vv
    · obtain ⟨x, v1, w1, E, b1, b2, b3, b4, b5, b6, b7⟩ := fx_fromRow_k (n := n) (held := 0) hn he (by decide) hA hj (ht _ (nth_mem hj)) (by decide) hT (by omega) hs
      rw [if_pos (by rw [e]), b1, xb3_s, xwp_n (show k < 5 by omega) (by decide), xl_eq, nI_1]
      refine lx_fill_c hn he hA ht hj hv5 d (k + 1) m v1 _ w1 (N ++ E) (by omega) (by omega) b2 b6 (by rw [List.length_append]; omega) (fun c hc => ?_)
      rw [mu_eq]
      by_cases q : c = k
      · rw [q, upd_eq]
        exact ⟨fun _ => ⟨x, b3, rfl, b4⟩, fun z => absurd e z⟩
      · rw [upd_ne q]
        exact FBN_ext hF c (by omega)
    · rw [if_neg (fun g => e ((nI_inj (by omega) (by omega)).mp g)), xwp_n (show k < 5 by omega) (by decide), xl_eq, nI_1]
      refine lx_fill_c hn he hA ht hj hv5 d (k + 1) m v _ w N (by omega) (by omega) hT hs (by omega) (fun c hc => ?_)
      rw [mu_eq]
      by_cases q : c = k
      · rw [q, upd_eq]
        exact ⟨fun z => absurd z e, fun _ => rfl⟩
      · rw [upd_ne q]
        exact hF c (by omega)
theorem fx_fill_c {n no nv : Nat} {ga rt v bi rc sw rw0 : Nat → Nat → Int32} {w : Nat → Nat → Int64} {las las0 : Nat → Bool} {so ma : Nat → Nat} {un : Nat → Option Nat} {nmL : Nat → List Nat} {A N0 : List (List Nat)} {x z y : Int32} (hn : 100000 ≤ n) (he : ENV ga las so ma un no nv nmL) (hnl : NML so nv nmL) (hA : RWS 30 rt A) (ht : ∀ t ∈ A, tok so un ma nv t) (hT : TB v w las0 N0) :
    ∃ (x9 r : Int32) (v' : Nat → Nat → Int32) (w' : Nat → Nat → Int64) (bi' rc' sw' rw' : Nat → Nat → Int32), fx_X9_fill n rt v w ga bi rc sw rw0 x z y = some (x9, r, v', w', bi', rc', sw', rw') ∧ (∃ (las : Nat → Bool) (N : List (List Nat)), TB v' w' las N) ∧
      ((∃ (i vv j : Nat), (i < A.length ∧ x = nI i) ∧ (vv < nv ∧ z = nI vv) ∧ (j < A.length ∧ y = nI j) ∧
          ((great so (putv so un vv (nth A j) (nth A i)) = false ∧ x9 = 0 ∧ r = nI (txt nmL (putv so un vv (nth A j) (nth A i))).length ∧ SHC sw' rw' so ma un nv nmL (some (putv so un vv (nth A j) (nth A i)))) ∨
           (great so (putv so un vv (nth A j) (nth A i)) = true ∧ x9 = 2 ∧ r = 0 ∧ sw' = sw ∧ rw' = rw0))) ∨
       (¬ (isn x A.length ∧ isn z nv ∧ isn y A.length) ∧ x9 = 3 ∧ r = 0 ∧ sw' = sw ∧ rw' = rw0)) := by
  have hAl := hA.1
  have hsv := he.2.1
  have h5 := hsv.1
  unfold fx_X9_fill
  rw [fx_checkTerm_c hA, xb1_s]
  by_cases h0 : isn x A.length
  · rw [if_pos h0, if_pos rfl, fx_checkVariable_c he.1, xb1_s]
    by_cases h1 : isn z nv
    · rw [if_pos h1, if_pos rfl, fx_checkTerm_c hA, xb1_s]
      by_cases h2 : isn y A.length
      · obtain ⟨i, i1, i2⟩ := isn_of (by omega) h0
        obtain ⟨vv, q1, q2⟩ := isn_of (by omega) h1
        obtain ⟨j, j1, j2⟩ := isn_of (by omega) h2
        have ti := ht _ (nth_mem i1)
        have tj := ht _ (nth_mem j1)
        have li := tok_len ti
        obtain ⟨v1, a1, a2, a3⟩ := fx_clear8_c (n := n) hn hT
        obtain ⟨v2, bi2, w2, N2, m', b1, b2, b3, b4, b5⟩ := lx_fill_c (n := n) (i := i) (rc := rc) (sw := sw) (rw0 := rw0) hn he hA ht j1 (show vv < 5 by omega) 5 0 n v1 bi w [] rfl (by omega) (TBK_nil (las' := las) a2) a3 (by decide) (fun c hc => absurd hc (Nat.not_lt_zero _))
        obtain ⟨px, v3, w3, E3, c1, c2, c3, c4, c5, c6, c7⟩ := fx_fromRow_k (n := n) (held := 0) hn he (by decide) hA i1 ti (by decide) b2 (by omega) b3
        obtain ⟨hv1, hv2⟩ := von_id (so := so) (un := un) (v := vv) (t := nth A i) hsv tj ti.2.2
        have b5' := FBN_ext (E := E3) b5
        have bnc : BNC (N2 ++ E3) (bi2 1) 5 0 (fun c => if c = vv then nth A j else [c]) (nth (N2 ++ E3) px) := fun c hc hc5 => by
          rw [c4] at hc
          have cn : c < nv := by
            rcases ti.2.2 c hc with g | ⟨g, _⟩
            · exact g
            · omega
          refine ⟨by omega, ?_⟩
          obtain ⟨f1, f2⟩ := b5' c (by omega)
          rw [Nat.zero_add]
          by_cases e : c = vv
          · obtain ⟨y', y1, y2, y3⟩ := f1 e
            exact Or.inr ⟨y', y1, y2, by rw [y3]; show _ = if c = vv then nth A j else [c]; rw [if_pos e]⟩
          · exact Or.inl ⟨f2 e, by show (if c = vv then nth A j else [c]) = [c]; rw [if_neg e]⟩
        have lN : (N2 ++ E3).length ≤ 120 := by rw [List.length_append]; omega
        obtain ⟨r, v4, w4, E4, d1, d2, d3, d4, d5, d6⟩ := fx_put8_c (n := n) (bn := 5) (b := 0) (fb := bi2 1) (sg := fun c => if c = vv then nth A j else [c]) hn he (by decide) 23 px 0 0 (N2 ++ E3) v3 w3 c3 (by rw [c4]; omega) (by rw [c4]; omega) c6 (by rw [c4]; omega) (by rw [c4]; omega) c2 bnc
        rw [c4] at d3
        have d3' : VAL (N2 ++ E3 ++ E4) so r (putv so un vv (nth A j) (nth A i)) := d3
        obtain ⟨n1, n2⟩ := fil_nok2 (un := un) (SV_SU hsv) ti.1.1 li hv1
        have nS : sS so ma nv (putv so un vv (nth A j) (nth A i)) := filT_S hsv 21 (nth A i) ti.1.1 (by omega) (by omega) (von_vok hv1) ti.2.2 hv2
        obtain ⟨x9, r', rc', v5, sw', rw', m1, m2, m3⟩ := fx_showBuilt_c (n := n) (rc := rc) (sw := sw) (rw0 := rw0) (t := putv so un vv (nth A j) (nth A i)) hn he hnl d2.1 d3' (fun gf => ⟨n1, gf, nS⟩) d5
        have b1' : lx_X9_fill_25 n rt ga (nI i) (nI vv) (nI j) n 0 v1 w bi rc sw rw0 = _ := b1
        have last : lx_X9_fill_25 n rt ga (nI i) (nI vv) (nI j) (m' + 1) (nI 5) v2 w2 bi2 rc sw rw0 = bx_X9_fill_25 n rt ga (nI i) (nI vv) (nI j) (lx_X9_fill_25 n rt ga (nI i) (nI vv) (nI j) m') (nI 5) v2 w2 bi2 rc sw rw0 := rfl
        have e0 : nI 0 = (0 : Int32) := rfl
        rw [e0] at d1
        rw [if_pos h2, if_pos rfl, i2, q2, j2, a1, xb1_s, b1', last]
        unfold bx_X9_fill_25
        rw [if_pos (by decide), c1, xb3_s, d1, xb3_s, m1, xb6_s]
        rcases m3 with ⟨p1, p2, p3, p4⟩ | ⟨p1, p2, p3, p4, p5⟩
        · rw [p2, if_pos rfl]
          exact ⟨_, _, _, _, _, _, _, _, rfl, ⟨_, _, m2⟩, Or.inl ⟨i, vv, j, ⟨i1, rfl⟩, ⟨q1, rfl⟩, ⟨j1, rfl⟩, Or.inl ⟨p1, rfl, p3, p4⟩⟩⟩
        · rw [p2, if_neg (by decide)]
          exact ⟨_, _, _, _, _, _, _, _, rfl, ⟨_, _, m2⟩, Or.inl ⟨i, vv, j, ⟨i1, rfl⟩, ⟨q1, rfl⟩, ⟨j1, rfl⟩, Or.inr ⟨p1, rfl, rfl, p4, p5⟩⟩⟩
      · rw [if_neg h2, if_neg (by decide)]
        exact ⟨_, _, _, _, _, _, _, _, rfl, ⟨_, _, hT⟩, Or.inr ⟨fun g => h2 g.2.2, rfl, rfl, rfl, rfl⟩⟩
    · rw [if_neg h1, if_neg (by decide)]
      exact ⟨_, _, _, _, _, _, _, _, rfl, ⟨_, _, hT⟩, Or.inr ⟨fun g => h1 g.2.1, rfl, rfl, rfl, rfl⟩⟩
  · rw [if_neg h0, if_neg (by decide)]
    exact ⟨_, _, _, _, _, _, _, _, rfl, ⟨_, _, hT⟩, Or.inr ⟨fun g => h0 g.1, rfl, rfl, rfl, rfl⟩⟩
