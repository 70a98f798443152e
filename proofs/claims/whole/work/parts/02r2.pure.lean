/-! ===== numbers that are none; terms that are told ===== -/
theorem fx_throwsIf_0 {n : Nat} {th c : Int32} : fx_throwsIf n th 0 c = some (0, th) := by
  unfold fx_throwsIf; rw [if_pos rfl, xz_0]
theorem fx_throwsIf_1 {n : Nat} {th c : Int32} : fx_throwsIf n th 1 c = some (1, c) := by
  unfold fx_throwsIf; rw [if_neg (by decide), xz_1]
theorem fx_in_1 {n : Nat} {x lo hi : Int32} (h1 : lo.toInt ≤ x.toInt) (h2 : x.toInt ≤ hi.toInt) : fx_in n x lo hi = some 1 := by
  unfold fx_in
  rw [if_neg (fun h => by have := Int32.lt_iff_toInt_lt.mp h; omega), if_neg (fun h => by have := Int32.lt_iff_toInt_lt.mp h; omega)]
theorem fx_in_0 {n : Nat} {x lo hi : Int32} (h : ¬ (lo.toInt ≤ x.toInt ∧ x.toInt ≤ hi.toInt)) : fx_in n x lo hi = some 0 := by
  unfold fx_in
  by_cases q : x < lo
  · rw [if_pos q]
  · rw [if_neg q, if_pos (Int32.lt_iff_toInt_lt.mpr (by
      have : ¬ x.toInt < lo.toInt := fun h9 => q (Int32.lt_iff_toInt_lt.mpr h9)
      omega))]
/-- a number of one of so many -/
abbrev isn (x : Int32) (k : Nat) : Prop := 0 ≤ x.toInt ∧ x.toInt < (k : Int)
theorem isn_of {x : Int32} {k : Nat} (hk : k < 2147483648) (h : isn x k) : ∃ i : Nat, i < k ∧ x = nI i := ⟨x.toInt.toNat, by have := h.1; have := h.2; omega, nI_ofi (by have := h.1; omega) (by have := h.2; have := h.1; omega)⟩
theorem isn_nI {i k : Nat} (h : i < k) (hk : k < 2147483648) : isn (nI i) k := by
  unfold isn
  rw [nI_toInt (by omega)]; omega
theorem nI_prd {k : Nat} (hk : k < 2147483648) : (nI k - 1).toInt = (k : Int) - 1 := by
  cases k with
  | zero => rfl
  | succ k => rw [i1, nI_sub (by omega), nI_toInt (by omega)]; omega
theorem in_isn {n k : Nat} {x : Int32} (hk : k < 2147483648) : (isn x k ∧ fx_in n x 0 (nI k - 1) = some 1) ∨ (¬ isn x k ∧ fx_in n x 0 (nI k - 1) = some 0) := by
  have e := nI_prd hk
  have z : (0 : Int32).toInt = 0 := rfl
  by_cases q : isn x k
  · have q1 := q.1; have q2 := q.2
    exact Or.inl ⟨q, fx_in_1 (by rw [z]; exact q1) (by rw [e]; omega)⟩
  · refine Or.inr ⟨q, fx_in_0 (fun h => q ⟨by rw [z] at h; exact h.1, by have := h.2; rw [e] at this; omega⟩)⟩
theorem fx_noTerm_ok {n k : Nat} {th x : Int32} (hk : k < 2147483648) : (isn x k ∧ fx_noTerm n th (nI k) x = some (0, th)) ∨ (¬ isn x k ∧ fx_noTerm n th (nI k) x = some (1, 1)) := by
  unfold fx_noTerm
  rw [xl_eq]
  rcases in_isn (n := n) (x := x) hk with ⟨h1, h2⟩ | ⟨h1, h2⟩
  · rw [h2, xb1_s, if_neg (by decide), fx_throwsIf_0, xb2_s, xz_0]; exact Or.inl ⟨h1, rfl⟩
  · rw [h2, xb1_s, if_pos rfl, fx_throwsIf_1, xb2_s, xz_1]; exact Or.inr ⟨h1, rfl⟩
theorem fx_noRule_ok {n k : Nat} {th x : Int32} (hk : k < 2147483648) : (isn x k ∧ fx_noRule n th (nI k) x = some (0, th)) ∨ (¬ isn x k ∧ fx_noRule n th (nI k) x = some (1, 1)) := by
  unfold fx_noRule
  rw [xl_eq]
  rcases in_isn (n := n) (x := x) hk with ⟨h1, h2⟩ | ⟨h1, h2⟩
  · rw [h2, xb1_s, if_neg (by decide), fx_throwsIf_0, xb2_s, xz_0]; exact Or.inl ⟨h1, rfl⟩
  · rw [h2, xb1_s, if_pos rfl, fx_throwsIf_1, xb2_s, xz_1]; exact Or.inr ⟨h1, rfl⟩
theorem fx_noVariable_ok {n k : Nat} {th x : Int32} (hk : k < 2147483648) : (isn x k ∧ fx_noVariable n th (nI k) x = some (0, th)) ∨ (¬ isn x k ∧ fx_noVariable n th (nI k) x = some (1, 1)) := by
  unfold fx_noVariable
  rw [xl_eq]
  rcases in_isn (n := n) (x := x) hk with ⟨h1, h2⟩ | ⟨h1, h2⟩
  · rw [h2, xb1_s, if_neg (by decide), fx_throwsIf_0, xb2_s, xz_0]; exact Or.inl ⟨h1, rfl⟩
  · rw [h2, xb1_s, if_pos rfl, fx_throwsIf_1, xb2_s, xz_1]; exact Or.inr ⟨h1, rfl⟩
theorem fx_noOperator_ok {n k : Nat} {th x : Int32} (hk : k < 2147483648) : (isn x k ∧ fx_noOperator n th (nI k) x = some (0, th)) ∨ (¬ isn x k ∧ fx_noOperator n th (nI k) x = some (1, 1)) := by
  unfold fx_noOperator
  rw [xl_eq]
  rcases in_isn (n := n) (x := x) hk with ⟨h1, h2⟩ | ⟨h1, h2⟩
  · rw [h2, xb1_s, if_neg (by decide), fx_throwsIf_0, xb2_s, xz_0]; exact Or.inl ⟨h1, rfl⟩
  · rw [h2, xb1_s, if_pos rfl, fx_throwsIf_1, xb2_s, xz_1]; exact Or.inr ⟨h1, rfl⟩
theorem fx_noDepth_ok {n : Nat} {th x c : Int32} : (isn x 5 ∧ fx_noDepth n th x c = some (0, th)) ∨ (¬ isn x 5 ∧ fx_noDepth n th x c = some (1, c)) := by
  unfold fx_noDepth
  rcases in_isn (n := n) (x := x) (k := 5) (by decide) with ⟨h1, h2⟩ | ⟨h1, h2⟩
  · rw [show nI 5 - 1 = (4 : Int32) from rfl] at h2
    rw [h2, xb1_s, if_neg (by decide), fx_throwsIf_0, xb2_s, xz_0]; exact Or.inl ⟨h1, rfl⟩
  · rw [show nI 5 - 1 = (4 : Int32) from rfl] at h2
    rw [h2, xb1_s, if_pos rfl, fx_throwsIf_1, xb2_s, xz_1]; exact Or.inr ⟨h1, rfl⟩
theorem fx_tooMuch_ok {n : Nat} {th tm c : Int32} (h : tm = 0 ∨ tm = 1) : fx_tooMuch n th tm c = some (tm, if tm = 0 then th else c) := by
  unfold fx_tooMuch
  rcases h with h | h
  · rw [h, fx_throwsIf_0, xb2_s, xz_0, if_pos rfl]
  · rw [h, fx_throwsIf_1, xb2_s, xz_1, if_neg (by decide)]
/-- terms that are told, as they are kept -/
def KT (so : Nat → Nat) (un : Nat → Option Nat) (ma : Nat → Nat) (nv : Nat) (fk : Nat → Int32) (Tm : List (List Nat)) : Prop := Tm.length ≤ 30 ∧ (∀ t ∈ Tm, tok so un ma nv t) ∧ Tm.Nodup ∧ ∀ i : Nat, i < Tm.length → la fk (21 * i) (nth Tm i)
theorem KT_get {so : Nat → Nat} {un : Nat → Option Nat} {ma : Nat → Nat} {nv : Nat} {fk : Nat → Int32} {Tm : List (List Nat)} (h : KT so un ma nv fk Tm) {i : Nat} (hi : i < Tm.length) : tok so un ma nv (nth Tm i) ∧ la fk (21 * i) (nth Tm i) ∧ (nth Tm i).length ≤ 20 ∧ i < 30 := by
  have h1 := h.2.1 _ (nth_mem hi)
  exact ⟨h1, h.2.2.2 i hi, tok_len h1, by have := h.1; omega⟩
theorem comes_term {so : Nat → Nat} {un : Nat → Option Nat} {ma : Nat → Nat} {nv n i top : Nat} {fk fp : Nat → Int32} {Tm : List (List Nat)} (hn : 100000 ≤ n) (h : KT so un ma nv fk Tm) (hi : i < Tm.length) (ht : top ≤ 50000) : fx_comes n fp (nI top) fk (nI i) = some (nI top, put fp top (nth Tm i), nI (top + (nth Tm i).length)) := by
  obtain ⟨h1, h2, h3, h4⟩ := KT_get h hi
  exact fx_comes_ok h2 h1.1.1.1 h1.1.1.2.1 (by omega) (by omega) hn
theorem fx_termAt_ok {so : Nat → Nat} {un : Nat → Option Nat} {ma : Nat → Nat} {nv n i : Nat} {fk fp : Nat → Int32} {top tm : Int32} {Tm : List (List Nat)} (hn : 100000 ≤ n) (h : KT so un ma nv fk Tm) (hi : i < Tm.length) : fx_termAt n fp top fk tm (nI i) = some (0, put fp 0 (nth Tm i), nI (nth Tm i).length, 0) := by
  unfold fx_termAt fx_rowOfTerm
  have := comes_term (fp := fp) hn h hi (top := 0) (by decide)
  rw [xb1_s, show (0 : Int32) = nI 0 from rfl, this, xb3_s, Nat.zero_add]
/-! ===== order ===== -/
theorem fx_order_ok {so : Nat → Nat} {un : Nat → Option Nat} {ma : Nat → Nat} {nv n : Nat} {fk fp : Nat → Int32} {th top tm x y : Int32} {Tm : List (List Nat)} (hn : 100000 ≤ n) (h : KT so un ma nv fk Tm) :
    (∃ (i j : Nat) (fp' : Nat → Int32) (top' tm' : Int32), (i < Tm.length ∧ x = nI i) ∧ (j < Tm.length ∧ y = nI j) ∧ fx_order n th fp top fk (nI Tm.length) tm x y = some (cmpL (nth Tm i) (nth Tm j), 0, fp', top', tm')) ∨
    (¬ (isn x Tm.length ∧ isn y Tm.length) ∧ fx_order n th fp top fk (nI Tm.length) tm x y = some (0, 1, fp, top, tm)) := by
  have hl := h.1
  unfold fx_order
  rcases fx_noTerm_ok (n := n) (th := 0) (x := x) (k := Tm.length) (by omega) with ⟨h1, e1⟩ | ⟨h1, e1⟩
  · rw [e1, xb2_s, if_pos rfl]
    rcases fx_noTerm_ok (n := n) (th := 0) (x := y) (k := Tm.length) (by omega) with ⟨h2, e2⟩ | ⟨h2, e2⟩
    · rw [e2, xb2_s, if_pos rfl]
      obtain ⟨i, i1, i2⟩ := isn_of (by omega) h1
      obtain ⟨j, j1, j2⟩ := isn_of (by omega) h2
      obtain ⟨a1, a2, a3, a4⟩ := KT_get h i1
      obtain ⟨b1, b2, b3, b4⟩ := KT_get h j1
      rw [i2, j2]
      have hc := fx_compares_ok (n := n) (f := put (put fp 0 (nth Tm i)) (nth Tm i).length (nth Tm j)) (a := 0) (b := (nth Tm i).length) (l := nth Tm i) (r := nth Tm j) (la_put (Or.inl (by omega)) put_la) a1.1.1.1 a1.1.1.2.1 (by omega) put_la b1.1.1.1 b1.1.1.2.1 (by omega) hn
      rw [fx_termAt_ok hn h i1, xb4_s]
      unfold fx_rowOfTerm
      rw [show nI 0 = (0 : Int32) from rfl] at hc
      rw [xb1_s, comes_term hn h j1 (by omega), xb3_s, hc, xb1_s]
      exact Or.inl ⟨i, j, _, _, _, ⟨i1, rfl⟩, ⟨j1, rfl⟩, rfl⟩
    · rw [e2, xb2_s, if_neg (by decide)]
      exact Or.inr ⟨fun q => h2 q.2, rfl⟩
  · rw [e1, xb2_s, if_neg (by decide)]
    exact Or.inr ⟨fun q => h1 q.1, rfl⟩
