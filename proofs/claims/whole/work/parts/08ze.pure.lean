/-! ===== counts in fields of six bits ===== -/
def pkf (D : Nat → Nat) : Nat → Nat → Nat
  | _, 0 => 0
  | i, k + 1 => D i + 64 * pkf D (i + 1) k
theorem nL_or {a b : Nat} : nL a ||| nL b = nL (a ||| b) := by
  apply Int64.toBitVec_inj.mp
  show BitVec.ofNat 64 a ||| BitVec.ofNat 64 b = BitVec.ofNat 64 (a ||| b)
  apply BitVec.eq_of_getLsbD_eq
  intro i hi
  rw [BitVec.getLsbD_or, BitVec.getLsbD_ofNat, BitVec.getLsbD_ofNat, BitVec.getLsbD_ofNat, Nat.testBit_or]
  simp [hi]
theorem nL_and {a b : Nat} : nL a &&& nL b = nL (a &&& b) := by
  apply Int64.toBitVec_inj.mp
  show BitVec.ofNat 64 a &&& BitVec.ofNat 64 b = BitVec.ofNat 64 (a &&& b)
  apply BitVec.eq_of_getLsbD_eq
  intro i hi
  rw [BitVec.getLsbD_and, BitVec.getLsbD_ofNat, BitVec.getLsbD_ofNat, BitVec.getLsbD_ofNat, Nat.testBit_and]
  simp [hi]
theorem nL_inj {a b : Nat} (ha : a < 18446744073709551616) (hb9 : b < 18446744073709551616) : nL a = nL b ↔ a = b := by
  constructor
  · intro h
    have h2 : BitVec.ofNat 64 a = BitVec.ofNat 64 b := congrArg Int64.toBitVec h
    have h3 := congrArg BitVec.toNat h2
    rw [BitVec.toNat_ofNat, BitVec.toNat_ofNat] at h3
    omega
  · intro h; rw [h]
theorem nL_sub {a b : Nat} (h : b ≤ a) : nL a - nL b = nL (a - b) := (Int64.ofNat_sub a b h).symm
theorem tb_pk {a m n : Nat} (ha : a < 64) : (a + 64 * m).testBit n = if n < 6 then a.testBit n else m.testBit (n - 6) := by
  have h := Nat.testBit_two_pow_mul_add m (i := 6) (b := a) ha n
  rw [show a + 64 * m = 2 ^ 6 * m + a by omega]
  exact h
theorem lt64_or {a b : Nat} (ha : a < 64) (hb9 : b < 64) : a ||| b < 64 := Nat.or_lt_two_pow (n := 6) ha hb9
theorem lt64_and {a b : Nat} (ha : a < 64) : a &&& b < 64 := Nat.lt_of_le_of_lt Nat.and_le_left ha
theorem dg_or {a b m n : Nat} (ha : a < 64) (hb9 : b < 64) : (a + 64 * m) ||| (b + 64 * n) = (a ||| b) + 64 * (m ||| n) := by
  apply Nat.eq_of_testBit_eq
  intro i
  rw [Nat.testBit_or, tb_pk ha, tb_pk hb9, tb_pk (lt64_or ha hb9)]
  by_cases q : i < 6
  · rw [if_pos q, if_pos q, if_pos q, Nat.testBit_or]
  · rw [if_neg q, if_neg q, if_neg q, Nat.testBit_or]
theorem dg_and {a b m n : Nat} (ha : a < 64) (hb9 : b < 64) : (a + 64 * m) &&& (b + 64 * n) = (a &&& b) + 64 * (m &&& n) := by
  apply Nat.eq_of_testBit_eq
  intro i
  rw [Nat.testBit_and, tb_pk ha, tb_pk hb9, tb_pk (lt64_and ha)]
  by_cases q : i < 6
  · rw [if_pos q, if_pos q, if_pos q, Nat.testBit_and]
  · rw [if_neg q, if_neg q, if_neg q, Nat.testBit_and]
theorem pkf_lt {D : Nat → Nat} : ∀ {k i : Nat}, (∀ h : Nat, D h < 64) → pkf D i k < 64 ^ k
  | 0, _, _ => by show 0 < 1; decide
  | k + 1, i, hd => by
    have ih := pkf_lt (D := D) (k := k) (i := i + 1) hd
    have := hd i
    show D i + 64 * pkf D (i + 1) k < 64 ^ (k + 1)
    rw [Nat.pow_succ]; omega
theorem pkf_lt10 {D : Nat → Nat} {i : Nat} (hd : ∀ h : Nat, D h < 64) : pkf D i 10 < 1152921504606846976 := pkf_lt (k := 10) hd
theorem pkf_congr {D E : Nat → Nat} : ∀ {k i : Nat}, (∀ h : Nat, i ≤ h → h < i + k → D h = E h) → pkf D i k = pkf E i k
  | 0, _, _ => rfl
  | k + 1, i, h => by
    show D i + 64 * pkf D (i + 1) k = E i + 64 * pkf E (i + 1) k
    rw [h i (by omega) (by omega), pkf_congr (k := k) (i := i + 1) (fun z a b => h z (by omega) (by omega))]
theorem pkf_add {D E : Nat → Nat} : ∀ {k i : Nat}, pkf (fun h => D h + E h) i k = pkf D i k + pkf E i k
  | 0, _ => rfl
  | k + 1, i => by
    show D i + E i + 64 * pkf (fun h => D h + E h) (i + 1) k = D i + 64 * pkf D (i + 1) k + (E i + 64 * pkf E (i + 1) k)
    rw [pkf_add]; omega
theorem pkf_sub {D E : Nat → Nat} {k i : Nat} (h : ∀ z : Nat, E z ≤ D z) : pkf D i k - pkf E i k = pkf (fun h => D h - E h) i k ∧ pkf E i k ≤ pkf D i k := by
  have e : pkf D i k = pkf (fun h => D h - E h) i k + pkf E i k := by
    rw [← pkf_add]
    exact pkf_congr (fun z _ _ => by have := h z; omega)
  omega
theorem pkf_0 : ∀ {k i : Nat}, pkf (fun _ => 0) i k = 0
  | 0, _ => rfl
  | k + 1, i => by
    show 0 + 64 * pkf (fun _ => 0) (i + 1) k = 0
    rw [pkf_0]
theorem or32 : ∀ d : Fin 32, d.val ||| 32 = d.val + 32 := by decide
theorem pkf_or {D : Nat → Nat} : ∀ {k i : Nat}, (∀ h : Nat, D h < 32) → pkf D i k ||| pkf (fun _ => 32) i k = pkf (fun h => D h + 32) i k
  | 0, _, _ => by show 0 ||| 0 = 0; decide
  | k + 1, i, hd => by
    have o : D i ||| 32 = D i + 32 := or32 ⟨D i, hd i⟩
    show (D i + 64 * pkf D (i + 1) k) ||| (32 + 64 * pkf (fun _ => 32) (i + 1) k) = D i + 32 + 64 * pkf (fun h => D h + 32) (i + 1) k
    rw [dg_or (by have := hd i; omega) (by decide), o, pkf_or hd]
theorem and32 : ∀ a b : Fin 64, (a.val &&& b.val &&& 32 = 32) ↔ (32 ≤ a.val ∧ 32 ≤ b.val) := by decide +kernel
theorem pkf_guard {D E : Nat → Nat} : ∀ {k i : Nat}, (∀ h : Nat, D h < 64) → (∀ h : Nat, E h < 64) → ((pkf D i k &&& pkf E i k &&& pkf (fun _ => 32) i k = pkf (fun _ => 32) i k) ↔ ∀ h : Nat, i ≤ h → h < i + k → 32 ≤ D h ∧ 32 ≤ E h)
  | 0, i, _, _ => ⟨fun _ h a b => by omega, fun _ => by show 0 &&& 0 &&& 0 = 0; decide⟩
  | k + 1, i, hd, he => by
    have ih := pkf_guard (D := D) (E := E) (k := k) (i := i + 1) hd he
    have a32 := and32 ⟨D i, hd i⟩ ⟨E i, he i⟩
    have a32' : (D i &&& E i &&& 32 = 32) ↔ (32 ≤ D i ∧ 32 ≤ E i) := a32
    have hle : D i &&& E i &&& 32 ≤ 32 := Nat.and_le_right
    show ((D i + 64 * pkf D (i + 1) k) &&& (E i + 64 * pkf E (i + 1) k) &&& (32 + 64 * pkf (fun _ => 32) (i + 1) k) = 32 + 64 * pkf (fun _ => 32) (i + 1) k) ↔ _
    rw [dg_and (hd i) (he i), dg_and (lt64_and (hd i)) (by decide)]
    constructor
    · intro h z z1 z2
      by_cases q : z = i
      · rw [q]; exact a32'.mp (by omega)
      · exact ih.mp (by omega) z (by omega) (by omega)
    · intro h
      rw [a32'.mpr (h i (by omega) (by omega)), ih.mpr (fun z a b => h z (by omega) (by omega))]
/-- how often what lasts stands in a row -/
def fld (las : Nat → Bool) (l : List Nat) (h : Nat) : Nat := cnt (fun c => if las (hed c) = true ∧ hed c = h then 1 else 0) l
theorem cnt_le {f : Nat → Nat} : ∀ {l : List Nat}, (∀ c : Nat, f c ≤ 1) → cnt f l ≤ l.length
  | [], _ => Nat.le_refl _
  | c :: l, h => by
    have := cnt_le (l := l) h
    have := h c
    show f c + cnt f l ≤ l.length + 1
    omega
theorem fld_le {las : Nat → Bool} {l : List Nat} {h : Nat} : fld las l h ≤ l.length := cnt_le (fun c => by split <;> omega)
theorem unit64 : ∀ k : Fin 10, pkf (fun h => if k.val = h then 1 else 0) 0 10 = 64 ^ k.val := by decide +kernel
theorem loC_pk {las : Nat → Bool} : ∀ {l : List Nat}, cnt (loC las) l = pkf (fld las l) 0 10
  | [] => (pkf_0 (k := 10) (i := 0)).symm
  | c :: l => by
    have e : pkf (fld las (c :: l)) 0 10 = pkf (fun h => if las (hed c) = true ∧ hed c = h then 1 else 0) 0 10 + pkf (fld las l) 0 10 := by
      rw [← pkf_add]
      exact pkf_congr (fun _ _ _ => rfl)
    have e1 : loC las c = pkf (fun h => if las (hed c) = true ∧ hed c = h then 1 else 0) 0 10 := by
      unfold loC
      by_cases q : las (hed c) = true ∧ hed c < 10
      · rw [if_pos q, ← unit64 ⟨hed c, q.2⟩]
        exact pkf_congr (fun h _ _ => by simp [q.1])
      · rw [if_neg q]
        refine (pkf_0 (k := 10) (i := 0)).symm.trans (pkf_congr (fun h _ h2 => ?_))
        rw [if_neg (fun z => q ⟨z.1, by omega⟩)]
    rw [e, ← loC_pk, ← e1]; rfl
theorem hiC_pk {las : Nat → Bool} : ∀ {l : List Nat}, (∀ c ∈ l, hed c < 15) → cnt (hiC las) l = pkf (fun h => fld las l (10 + h)) 0 10
  | [], _ => (pkf_0 (k := 10) (i := 0)).symm
  | c :: l, hc => by
    have hcc := hc c List.mem_cons_self
    have e : pkf (fun h => fld las (c :: l) (10 + h)) 0 10 = pkf (fun h => if las (hed c) = true ∧ hed c = 10 + h then 1 else 0) 0 10 + pkf (fun h => fld las l (10 + h)) 0 10 := by
      rw [← pkf_add]
      exact pkf_congr (fun _ _ _ => rfl)
    have e1 : hiC las c = pkf (fun h => if las (hed c) = true ∧ hed c = 10 + h then 1 else 0) 0 10 := by
      unfold hiC
      by_cases q : las (hed c) = true ∧ 10 ≤ hed c
      · rw [if_pos q, ← unit64 ⟨hed c - 10, by omega⟩]
        refine pkf_congr (fun h _ _ => ?_)
        by_cases z : hed c - 10 = h
        · rw [if_pos z, if_pos ⟨q.1, by omega⟩]
        · rw [if_neg z, if_neg (fun y => z (by omega))]
      · rw [if_neg q]
        refine (pkf_0 (k := 10) (i := 0)).symm.trans (pkf_congr (fun h _ h2 => ?_))
        rw [if_neg (fun z => q ⟨z.1, by omega⟩)]
    rw [e, ← hiC_pk (fun d hd => hc d (List.mem_cons_of_mem _ hd)), ← e1]; rfl
theorem hed_15 {c : Nat} (h : cok c) : hed c < 15 := by
  unfold hed
  rcases h with g | g
  · rw [if_pos (by omega)]; omega
  · rw [if_neg (by omega)]; omega
/-- guards: no count has gone below 0 -/
abbrev GRD : Int64 := 585610922974906400
theorem GRD_pk : GRD = nL (pkf (fun _ => 32) 0 10) := by decide +kernel
theorem xcmp_eq {x y : Int64} : xcmp x y = 0 ↔ x = y := by
  unfold xcmp
  by_cases h : x < y
  · rw [if_pos h]
    exact ⟨fun q => absurd q (by decide), fun q => absurd (q ▸ h) (Int64.lt_irrefl)⟩
  · rw [if_neg h]
    by_cases h2 : x = y
    · rw [if_pos h2]; exact ⟨fun _ => h2, fun _ => rfl⟩
    · rw [if_neg h2]; exact ⟨fun q => absurd q (by decide), fun q => absurd q h2⟩
theorem guard_c {A B : Nat → Nat} (ha : ∀ h : Nat, A h < 64) (hb9 : ∀ h : Nat, B h < 64) : xcmp (nL (pkf A 0 10) &&& nL (pkf B 0 10) &&& GRD) GRD = 0 ↔ ∀ h : Nat, h < 10 → 32 ≤ A h ∧ 32 ≤ B h := by
  have h32 : ∀ h : Nat, (fun _ => 32 : Nat → Nat) h < 64 := fun _ => by show 32 < 64; decide
  have l3 := pkf_lt10 (i := 0) h32
  have l4 : pkf A 0 10 &&& pkf B 0 10 &&& pkf (fun _ => 32) 0 10 ≤ pkf (fun _ => 32) 0 10 := Nat.and_le_right
  rw [xcmp_eq, GRD_pk, nL_and, nL_and, nL_inj (by omega) (by omega), pkf_guard ha hb9]
  exact ⟨fun h z hz => h z (Nat.zero_le _) (by omega), fun h z _ hz => h z (by omega)⟩
