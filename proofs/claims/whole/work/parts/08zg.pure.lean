/-! ===== fits: what cannot go lost ===== -/
/-- what the variables have, in the class -/
def BDG (u : Nat → Nat → Int32) (N : List (List Nat)) (be : Nat → Option (List Nat)) : Prop :=
  ∀ v : Nat, v < 5 → (be v = none ∧ hb (u 0 4) v = false) ∨ ∃ (r : List Nat) (y : Nat), be v = some r ∧ hb (u 0 4) v = true ∧ y < N.length ∧ nth N y = r ∧ u 5 v = nI y
theorem hb_0 {s : Int32} {v : Nat} (hv : v < 5) : ((s >>> (nI v &&& 31)) &&& 1) = 0 ↔ hb s v = false := by
  have g := hold_get (s := s) (k := nI v) (by rw [nI_toInt (by omega)]; omega) (by rw [nI_toInt (by omega)]; omega)
  rw [nI_clamp (by omega)] at g
  rcases and1_01 (s >>> (nI v &&& 31)) with q | q
  · rw [q] at g ⊢
    refine ⟨fun _ => ?_, fun _ => rfl⟩
    cases z : hb s v with
    | false => rfl
    | true => exact absurd (g.mpr z) (by decide)
  · rw [q] at g ⊢
    refine ⟨fun z => absurd z (by decide), fun z => ?_⟩
    have : hb s v = true := g.mp (by decide)
    rw [z] at this; exact nomatch this
/-- digits below ten -/
def cut10 (D : Nat → Nat) (h : Nat) : Nat := if h < 10 then D h else 0
theorem pkf_cut {D : Nat → Nat} : pkf (cut10 D) 0 10 = pkf D 0 10 := pkf_congr (fun h _ h2 => by unfold cut10; rw [if_pos (by omega)])
theorem lx_fits93_c {n v y : Nat} {u vt : Nat → Nat → Int32} {w : Nat → Nat → Int64} {las : Nat → Bool} {N : List (List Nat)} {P0 P1 : Int32} {x3 : Int64} {k55 : Int64 → Int64 → Int64 → Int32 → Option Int32} (hv : v < 5) (hT : TB vt w las N) (hy : y < N.length) (hu : u 5 v = nI y) :
    ∀ (j m : Nat) (A B : Nat → Nat), j < m → j < 1000 → (∀ h : Nat, 12 ≤ A h ∧ A h < 64) → (∀ h : Nat, 12 ≤ B h ∧ B h < 64) →
      (lx_X0_fits_93 n u vt w P0 P1 k55 m x3 (nL (pkf A 0 10)) (nL (pkf B 0 10)) (nI v) 1 (nI j) = some 0 ∧ ¬ (∀ h : Nat, h < 10 → 32 + j * fld las (nth N y) h ≤ A h ∧ 32 + j * fld las (nth N y) (10 + h) ≤ B h)) ∨
      ∃ A' B' : Nat → Nat, (∀ h : Nat, 12 ≤ A' h ∧ A' h < 64) ∧ (∀ h : Nat, 12 ≤ B' h ∧ B' h < 64) ∧ (∀ h : Nat, h < 10 → A' h + j * fld las (nth N y) h = A h ∧ B' h + j * fld las (nth N y) (10 + h) = B h) ∧ lx_X0_fits_93 n u vt w P0 P1 k55 m x3 (nL (pkf A 0 10)) (nL (pkf B 0 10)) (nI v) 1 (nI j) = k55 x3 (nL (pkf A' 0 10)) (nL (pkf B' 0 10)) (nI v + 1)
  | 0, m + 1, A, B, _, _, ha, hb9 => by
    refine Or.inr ⟨A, B, ha, hb9, fun h _ => ⟨by omega, by omega⟩, ?_⟩
    show bx_X0_fits_93 n u vt w P0 P1 k55 (lx_X0_fits_93 n u vt w P0 P1 k55 m) x3 _ _ (nI v) 1 (nI 0) = _
    unfold bx_X0_fits_93
    rw [if_neg (by decide), if_pos (by decide), xl_eq]
  | j + 1, m + 1, A, B, hj, hj2, ha, hb9 => by
    have nd := (TB_get hT hy).2.1
    have h20 := (TB_get hT hy).1.2.2.2.1
    have hcol := (TB_get hT hy).1.2.2.1
    have lo9 : cnt (loC las) (nth N y) = pkf (cut10 (fld las (nth N y))) 0 10 := by rw [pkf_cut]; exact loC_pk
    have hi9 : cnt (hiC las) (nth N y) = pkf (cut10 (fun h => fld las (nth N y) (10 + h))) 0 10 := by rw [pkf_cut]; exact hiC_pk (fun c hc => hed_15 (hcol c hc))
    have gd := guard_c (A := A) (B := B) (fun h => (ha h).2) (fun h => (hb9 h).2)
    have hsh : lx_X0_fits_93 n u vt w P0 P1 k55 (m + 1) x3 (nL (pkf A 0 10)) (nL (pkf B 0 10)) (nI v) 1 (nI (j + 1)) = bx_X0_fits_93 n u vt w P0 P1 k55 (lx_X0_fits_93 n u vt w P0 P1 k55 m) x3 (nL (pkf A 0 10)) (nL (pkf B 0 10)) (nI v) 1 (nI (j + 1)) := rfl
    rw [hsh]
    unfold bx_X0_fits_93
    rw [if_neg (by decide), if_neg (by rw [show (0 : Int32) = nI 0 from rfl, nI_le_iff (by omega) (by decide)]; omega), xl_eq, xl_eq, xl_eq]
    by_cases g : ∀ h : Nat, h < 10 → 32 ≤ A h ∧ 32 ≤ B h
    · rw [if_pos (gd.mpr g), xr_n hv (by decide), hu, fx_lowOf_c hT hy, xb1_s, xl_eq, xr_n hv (by decide), hu, fx_highOf_c hT hy, xb1_s, xl_eq, xl_eq, nI_m1s, lo9, hi9]
      have f20 : ∀ h : Nat, fld las (nth N y) h ≤ 20 := fun h => Nat.le_trans fld_le h20
      have cA : ∀ h : Nat, cut10 (fld las (nth N y)) h ≤ A h := fun h => by
        unfold cut10
        by_cases q : h < 10
        · rw [if_pos q]; have := g h q; have := f20 h; omega
        · rw [if_neg q]; omega
      have cB : ∀ h : Nat, cut10 (fun h => fld las (nth N y) (10 + h)) h ≤ B h := fun h => by
        unfold cut10
        by_cases q : h < 10
        · rw [if_pos q]; have := g h q; have := f20 (10 + h); show fld las (nth N y) (10 + h) ≤ B h; omega
        · rw [if_neg q]; omega
      obtain ⟨sa, sa2⟩ := pkf_sub (k := 10) (i := 0) cA
      obtain ⟨sb, sb2⟩ := pkf_sub (k := 10) (i := 0) cB
      rw [nL_sub sa2, sa, nL_sub sb2, sb]
      have rA : ∀ h : Nat, 12 ≤ A h - cut10 (fld las (nth N y)) h ∧ A h - cut10 (fld las (nth N y)) h < 64 := fun h => by
        have := ha h
        unfold cut10
        by_cases q : h < 10
        · rw [if_pos q]; have := g h q; have := f20 h; omega
        · rw [if_neg q]; omega
      have rB : ∀ h : Nat, 12 ≤ B h - cut10 (fun h => fld las (nth N y) (10 + h)) h ∧ B h - cut10 (fun h => fld las (nth N y) (10 + h)) h < 64 := fun h => by
        have := hb9 h
        unfold cut10
        by_cases q : h < 10
        · rw [if_pos q]; have := g h q; have := f20 (10 + h); show 12 ≤ B h - fld las (nth N y) (10 + h) ∧ B h - fld las (nth N y) (10 + h) < 64; omega
        · rw [if_neg q]; omega
      have val : ∀ h : Nat, h < 10 → cut10 (fld las (nth N y)) h = fld las (nth N y) h ∧ cut10 (fun h => fld las (nth N y) (10 + h)) h = fld las (nth N y) (10 + h) := fun h q => by
        unfold cut10
        rw [if_pos q, if_pos q]; exact ⟨rfl, rfl⟩
      rcases lx_fits93_c (n := n) (P0 := P0) (P1 := P1) (x3 := x3) (k55 := k55) hv hT hy hu j m _ _ (by omega) (by omega) rA rB with ⟨q1, q2⟩ | ⟨A', B', q1, q2, q3, q4⟩
      · refine Or.inl ⟨q1, fun z => q2 (fun h hh => ?_)⟩
        obtain ⟨a1, a2⟩ := z h hh
        obtain ⟨b1, b2⟩ := val h hh
        show 32 + j * fld las (nth N y) h ≤ A h - cut10 (fld las (nth N y)) h ∧ 32 + j * fld las (nth N y) (10 + h) ≤ B h - cut10 (fun h => fld las (nth N y) (10 + h)) h
        rw [b1, b2]
        rw [Nat.succ_mul] at a1 a2
        omega
      · refine Or.inr ⟨A', B', q1, q2, fun h hh => ?_, q4⟩
        have q3h : A' h + j * fld las (nth N y) h = A h - cut10 (fld las (nth N y)) h ∧ B' h + j * fld las (nth N y) (10 + h) = B h - cut10 (fun h => fld las (nth N y) (10 + h)) h := q3 h hh
        obtain ⟨b1, b2⟩ := val h hh
        have c1 := cA h
        have c2 := cB h
        rw [b1, b2] at q3h
        rw [b1] at c1
        rw [b2] at c2
        rw [Nat.succ_mul, Nat.succ_mul]
        omega
    · rw [if_neg (fun z => g (gd.mp z))]
      refine Or.inl ⟨rfl, fun z => g (fun h hh => ?_)⟩
      obtain ⟨a1, a2⟩ := z h hh
      rw [Nat.succ_mul] at a1 a2
      omega
/-- what is still to be taken off -/
def ndv (las : Nat → Bool) (P : List Nat) (be : Nat → Option (List Nat)) (h v : Nat) : Nat := match be v with
  | none => 0
  | some r => fld las P v * fld las r h
def need (las : Nat → Bool) (P : List Nat) (be : Nat → Option (List Nat)) (h : Nat) : Nat → Nat → Nat
  | 0, _ => 0
  | k + 1, v => ndv las P be h v + need las P be h k (v + 1)
theorem lx_fits55_c {n : Nat} {u vt : Nat → Nat → Int32} {w : Nat → Nat → Int64} {las : Nat → Bool} {N : List (List Nat)} {be : Nat → Option (List Nat)} {P : List Nat} {P0 P1 : Int32} (hn : 100000 ≤ n) (hT : TB vt w las N) (hB : BDG u N be) (hP : P.length ≤ 20) :
    ∀ (k v m : Nat) (A B : Nat → Nat), v + k = 5 → k < m → (∀ h : Nat, 12 ≤ A h ∧ A h < 64) → (∀ h : Nat, 12 ≤ B h ∧ B h < 64) →
      ∃ r : Int32, lx_X0_fits_55 n u vt w P0 P1 m (nL (pkf (fld las P) 0 10)) (nL (pkf A 0 10)) (nL (pkf B 0 10)) (nI v) = some r ∧ (r = 0 ∨ r = 1) ∧ ((∀ h : Nat, h < 10 → 32 + need las P be h k v ≤ A h ∧ 32 + need las P be (10 + h) k v ≤ B h) → r = 1)
  | 0, v, m + 1, A, B, hv, _, ha, hb9 => by
    have ev : v = 5 := by omega
    subst ev
    have gd := guard_c (A := A) (B := B) (fun h => (ha h).2) (fun h => (hb9 h).2)
    show ∃ r : Int32, bx_X0_fits_55 n u vt w P0 P1 (lx_X0_fits_55 n u vt w P0 P1 m) _ _ _ (nI 5) = some r ∧ _
    unfold bx_X0_fits_55
    rw [if_pos (by decide), xl_eq, xl_eq, xl_eq]
    by_cases g : ∀ h : Nat, h < 10 → 32 ≤ A h ∧ 32 ≤ B h
    · rw [if_pos (gd.mpr g)]
      exact ⟨1, rfl, Or.inr rfl, fun _ => rfl⟩
    · rw [if_neg (fun z => g (gd.mp z))]
      exact ⟨0, rfl, Or.inl rfl, fun z => absurd (fun h hh => z h hh) g⟩
  | k + 1, v, m + 1, A, B, hv, hm, ha, hb9 => by
    have f32 : ∀ h : Nat, fld las P h < 32 := fun h => Nat.lt_of_le_of_lt (Nat.le_trans fld_le hP) (by decide)
    have tm := times_c (D := fld las P) (v := v) f32 (by omega)
    have hsh : lx_X0_fits_55 n u vt w P0 P1 (m + 1) (nL (pkf (fld las P) 0 10)) (nL (pkf A 0 10)) (nL (pkf B 0 10)) (nI v) = bx_X0_fits_55 n u vt w P0 P1 (lx_X0_fits_55 n u vt w P0 P1 m) (nL (pkf (fld las P) 0 10)) (nL (pkf A 0 10)) (nL (pkf B 0 10)) (nI v) := rfl
    rw [hsh]
    unfold bx_X0_fits_55
    rw [if_neg (by rw [show (5 : Int32) = nI 5 from rfl, nI_le_iff (by decide) (by omega)]; omega), xl_eq, xl_eq, xl_eq, xl_eq, xl_eq, xl_eq, xl_eq, xl_eq, xl_eq, xl_eq, tm]
    rcases hB v (by omega) with ⟨b1, b2⟩ | ⟨r, y, b1, b2, b3, b4, b5⟩
    · have ev : ∀ h : Nat, need las P be h (k + 1) v = need las P be h k (v + 1) := fun h => by
        show ndv las P be h v + need las P be h k (v + 1) = _
        unfold ndv
        rw [b1]; exact Nat.zero_add _
      rw [if_pos ((hb_0 (by omega)).mpr b2)]
      obtain ⟨n', hn'⟩ : ∃ n' : Nat, n = n' + 1 := ⟨n - 1, by omega⟩
      have st : lx_X0_fits_93 n u vt w P0 P1 (lx_X0_fits_55 n u vt w P0 P1 m) n (nL (pkf (fld las P) 0 10)) (nL (pkf A 0 10)) (nL (pkf B 0 10)) (nI v) 0 (nI (fld las P v)) = lx_X0_fits_55 n u vt w P0 P1 m (nL (pkf (fld las P) 0 10)) (nL (pkf A 0 10)) (nL (pkf B 0 10)) (nI (v + 1)) := by
        have : ∀ q : Nat, lx_X0_fits_93 n u vt w P0 P1 (lx_X0_fits_55 n u vt w P0 P1 m) (q + 1) (nL (pkf (fld las P) 0 10)) (nL (pkf A 0 10)) (nL (pkf B 0 10)) (nI v) 0 (nI (fld las P v)) = lx_X0_fits_55 n u vt w P0 P1 m (nL (pkf (fld las P) 0 10)) (nL (pkf A 0 10)) (nL (pkf B 0 10)) (nI (v + 1)) := fun q => by
          show bx_X0_fits_93 n u vt w P0 P1 _ _ _ _ _ (nI v) 0 _ = _
          unfold bx_X0_fits_93
          rw [if_pos rfl, xl_eq, nI_1]
        have h9 := this n'
        rw [← hn'] at h9
        exact h9
      rw [st]
      obtain ⟨r, r1, r2, r3⟩ := lx_fits55_c (n := n) (P0 := P0) (P1 := P1) hn hT hB hP k (v + 1) m A B (by omega) (by omega) ha hb9
      exact ⟨r, r1, r2, fun z => r3 (fun h hh => by have := z h hh; rw [ev, ev] at this; exact this)⟩
    · have ev : ∀ h : Nat, need las P be h (k + 1) v = fld las P v * fld las (nth N y) h + need las P be h k (v + 1) := fun h => by
        show ndv las P be h v + need las P be h k (v + 1) = _
        unfold ndv
        rw [b1, b4]
      rw [if_neg (fun z => by rw [(hb_0 (by omega)).mp z] at b2; exact nomatch b2)]
      rcases lx_fits93_c (n := n) (P0 := P0) (P1 := P1) (x3 := nL (pkf (fld las P) 0 10)) (k55 := lx_X0_fits_55 n u vt w P0 P1 m) (show v < 5 by omega) hT b3 b5 (fld las P v) n A B (by have := f32 v; omega) (by have := f32 v; omega) ha hb9 with ⟨q1, q2⟩ | ⟨A', B', q1, q2, q3, q4⟩
      · rw [q1]
        refine ⟨0, rfl, Or.inl rfl, fun z => absurd (fun h hh => ?_) q2⟩
        have := z h hh
        rw [ev, ev] at this
        omega
      · rw [q4, nI_1]
        obtain ⟨r', r1, r2, r3⟩ := lx_fits55_c (n := n) (P0 := P0) (P1 := P1) hn hT hB hP k (v + 1) m A' B' (by omega) (by omega) q1 q2
        refine ⟨r', r1, r2, fun z => r3 (fun h hh => ?_)⟩
        have a := z h hh
        have b := q3 h hh
        rw [ev, ev] at a
        omega
theorem need_le {las : Nat → Bool} {P : List Nat} {be : Nat → Option (List Nat)} {sg : Nat → List Nat} {h : Nat} (hbe : ∀ v : Nat, v < 5 → ∀ r : List Nat, be v = some r → sg v = r) : need las P be h 5 0 ≤ sv5 (fun v => fld las P v * fld las (sg v) h) := by
  have one : ∀ v : Nat, v < 5 → ndv las P be h v ≤ fld las P v * fld las (sg v) h := fun v hv => by
    unfold ndv
    cases hb9 : be v with
    | none => exact Nat.zero_le _
    | some r => rw [hbe v hv r hb9]; exact Nat.le_refl _
  have a0 := one 0 (by decide)
  have a1 := one 1 (by decide)
  have a2 := one 2 (by decide)
  have a3 := one 3 (by decide)
  have a4 := one 4 (by decide)
  show ndv las P be h 0 + (ndv las P be h 1 + (ndv las P be h 2 + (ndv las P be h 3 + (ndv las P be h 4 + 0)))) ≤ fld las P 0 * fld las (sg 0) h + fld las P 1 * fld las (sg 1) h + fld las P 2 * fld las (sg 2) h + fld las P 3 * fld las (sg 3) h + fld las P 4 * fld las (sg 4) h
  omega
theorem fx_fits_c {n x y no nv : Nat} {ga u vt : Nat → Nat → Int32} {w : Nat → Nat → Int64} {las : Nat → Bool} {N : List (List Nat)} {so ma : Nat → Nat} {un : Nat → Option Nat} {nmL : Nat → List Nat} {be : Nat → Option (List Nat)} (hn : 100000 ≤ n) (he : ENV ga las so ma un no nv nmL) (hT : TBK vt w las so ma un nv N) (hB : BDG u N be) (hx : x < N.length) (hy : y < N.length) :
    ∃ r : Int32, fx_X0_fits n u vt w (nI x) (nI y) = some r ∧ (r = 0 ∨ r = 1) ∧ ((∃ sg : Nat → List Nat, (∀ v : Nat, v < 5 → ∀ r : List Nat, be v = some r → sg v = r) ∧ von so un sg (nth N x) ∧ fil so un sg (nth N x) = nth N y) → r = 1) := by
  have tx := hT.2 _ (nth_mem hx)
  have ty := hT.2 _ (nth_mem hy)
  have lx := tok_len tx
  have ly := tok_len ty
  have fx9 : ∀ h : Nat, fld las (nth N x) h ≤ 20 := fun h => Nat.le_trans fld_le lx
  have fy9 : ∀ h : Nat, fld las (nth N y) h ≤ 20 := fun h => Nat.le_trans fld_le ly
  have loX : cnt (loC las) (nth N x) = pkf (fld las (nth N x)) 0 10 := loC_pk
  have loY : cnt (loC las) (nth N y) = pkf (fld las (nth N y)) 0 10 := loC_pk
  have hiX : cnt (hiC las) (nth N x) = pkf (fun h => fld las (nth N x) (10 + h)) 0 10 := hiC_pk (fun c hc => hed_15 (tx.1.1.2.1 c hc))
  have hiY : cnt (hiC las) (nth N y) = pkf (fun h => fld las (nth N y) (10 + h)) 0 10 := hiC_pk (fun c hc => hed_15 (ty.1.1.2.1 c hc))
  have orY : nL (pkf (fld las (nth N y)) 0 10) ||| GRD = nL (pkf (fun h => fld las (nth N y) h + 32) 0 10) := by
    rw [GRD_pk, nL_or, pkf_or (fun h => by have := fy9 h; omega)]
  have orY2 : nL (pkf (fun h => fld las (nth N y) (10 + h)) 0 10) ||| GRD = nL (pkf (fun h => fld las (nth N y) (10 + h) + 32) 0 10) := by
    rw [GRD_pk, nL_or, pkf_or (D := fun h => fld las (nth N y) (10 + h)) (fun h => by have := fy9 (10 + h); show fld las (nth N y) (10 + h) < 32; omega)]
  have opX := opf_c (D := fld las (nth N x)) (fun h => by have := fx9 h; omega)
  have sa := pkf_sub (D := fun h => fld las (nth N y) h + 32) (E := fun h => if h < 5 then 0 else fld las (nth N x) h) (k := 10) (i := 0) (fun z => by
    have := fx9 z
    show (if z < 5 then 0 else fld las (nth N x) z) ≤ fld las (nth N y) z + 32
    split <;> omega)
  have sb := pkf_sub (D := fun h => fld las (nth N y) (10 + h) + 32) (E := fun h => fld las (nth N x) (10 + h)) (k := 10) (i := 0) (fun z => by
    have := fx9 (10 + z)
    show fld las (nth N x) (10 + z) ≤ fld las (nth N y) (10 + z) + 32
    omega)
  obtain ⟨r, r1, r2, r3⟩ := lx_fits55_c (n := n) (u := u) (P0 := nI x) (P1 := nI y) (P := nth N x) hn hT.1 hB lx 5 0 n (fun h => fld las (nth N y) h + 32 - if h < 5 then 0 else fld las (nth N x) h) (fun h => fld las (nth N y) (10 + h) + 32 - fld las (nth N x) (10 + h)) rfl (by omega) (fun h => by
    have := fx9 h
    have := fy9 h
    show 12 ≤ fld las (nth N y) h + 32 - (if h < 5 then 0 else fld las (nth N x) h) ∧ fld las (nth N y) h + 32 - (if h < 5 then 0 else fld las (nth N x) h) < 64
    split <;> omega) (fun h => by
    have := fx9 (10 + h)
    have := fy9 (10 + h)
    show 12 ≤ fld las (nth N y) (10 + h) + 32 - fld las (nth N x) (10 + h) ∧ fld las (nth N y) (10 + h) + 32 - fld las (nth N x) (10 + h) < 64
    omega)
  refine ⟨r, ?_, r2, fun ⟨sg, s1, s2, s3⟩ => r3 (fun h hh => ?_)⟩
  · unfold fx_X0_fits
    rw [fx_lowOf_c hT.1 hx, xb1_s, fx_lowOf_c hT.1 hy, xb1_s, xl_eq, xl_eq, xl_eq, fx_highOf_c hT.1 hy, xb1_s, xl_eq, fx_highOf_c hT.1 hx, xb1_s, xl_eq, loX, loY, hiX, hiY, orY, orY2, opX, nL_sub sa.2, sa.1, nL_sub sb.2, sb.1]
    exact r1
  · have k1 := fld_fil (h := h) he tx.1.1 lx s2
    have k2 := fld_fil (h := 10 + h) he tx.1.1 lx s2
    have n1 := need_le (las := las) (P := nth N x) (h := h) s1
    have n2 := need_le (las := las) (P := nth N x) (h := 10 + h) s1
    rw [s3] at k1 k2
    rw [if_neg (show ¬ 10 + h < 5 by omega)] at k2
    show 32 + need las (nth N x) be h 5 0 ≤ fld las (nth N y) h + 32 - (if h < 5 then 0 else fld las (nth N x) h) ∧ 32 + need las (nth N x) be (10 + h) 5 0 ≤ fld las (nth N y) (10 + h) + 32 - fld las (nth N x) (10 + h)
    generalize hq : (if h < 5 then 0 else fld las (nth N x) h) = q at *
    omega
