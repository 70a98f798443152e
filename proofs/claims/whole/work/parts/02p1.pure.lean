/-! ===== ints that are numbers; rows as lists of codes; terms within rows ===== -/
theorem xl_eq {α β : Type} (v : α) (k : α → Option β) : xl v k = k v := rfl
theorem xr_eq {α β : Type} {n : Nat} {f : Nat → α} {i : Int32} {k : α → Option β} (h : 0 ≤ i.toInt ∧ i.toInt < (n : Int)) : xr n f i k = k (f i.toNatClampNeg) := by
  unfold xr; rw [if_pos h]
theorem xr_n {α β : Type} {n : Nat} {f : Nat → α} {i : Nat} {k : α → Option β} (h : i < n) (hn : n < 2147483648) : xr n f (nI i) k = k (f i) := by
  have e := nI_toInt (n := i) (by omega)
  rw [xr_eq (by rw [e]; omega), nI_clamp (by omega)]
theorem xw_n {β : Type} {n : Nat} {f : Nat → Int32} {i : Nat} {v : Int32} {k : (Nat → Int32) → Option β} (h : i < n) (hn : n < 2147483648) : xw n f (nI i) v k = k (upd f i v) := by
  have e := nI_toInt (n := i) (by omega)
  unfold xw
  rw [if_pos (by rw [e]; omega), nI_clamp (by omega)]
theorem xz_0 {β : Type} (k : Option β) : xz 0 k = k := by unfold xz; rw [if_pos (Or.inl rfl)]
theorem xz_1 {β : Type} (k : Option β) : xz 1 k = k := by unfold xz; rw [if_pos (Or.inr rfl)]
theorem nI_ofi {x : Int32} {n : Nat} (h : x.toInt = (n : Int)) (hn : n < 2147483648) : x = nI n := Int32.toInt_inj.mp (h.trans (nI_toInt (by omega)).symm)
theorem nI_sub {a b : Nat} (h : b ≤ a) : nI a - nI b = nI (a - b) := by
  obtain ⟨c, rfl⟩ : ∃ c, a = b + c := ⟨a - b, by omega⟩
  rw [← nI_add, Nat.add_sub_cancel_left]; grind
theorem nI_mul {a b : Nat} (h : a * b < 2147483648) (ha : a < 2147483648) (hb : b < 2147483648) : nI a * nI b = nI (a * b) := by
  have e1 := nI_toInt (n := a) (by omega)
  have e2 := nI_toInt (n := b) (by omega)
  have e3 : ((a * b : Nat) : Int) = (a : Int) * (b : Int) := by simp
  refine nI_ofi ?_ h
  exact (ti_mul2 rfl e1 e2 (by rw [← e3]; omega) (by rw [← e3]; omega)).trans e3.symm
theorem nI_div {a b : Nat} (ha : a < 2147483648) (hb : b < 2147483648) (h0 : 0 < b) : nI a / nI b = nI (a / b) := by
  have e1 := nI_toInt (n := a) (by omega)
  have e2 := nI_toInt (n := b) (by omega)
  refine nI_ofi ?_ (Nat.lt_of_le_of_lt (Nat.div_le_self a b) ha)
  rw [ti_div rfl e2 (by omega) (by omega), e1]; rfl
theorem nI_rem {a b : Nat} (ha : a < 2147483648) (hb : b < 2147483648) (h0 : 0 < b) : nI a - nI a / nI b * nI b = nI (a % b) := by
  have e1 := nI_toInt (n := a) (by omega)
  have e2 := nI_toInt (n := b) (by omega)
  refine nI_ofi ?_ (Nat.lt_of_le_of_lt (Nat.mod_le a b) ha)
  rw [ti_rem rfl e2 (by omega) (by omega), e1]; rfl
theorem nI_inj {a b : Nat} (ha : a < 2147483648) (hb : b < 2147483648) : nI a = nI b ↔ a = b := by
  constructor
  · intro h
    have := congrArg Int32.toInt h
    rw [nI_toInt (by omega), nI_toInt (by omega)] at this
    omega
  · intro h; rw [h]
theorem nI_lt_iff {a b : Nat} (ha : a < 2147483648) (hb : b < 2147483648) : nI a < nI b ↔ a < b := by
  rw [Int32.lt_iff_toInt_lt, nI_toInt (by omega), nI_toInt (by omega)]; omega
theorem nI_le_iff {a b : Nat} (ha : a < 2147483648) (hb : b < 2147483648) : nI a ≤ nI b ↔ a ≤ b := by
  rw [Int32.le_iff_toInt_le, nI_toInt (by omega), nI_toInt (by omega)]; omega
theorem nI_m1 {a : Nat} (ha : a < 2147483648) : ¬ nI a = -1 := by
  intro h
  have := congrArg Int32.toInt h
  rw [nI_toInt (by omega)] at this
  have e : (-1 : Int32).toInt = -1 := rfl
  omega
theorem upd_eq (f : Nat → Int32) (i : Nat) (v : Int32) : upd f i v i = v := by unfold upd; rw [if_pos rfl]
theorem upd_ne {f : Nat → Int32} {i j : Nat} {v : Int32} (h : j ≠ i) : upd f i v j = f j := by unfold upd; rw [if_neg h]
theorem i1 : (1 : Int32) = nI 1 := rfl
theorem i0 : (0 : Int32) = nI 0 := rfl
/-- how many parts come behind a code -/
def ar (c : Nat) : Nat := if c < 512 then 0 else c % 512
/-- so many terms, one behind another -/
def wf : Nat → List Nat → Prop
  | n, [] => n = 0
  | n, c :: l => 0 < n ∧ wf (n - 1 + ar c) l
/-- a list lies at a place -/
def la (f : Nat → Int32) : Nat → List Nat → Prop
  | _, [] => True
  | a, c :: l => f a = nI c ∧ la f (a + 1) l
/-- codes that may stand: variables 0 to 4, operators 0 to 9 -/
def cok (c : Nat) : Prop := c < 5 ∨ (512 ≤ c ∧ c < 5632)
def col (l : List Nat) : Prop := ∀ c ∈ l, cok c
theorem cok_lt {c : Nat} (h : cok c) : c < 5632 := by rcases h with h | h <;> omega
theorem col_nil : col [] := fun _ h => absurd h List.not_mem_nil
theorem col_cons {c : Nat} {l : List Nat} : col (c :: l) ↔ cok c ∧ col l := by unfold col; exact List.forall_mem_cons
theorem col_app {l r : List Nat} : col (l ++ r) ↔ col l ∧ col r := by unfold col; exact List.forall_mem_append
theorem la_app {f : Nat → Int32} : ∀ {l r : List Nat} {a : Nat}, la f a (l ++ r) ↔ la f a l ∧ la f (a + l.length) r
  | [], r, a => by simp [la]
  | c :: l, r, a => by
    show (f a = nI c ∧ la f (a + 1) (l ++ r)) ↔ (f a = nI c ∧ la f (a + 1) l) ∧ la f (a + (l.length + 1)) r
    rw [la_app, show a + (l.length + 1) = a + 1 + l.length by omega, and_assoc]
theorem la_congr {f g : Nat → Int32} : ∀ {l : List Nat} {a b : Nat}, (∀ i : Nat, i < l.length → g (b + i) = f (a + i)) → la f a l → la g b l
  | [], _, _, _, _ => trivial
  | c :: l, a, b, h, hl => by
    refine ⟨(h 0 (by simp)).trans hl.1, la_congr (a := a + 1) (b := b + 1) (fun i hi => ?_) hl.2⟩
    have := h (i + 1) (by simp; omega)
    rw [show b + 1 + i = b + (i + 1) by omega, show a + 1 + i = a + (i + 1) by omega]; exact this
theorem la_upd {f : Nat → Int32} {l : List Nat} {a i : Nat} {v : Int32} (h : i < a ∨ a + l.length ≤ i) (hl : la f a l) : la (upd f i v) a l :=
  la_congr (fun j hj => upd_ne (by omega)) hl
theorem la_get {f : Nat → Int32} : ∀ {l : List Nat} {a : Nat}, la f a l → ∀ i : Nat, (h : i < l.length) → f (a + i) = nI l[i]
  | [], _, _, i, h => absurd h (Nat.not_lt_zero i)
  | c :: l, a, hl, 0, _ => hl.1
  | c :: l, a, hl, i + 1, h => by
    have := la_get hl.2 i (by simpa using h)
    rw [show a + (i + 1) = a + 1 + i by omega]; exact this
theorem wf_app : ∀ {l r : List Nat} {n m : Nat}, wf n l → wf m r → wf (n + m) (l ++ r)
  | [], r, n, m, h, h' => by
    have : n = 0 := h
    subst this; rw [Nat.zero_add]; exact h'
  | c :: l, r, n, m, h, h' => by
    refine ⟨by have := h.1; omega, ?_⟩
    have := wf_app h.2 h'
    rw [show n + m - 1 + ar c = n - 1 + ar c + m by have := h.1; omega]; exact this
theorem wf_split : ∀ {l : List Nat} {n m : Nat}, wf (n + m) l → ∃ l1 l2 : List Nat, l = l1 ++ l2 ∧ wf n l1 ∧ wf m l2
  | [], n, m, h => by
    have e : n + m = 0 := h
    exact ⟨[], [], rfl, by show n = 0; omega, by show m = 0; omega⟩
  | c :: l, 0, m, h => ⟨[], c :: l, rfl, rfl, by rw [Nat.zero_add] at h; exact h⟩
  | c :: l, n + 1, m, h => by
    have h2 := h.2
    rw [show n + 1 + m - 1 + ar c = n + ar c + m by omega] at h2
    obtain ⟨l1, l2, e, h3, h4⟩ := wf_split h2
    exact ⟨c :: l1, l2, by rw [e]; rfl, ⟨by omega, h3⟩, h4⟩
theorem wf_len : ∀ {l : List Nat} {n : Nat}, wf n l → n ≤ l.length
  | [], n, h => by have : n = 0 := h; simp [this]
  | c :: l, n, h => by
    have := wf_len h.2
    simp only [List.length_cons]; have := h.1; omega
theorem wf_pos {l : List Nat} (h : wf 1 l) : 0 < l.length := by have := wf_len h; omega
theorem wf_uniq : ∀ {l l' r r' : List Nat} {n : Nat}, wf n l → wf n l' → l ++ r = l' ++ r' → l = l' ∧ r = r'
  | [], [], r, r', n, _, _, e => ⟨rfl, e⟩
  | [], c :: l', r, r', n, h, h', e => by
    have : n = 0 := h
    have := h'.1; omega
  | c :: l, [], r, r', n, h, h', e => by
    have : n = 0 := h'
    have := h.1; omega
  | c :: l, c' :: l', r, r', n, h, h', e => by
    simp only [List.cons_append, List.cons.injEq] at e
    obtain ⟨rfl, e⟩ := e
    obtain ⟨q, q'⟩ := wf_uniq h.2 h'.2 e
    exact ⟨by rw [q], q'⟩
theorem wf_cons {c : Nat} {l : List Nat} (h : wf 1 (c :: l)) : wf (ar c) l := by
  have := h.2
  rw [show 1 - 1 + ar c = ar c by omega] at this; exact this
theorem wf_mk {c : Nat} {l : List Nat} (h : wf (ar c) l) : wf 1 (c :: l) := ⟨by omega, by rw [show 1 - 1 + ar c = ar c by omega]; exact h⟩
/-- terms one behind another, as a list of rows -/
def wfs (ts : List (List Nat)) : Prop := ∀ t ∈ ts, wf 1 t
theorem wf_flat : ∀ {ts : List (List Nat)}, wfs ts → wf ts.length ts.flatten
  | [], _ => rfl
  | t :: ts, h => by
    have h1 := h t (List.mem_cons_self ..)
    have h2 := wf_flat (ts := ts) (fun q hq => h q (List.mem_cons_of_mem _ hq))
    have := wf_app h1 h2
    rw [Nat.add_comm] at this
    exact this
theorem wf_parts : ∀ {n : Nat} {l : List Nat}, wf n l → ∃ ts : List (List Nat), wfs ts ∧ ts.length = n ∧ l = ts.flatten
  | 0, l, h => by
    cases l with
    | nil => exact ⟨[], fun _ q => absurd q List.not_mem_nil, rfl, rfl⟩
    | cons c l => exact absurd h.1 (Nat.lt_irrefl 0)
  | n + 1, l, h => by
    rw [Nat.add_comm] at h
    obtain ⟨l1, l2, e, h1, h2⟩ := wf_split h
    obtain ⟨ts, h3, h4, h5⟩ := wf_parts h2
    refine ⟨l1 :: ts, ?_, by simp [h4], by rw [e, h5]; rfl⟩
    intro t ht
    rcases List.mem_cons.mp ht with q | q
    · rw [q]; exact h1
    · exact h3 t q
theorem xb0_s {β : Type} (k : Option β) : xb0 (some ()) k = k := rfl
theorem xb1_s {α0 β : Type} {a0 : α0} (k : α0 → Option β) : xb1 (some (a0)) k = k a0 := rfl
theorem xb2_s {α0 α1 β : Type} {a0 : α0} {a1 : α1} (k : α0 → α1 → Option β) : xb2 (some (a0, a1)) k = k a0 a1 := rfl
theorem xb3_s {α0 α1 α2 β : Type} {a0 : α0} {a1 : α1} {a2 : α2} (k : α0 → α1 → α2 → Option β) : xb3 (some (a0, a1, a2)) k = k a0 a1 a2 := rfl
theorem xb4_s {α0 α1 α2 α3 β : Type} {a0 : α0} {a1 : α1} {a2 : α2} {a3 : α3} (k : α0 → α1 → α2 → α3 → Option β) : xb4 (some (a0, a1, a2, a3)) k = k a0 a1 a2 a3 := rfl
theorem xb5_s {α0 α1 α2 α3 α4 β : Type} {a0 : α0} {a1 : α1} {a2 : α2} {a3 : α3} {a4 : α4} (k : α0 → α1 → α2 → α3 → α4 → Option β) : xb5 (some (a0, a1, a2, a3, a4)) k = k a0 a1 a2 a3 a4 := rfl
theorem xb6_s {α0 α1 α2 α3 α4 α5 β : Type} {a0 : α0} {a1 : α1} {a2 : α2} {a3 : α3} {a4 : α4} {a5 : α5} (k : α0 → α1 → α2 → α3 → α4 → α5 → Option β) : xb6 (some (a0, a1, a2, a3, a4, a5)) k = k a0 a1 a2 a3 a4 a5 := rfl
theorem xb7_s {α0 α1 α2 α3 α4 α5 α6 β : Type} {a0 : α0} {a1 : α1} {a2 : α2} {a3 : α3} {a4 : α4} {a5 : α5} {a6 : α6} (k : α0 → α1 → α2 → α3 → α4 → α5 → α6 → Option β) : xb7 (some (a0, a1, a2, a3, a4, a5, a6)) k = k a0 a1 a2 a3 a4 a5 a6 := rfl
theorem xb8_s {α0 α1 α2 α3 α4 α5 α6 α7 β : Type} {a0 : α0} {a1 : α1} {a2 : α2} {a3 : α3} {a4 : α4} {a5 : α5} {a6 : α6} {a7 : α7} (k : α0 → α1 → α2 → α3 → α4 → α5 → α6 → α7 → Option β) : xb8 (some (a0, a1, a2, a3, a4, a5, a6, a7)) k = k a0 a1 a2 a3 a4 a5 a6 a7 := rfl
theorem xb9_s {α0 α1 α2 α3 α4 α5 α6 α7 α8 β : Type} {a0 : α0} {a1 : α1} {a2 : α2} {a3 : α3} {a4 : α4} {a5 : α5} {a6 : α6} {a7 : α7} {a8 : α8} (k : α0 → α1 → α2 → α3 → α4 → α5 → α6 → α7 → α8 → Option β) : xb9 (some (a0, a1, a2, a3, a4, a5, a6, a7, a8)) k = k a0 a1 a2 a3 a4 a5 a6 a7 a8 := rfl
theorem xb10_s {α0 α1 α2 α3 α4 α5 α6 α7 α8 α9 β : Type} {a0 : α0} {a1 : α1} {a2 : α2} {a3 : α3} {a4 : α4} {a5 : α5} {a6 : α6} {a7 : α7} {a8 : α8} {a9 : α9} (k : α0 → α1 → α2 → α3 → α4 → α5 → α6 → α7 → α8 → α9 → Option β) : xb10 (some (a0, a1, a2, a3, a4, a5, a6, a7, a8, a9)) k = k a0 a1 a2 a3 a4 a5 a6 a7 a8 a9 := rfl
theorem xb11_s {α0 α1 α2 α3 α4 α5 α6 α7 α8 α9 α10 β : Type} {a0 : α0} {a1 : α1} {a2 : α2} {a3 : α3} {a4 : α4} {a5 : α5} {a6 : α6} {a7 : α7} {a8 : α8} {a9 : α9} {a10 : α10} (k : α0 → α1 → α2 → α3 → α4 → α5 → α6 → α7 → α8 → α9 → α10 → Option β) : xb11 (some (a0, a1, a2, a3, a4, a5, a6, a7, a8, a9, a10)) k = k a0 a1 a2 a3 a4 a5 a6 a7 a8 a9 a10 := rfl
theorem xb12_s {α0 α1 α2 α3 α4 α5 α6 α7 α8 α9 α10 α11 β : Type} {a0 : α0} {a1 : α1} {a2 : α2} {a3 : α3} {a4 : α4} {a5 : α5} {a6 : α6} {a7 : α7} {a8 : α8} {a9 : α9} {a10 : α10} {a11 : α11} (k : α0 → α1 → α2 → α3 → α4 → α5 → α6 → α7 → α8 → α9 → α10 → α11 → Option β) : xb12 (some (a0, a1, a2, a3, a4, a5, a6, a7, a8, a9, a10, a11)) k = k a0 a1 a2 a3 a4 a5 a6 a7 a8 a9 a10 a11 := rfl
theorem xb13_s {α0 α1 α2 α3 α4 α5 α6 α7 α8 α9 α10 α11 α12 β : Type} {a0 : α0} {a1 : α1} {a2 : α2} {a3 : α3} {a4 : α4} {a5 : α5} {a6 : α6} {a7 : α7} {a8 : α8} {a9 : α9} {a10 : α10} {a11 : α11} {a12 : α12} (k : α0 → α1 → α2 → α3 → α4 → α5 → α6 → α7 → α8 → α9 → α10 → α11 → α12 → Option β) : xb13 (some (a0, a1, a2, a3, a4, a5, a6, a7, a8, a9, a10, a11, a12)) k = k a0 a1 a2 a3 a4 a5 a6 a7 a8 a9 a10 a11 a12 := rfl
theorem xb14_s {α0 α1 α2 α3 α4 α5 α6 α7 α8 α9 α10 α11 α12 α13 β : Type} {a0 : α0} {a1 : α1} {a2 : α2} {a3 : α3} {a4 : α4} {a5 : α5} {a6 : α6} {a7 : α7} {a8 : α8} {a9 : α9} {a10 : α10} {a11 : α11} {a12 : α12} {a13 : α13} (k : α0 → α1 → α2 → α3 → α4 → α5 → α6 → α7 → α8 → α9 → α10 → α11 → α12 → α13 → Option β) : xb14 (some (a0, a1, a2, a3, a4, a5, a6, a7, a8, a9, a10, a11, a12, a13)) k = k a0 a1 a2 a3 a4 a5 a6 a7 a8 a9 a10 a11 a12 a13 := rfl
theorem xb15_s {α0 α1 α2 α3 α4 α5 α6 α7 α8 α9 α10 α11 α12 α13 α14 β : Type} {a0 : α0} {a1 : α1} {a2 : α2} {a3 : α3} {a4 : α4} {a5 : α5} {a6 : α6} {a7 : α7} {a8 : α8} {a9 : α9} {a10 : α10} {a11 : α11} {a12 : α12} {a13 : α13} {a14 : α14} (k : α0 → α1 → α2 → α3 → α4 → α5 → α6 → α7 → α8 → α9 → α10 → α11 → α12 → α13 → α14 → Option β) : xb15 (some (a0, a1, a2, a3, a4, a5, a6, a7, a8, a9, a10, a11, a12, a13, a14)) k = k a0 a1 a2 a3 a4 a5 a6 a7 a8 a9 a10 a11 a12 a13 a14 := rfl
theorem xb16_s {α0 α1 α2 α3 α4 α5 α6 α7 α8 α9 α10 α11 α12 α13 α14 α15 β : Type} {a0 : α0} {a1 : α1} {a2 : α2} {a3 : α3} {a4 : α4} {a5 : α5} {a6 : α6} {a7 : α7} {a8 : α8} {a9 : α9} {a10 : α10} {a11 : α11} {a12 : α12} {a13 : α13} {a14 : α14} {a15 : α15} (k : α0 → α1 → α2 → α3 → α4 → α5 → α6 → α7 → α8 → α9 → α10 → α11 → α12 → α13 → α14 → α15 → Option β) : xb16 (some (a0, a1, a2, a3, a4, a5, a6, a7, a8, a9, a10, a11, a12, a13, a14, a15)) k = k a0 a1 a2 a3 a4 a5 a6 a7 a8 a9 a10 a11 a12 a13 a14 a15 := rfl
theorem xb17_s {α0 α1 α2 α3 α4 α5 α6 α7 α8 α9 α10 α11 α12 α13 α14 α15 α16 β : Type} {a0 : α0} {a1 : α1} {a2 : α2} {a3 : α3} {a4 : α4} {a5 : α5} {a6 : α6} {a7 : α7} {a8 : α8} {a9 : α9} {a10 : α10} {a11 : α11} {a12 : α12} {a13 : α13} {a14 : α14} {a15 : α15} {a16 : α16} (k : α0 → α1 → α2 → α3 → α4 → α5 → α6 → α7 → α8 → α9 → α10 → α11 → α12 → α13 → α14 → α15 → α16 → Option β) : xb17 (some (a0, a1, a2, a3, a4, a5, a6, a7, a8, a9, a10, a11, a12, a13, a14, a15, a16)) k = k a0 a1 a2 a3 a4 a5 a6 a7 a8 a9 a10 a11 a12 a13 a14 a15 a16 := rfl
theorem xb18_s {α0 α1 α2 α3 α4 α5 α6 α7 α8 α9 α10 α11 α12 α13 α14 α15 α16 α17 β : Type} {a0 : α0} {a1 : α1} {a2 : α2} {a3 : α3} {a4 : α4} {a5 : α5} {a6 : α6} {a7 : α7} {a8 : α8} {a9 : α9} {a10 : α10} {a11 : α11} {a12 : α12} {a13 : α13} {a14 : α14} {a15 : α15} {a16 : α16} {a17 : α17} (k : α0 → α1 → α2 → α3 → α4 → α5 → α6 → α7 → α8 → α9 → α10 → α11 → α12 → α13 → α14 → α15 → α16 → α17 → Option β) : xb18 (some (a0, a1, a2, a3, a4, a5, a6, a7, a8, a9, a10, a11, a12, a13, a14, a15, a16, a17)) k = k a0 a1 a2 a3 a4 a5 a6 a7 a8 a9 a10 a11 a12 a13 a14 a15 a16 a17 := rfl
theorem xb19_s {α0 α1 α2 α3 α4 α5 α6 α7 α8 α9 α10 α11 α12 α13 α14 α15 α16 α17 α18 β : Type} {a0 : α0} {a1 : α1} {a2 : α2} {a3 : α3} {a4 : α4} {a5 : α5} {a6 : α6} {a7 : α7} {a8 : α8} {a9 : α9} {a10 : α10} {a11 : α11} {a12 : α12} {a13 : α13} {a14 : α14} {a15 : α15} {a16 : α16} {a17 : α17} {a18 : α18} (k : α0 → α1 → α2 → α3 → α4 → α5 → α6 → α7 → α8 → α9 → α10 → α11 → α12 → α13 → α14 → α15 → α16 → α17 → α18 → Option β) : xb19 (some (a0, a1, a2, a3, a4, a5, a6, a7, a8, a9, a10, a11, a12, a13, a14, a15, a16, a17, a18)) k = k a0 a1 a2 a3 a4 a5 a6 a7 a8 a9 a10 a11 a12 a13 a14 a15 a16 a17 a18 := rfl
theorem xb20_s {α0 α1 α2 α3 α4 α5 α6 α7 α8 α9 α10 α11 α12 α13 α14 α15 α16 α17 α18 α19 β : Type} {a0 : α0} {a1 : α1} {a2 : α2} {a3 : α3} {a4 : α4} {a5 : α5} {a6 : α6} {a7 : α7} {a8 : α8} {a9 : α9} {a10 : α10} {a11 : α11} {a12 : α12} {a13 : α13} {a14 : α14} {a15 : α15} {a16 : α16} {a17 : α17} {a18 : α18} {a19 : α19} (k : α0 → α1 → α2 → α3 → α4 → α5 → α6 → α7 → α8 → α9 → α10 → α11 → α12 → α13 → α14 → α15 → α16 → α17 → α18 → α19 → Option β) : xb20 (some (a0, a1, a2, a3, a4, a5, a6, a7, a8, a9, a10, a11, a12, a13, a14, a15, a16, a17, a18, a19)) k = k a0 a1 a2 a3 a4 a5 a6 a7 a8 a9 a10 a11 a12 a13 a14 a15 a16 a17 a18 a19 := rfl
theorem xb21_s {α0 α1 α2 α3 α4 α5 α6 α7 α8 α9 α10 α11 α12 α13 α14 α15 α16 α17 α18 α19 α20 β : Type} {a0 : α0} {a1 : α1} {a2 : α2} {a3 : α3} {a4 : α4} {a5 : α5} {a6 : α6} {a7 : α7} {a8 : α8} {a9 : α9} {a10 : α10} {a11 : α11} {a12 : α12} {a13 : α13} {a14 : α14} {a15 : α15} {a16 : α16} {a17 : α17} {a18 : α18} {a19 : α19} {a20 : α20} (k : α0 → α1 → α2 → α3 → α4 → α5 → α6 → α7 → α8 → α9 → α10 → α11 → α12 → α13 → α14 → α15 → α16 → α17 → α18 → α19 → α20 → Option β) : xb21 (some (a0, a1, a2, a3, a4, a5, a6, a7, a8, a9, a10, a11, a12, a13, a14, a15, a16, a17, a18, a19, a20)) k = k a0 a1 a2 a3 a4 a5 a6 a7 a8 a9 a10 a11 a12 a13 a14 a15 a16 a17 a18 a19 a20 := rfl
theorem xb22_s {α0 α1 α2 α3 α4 α5 α6 α7 α8 α9 α10 α11 α12 α13 α14 α15 α16 α17 α18 α19 α20 α21 β : Type} {a0 : α0} {a1 : α1} {a2 : α2} {a3 : α3} {a4 : α4} {a5 : α5} {a6 : α6} {a7 : α7} {a8 : α8} {a9 : α9} {a10 : α10} {a11 : α11} {a12 : α12} {a13 : α13} {a14 : α14} {a15 : α15} {a16 : α16} {a17 : α17} {a18 : α18} {a19 : α19} {a20 : α20} {a21 : α21} (k : α0 → α1 → α2 → α3 → α4 → α5 → α6 → α7 → α8 → α9 → α10 → α11 → α12 → α13 → α14 → α15 → α16 → α17 → α18 → α19 → α20 → α21 → Option β) : xb22 (some (a0, a1, a2, a3, a4, a5, a6, a7, a8, a9, a10, a11, a12, a13, a14, a15, a16, a17, a18, a19, a20, a21)) k = k a0 a1 a2 a3 a4 a5 a6 a7 a8 a9 a10 a11 a12 a13 a14 a15 a16 a17 a18 a19 a20 a21 := rfl
theorem xb23_s {α0 α1 α2 α3 α4 α5 α6 α7 α8 α9 α10 α11 α12 α13 α14 α15 α16 α17 α18 α19 α20 α21 α22 β : Type} {a0 : α0} {a1 : α1} {a2 : α2} {a3 : α3} {a4 : α4} {a5 : α5} {a6 : α6} {a7 : α7} {a8 : α8} {a9 : α9} {a10 : α10} {a11 : α11} {a12 : α12} {a13 : α13} {a14 : α14} {a15 : α15} {a16 : α16} {a17 : α17} {a18 : α18} {a19 : α19} {a20 : α20} {a21 : α21} {a22 : α22} (k : α0 → α1 → α2 → α3 → α4 → α5 → α6 → α7 → α8 → α9 → α10 → α11 → α12 → α13 → α14 → α15 → α16 → α17 → α18 → α19 → α20 → α21 → α22 → Option β) : xb23 (some (a0, a1, a2, a3, a4, a5, a6, a7, a8, a9, a10, a11, a12, a13, a14, a15, a16, a17, a18, a19, a20, a21, a22)) k = k a0 a1 a2 a3 a4 a5 a6 a7 a8 a9 a10 a11 a12 a13 a14 a15 a16 a17 a18 a19 a20 a21 a22 := rfl
theorem xb24_s {α0 α1 α2 α3 α4 α5 α6 α7 α8 α9 α10 α11 α12 α13 α14 α15 α16 α17 α18 α19 α20 α21 α22 α23 β : Type} {a0 : α0} {a1 : α1} {a2 : α2} {a3 : α3} {a4 : α4} {a5 : α5} {a6 : α6} {a7 : α7} {a8 : α8} {a9 : α9} {a10 : α10} {a11 : α11} {a12 : α12} {a13 : α13} {a14 : α14} {a15 : α15} {a16 : α16} {a17 : α17} {a18 : α18} {a19 : α19} {a20 : α20} {a21 : α21} {a22 : α22} {a23 : α23} (k : α0 → α1 → α2 → α3 → α4 → α5 → α6 → α7 → α8 → α9 → α10 → α11 → α12 → α13 → α14 → α15 → α16 → α17 → α18 → α19 → α20 → α21 → α22 → α23 → Option β) : xb24 (some (a0, a1, a2, a3, a4, a5, a6, a7, a8, a9, a10, a11, a12, a13, a14, a15, a16, a17, a18, a19, a20, a21, a22, a23)) k = k a0 a1 a2 a3 a4 a5 a6 a7 a8 a9 a10 a11 a12 a13 a14 a15 a16 a17 a18 a19 a20 a21 a22 a23 := rfl
theorem xb25_s {α0 α1 α2 α3 α4 α5 α6 α7 α8 α9 α10 α11 α12 α13 α14 α15 α16 α17 α18 α19 α20 α21 α22 α23 α24 β : Type} {a0 : α0} {a1 : α1} {a2 : α2} {a3 : α3} {a4 : α4} {a5 : α5} {a6 : α6} {a7 : α7} {a8 : α8} {a9 : α9} {a10 : α10} {a11 : α11} {a12 : α12} {a13 : α13} {a14 : α14} {a15 : α15} {a16 : α16} {a17 : α17} {a18 : α18} {a19 : α19} {a20 : α20} {a21 : α21} {a22 : α22} {a23 : α23} {a24 : α24} (k : α0 → α1 → α2 → α3 → α4 → α5 → α6 → α7 → α8 → α9 → α10 → α11 → α12 → α13 → α14 → α15 → α16 → α17 → α18 → α19 → α20 → α21 → α22 → α23 → α24 → Option β) : xb25 (some (a0, a1, a2, a3, a4, a5, a6, a7, a8, a9, a10, a11, a12, a13, a14, a15, a16, a17, a18, a19, a20, a21, a22, a23, a24)) k = k a0 a1 a2 a3 a4 a5 a6 a7 a8 a9 a10 a11 a12 a13 a14 a15 a16 a17 a18 a19 a20 a21 a22 a23 a24 := rfl
theorem xb26_s {α0 α1 α2 α3 α4 α5 α6 α7 α8 α9 α10 α11 α12 α13 α14 α15 α16 α17 α18 α19 α20 α21 α22 α23 α24 α25 β : Type} {a0 : α0} {a1 : α1} {a2 : α2} {a3 : α3} {a4 : α4} {a5 : α5} {a6 : α6} {a7 : α7} {a8 : α8} {a9 : α9} {a10 : α10} {a11 : α11} {a12 : α12} {a13 : α13} {a14 : α14} {a15 : α15} {a16 : α16} {a17 : α17} {a18 : α18} {a19 : α19} {a20 : α20} {a21 : α21} {a22 : α22} {a23 : α23} {a24 : α24} {a25 : α25} (k : α0 → α1 → α2 → α3 → α4 → α5 → α6 → α7 → α8 → α9 → α10 → α11 → α12 → α13 → α14 → α15 → α16 → α17 → α18 → α19 → α20 → α21 → α22 → α23 → α24 → α25 → Option β) : xb26 (some (a0, a1, a2, a3, a4, a5, a6, a7, a8, a9, a10, a11, a12, a13, a14, a15, a16, a17, a18, a19, a20, a21, a22, a23, a24, a25)) k = k a0 a1 a2 a3 a4 a5 a6 a7 a8 a9 a10 a11 a12 a13 a14 a15 a16 a17 a18 a19 a20 a21 a22 a23 a24 a25 := rfl
