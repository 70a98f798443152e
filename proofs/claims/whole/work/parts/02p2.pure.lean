/-! ===== the reference's leaves over rows: parts, operator, behind, compares, copies, comes, keeps ===== -/
theorem ar_lt {c : Nat} : ar c < 512 := by unfold ar; split <;> omega
theorem fx_partsAt_ok {n : Nat} {f : Nat → Int32} {a c : Nat} (h : f a = nI c) (hc : c < 5632) (ha : a < 60000) : fx_partsAt n f (nI a) = some (nI (ar c)) := by
  unfold fx_partsAt
  rw [xr_n ha (by decide), h]
  unfold ar
  by_cases q : c < 512
  · rw [if_neg (show ¬ (512 : Int32) ≤ nI c from fun h9 => by rw [show (512 : Int32) = nI 512 from rfl, nI_le_iff (by decide) (by omega)] at h9; omega), if_pos q]; rfl
  · rw [if_pos (show (512 : Int32) ≤ nI c by rw [show (512 : Int32) = nI 512 from rfl, nI_le_iff (by decide) (by omega)]; omega), xr_n ha (by decide), h, if_neg q, xl_eq, show (512 : Int32) = nI 512 from rfl, nI_rem (by omega) (by decide) (by decide)]
/-- the operator of a code, as the reference tells it: none of a variable -/
def opI (c : Nat) : Int32 := nI (c / 512) - 1
theorem fx_operatorAt_ok {n : Nat} {f : Nat → Int32} {a c : Nat} (h : f a = nI c) (hc : c < 5632) (ha : a < 60000) : fx_operatorAt n f (nI a) = some (opI c) := by
  unfold fx_operatorAt
  rw [xr_n ha (by decide), h, xl_eq, xl_eq, show (512 : Int32) = nI 512 from rfl, nI_div (by omega) (by decide) (by decide)]; rfl
theorem opI_op {c : Nat} (h : 512 ≤ c) : opI c = nI (c / 512 - 1) := by
  unfold opI
  obtain ⟨k, hk⟩ : ∃ k, c / 512 = k + 1 := ⟨c / 512 - 1, by omega⟩
  rw [hk, nI_pred]; rfl
theorem opI_var {c : Nat} (h : c < 512) : opI c = -1 := by
  unfold opI
  rw [show c / 512 = 0 by omega]; rfl
theorem nI_bal (k p : Nat) : nI (k + 1) + (nI p - 1) = nI (k + p) := by
  rw [nI_succ, ← nI_add]; grind
theorem lx_behind_ok {n : Nat} {f : Nat → Int32} {p0 : Int32} : ∀ (l : List Nat) (k a m : Nat), la f a l → wf k l → col l → a + l.length ≤ 60000 → l.length < m → lx_behind_4 n f p0 m (nI k) (nI a) = some (nI (a + l.length))
  | [], k, a, m + 1, _, hw, _, _, _ => by
    have : k = 0 := hw
    subst this
    show bx_behind_4 n f p0 (lx_behind_4 n f p0 m) (nI 0) (nI a) = _
    unfold bx_behind_4
    rw [if_pos (show nI 0 ≤ (0 : Int32) by decide)]; rfl
  | c :: l, 0, a, m + 1, hl, hw, hc, ha, hm => absurd hw.1 (Nat.lt_irrefl 0)
  | c :: l, k + 1, a, m + 1, hl, hw, hc, ha, hm => by
    have hk := wf_len hw
    simp only [List.length_cons] at hk ha hm
    have hcc := cok_lt (col_cons.mp hc).1
    show bx_behind_4 n f p0 (lx_behind_4 n f p0 m) (nI (k + 1)) (nI a) = _
    unfold bx_behind_4
    rw [if_neg (nI_nle (by omega) (by omega)), fx_partsAt_ok hl.1 hcc (by omega)]
    show lx_behind_4 n f p0 m (nI (k + 1) + (nI (ar c) - 1)) (nI a + 1) = _
    rw [nI_bal, nI_1]
    have h2 := hw.2
    rw [show k + 1 - 1 + ar c = k + ar c by omega] at h2
    rw [lx_behind_ok l (k + ar c) (a + 1) m hl.2 h2 (col_cons.mp hc).2 (by omega) (by omega), List.length_cons, show a + 1 + l.length = a + (l.length + 1) by omega]
theorem fx_behind_ok {n : Nat} {f : Nat → Int32} {l : List Nat} {a : Nat} (hl : la f a l) (hw : wf 1 l) (hc : col l) (ha : a + l.length ≤ 60000) (hn : 100000 ≤ n) : fx_behind n f (nI a) = some (nI (a + l.length)) := by
  unfold fx_behind
  exact lx_behind_ok l 1 a n hl hw hc ha (by omega)
/-- ORDER of rows: the first unlike codes -/
def cmpL : List Nat → List Nat → Int32
  | [], _ => 0
  | _ :: _, [] => 0
  | c :: l, d :: r => if c = d then cmpL l r else if c < d then -1 else 1
theorem jx_compares_ok {n : Nat} {f : Nat → Int32} {a b x : Nat} {l r : List Nat} (hl : la f (a + x) l) (hr : la f (b + x) r) (hcl : col l) (hcr : col r) (h0 : l = [] ∨ r = [] ∨ l.head? ≠ r.head?) (ha : a + x + l.length ≤ 60000) (hb : b + x + r.length ≤ 60000) :
    jx_compares_60 n f (nI a) (nI b) (nI (a + x + l.length)) (nI (b + x + r.length)) (nI x) = some (cmpL l r) := by
  unfold jx_compares_60
  rw [xl_eq, nI_add]
  cases l with
  | nil => rw [if_pos (by rfl)]; rfl
  | cons c l =>
    simp only [List.length_cons] at ha ⊢
    rw [if_neg (by rw [nI_inj (by omega) (by omega)]; omega), xl_eq, nI_add]
    cases r with
    | nil => rw [if_pos (by rfl)]; rfl
    | cons d r =>
      simp only [List.length_cons] at hb ⊢
      have hc1 := cok_lt (col_cons.mp hcl).1
      have hd1 := cok_lt (col_cons.mp hcr).1
      rw [if_neg (by rw [nI_inj (by omega) (by omega)]; omega), xl_eq, xr_n (by omega) (by decide), hl.1, xl_eq, xr_n (by omega) (by decide), hr.1]
      have hne : c ≠ d := by
        rcases h0 with q | q | q
        · exact absurd q (by simp)
        · exact absurd q (by simp)
        · intro e; exact q (by simp [e])
      show _ = some (if c = d then cmpL l r else if c < d then -1 else 1)
      rw [if_neg hne]
      by_cases q : c < d
      · rw [if_pos q, if_neg (by rw [nI_le_iff (by omega) (by omega)]; omega)]
      · rw [if_neg q, if_pos (by rw [nI_le_iff (by omega) (by omega)]; omega)]
theorem lx_compares_ok {n : Nat} {f : Nat → Int32} {a b : Nat} : ∀ (l r : List Nat) (x m : Nat), la f (a + x) l → la f (b + x) r → col l → col r → a + x + l.length ≤ 60000 → b + x + r.length ≤ 60000 → l.length < m →
    lx_compares_16 n f (nI a) (nI b) m (nI (a + x + l.length)) (nI (b + x + r.length)) (nI x) = some (cmpL l r)
  | [], r, x, m + 1, hl, hr, hcl, hcr, ha, hb, hm => by
    simp only [List.length_nil] at ha ⊢
    show bx_compares_16 n f (nI a) (nI b) (lx_compares_16 n f (nI a) (nI b) m) _ _ _ = _
    unfold bx_compares_16
    rw [xl_eq, nI_add, if_pos (by rw [nI_le_iff (by omega) (by omega)]; omega)]
    exact jx_compares_ok (l := []) hl hr hcl hcr (Or.inl rfl) ha hb
  | c :: l, [], x, m + 1, hl, hr, hcl, hcr, ha, hb, hm => by
    show bx_compares_16 n f (nI a) (nI b) (lx_compares_16 n f (nI a) (nI b) m) _ _ _ = _
    unfold bx_compares_16
    have ha' := ha
    simp only [List.length_cons, List.length_nil] at ha' hb
    rw [xl_eq, nI_add, if_neg (by rw [nI_le_iff (by simp only [List.length_cons]; omega) (by omega)]; simp only [List.length_cons]; omega), xl_eq, nI_add, if_pos (by rw [nI_le_iff (by simp only [List.length_nil]; omega) (by omega)]; simp only [List.length_nil]; omega)]
    exact jx_compares_ok hl (r := []) hr hcl hcr (Or.inr (Or.inl rfl)) ha hb
  | c :: l, d :: r, x, m + 1, hl, hr, hcl, hcr, ha, hb, hm => by
    show bx_compares_16 n f (nI a) (nI b) (lx_compares_16 n f (nI a) (nI b) m) _ _ _ = _
    unfold bx_compares_16
    have ha' := ha
    have hb' := hb
    simp only [List.length_cons] at ha' hb' hm
    have hc1 := cok_lt (col_cons.mp hcl).1
    have hd1 := cok_lt (col_cons.mp hcr).1
    rw [xl_eq, nI_add, if_neg (by rw [nI_le_iff (by simp only [List.length_cons]; omega) (by omega)]; simp only [List.length_cons]; omega), xl_eq, nI_add, if_neg (by rw [nI_le_iff (by simp only [List.length_cons]; omega) (by omega)]; simp only [List.length_cons]; omega), xl_eq, xr_n (by omega) (by decide), hl.1, xl_eq, xr_n (by omega) (by decide), hr.1]
    by_cases q : c = d
    · subst q
      rw [if_pos rfl, xl_eq, nI_1]
      have := lx_compares_ok (n := n) l r (x + 1) m hl.2 hr.2 (col_cons.mp hcl).2 (col_cons.mp hcr).2 (by omega) (by omega) (by omega)
      simp only [List.length_cons]
      rw [show a + x + (l.length + 1) = a + (x + 1) + l.length by omega, show b + x + (r.length + 1) = b + (x + 1) + r.length by omega, this]
      show _ = some (if c = c then cmpL l r else _)
      rw [if_pos rfl]
    · rw [if_neg (by rw [nI_inj (by omega) (by omega)]; exact q)]
      exact jx_compares_ok hl hr hcl hcr (Or.inr (Or.inr (by simp [q]))) ha hb
theorem fx_compares_ok {n : Nat} {f : Nat → Int32} {l r : List Nat} {a b : Nat} (hl : la f a l) (hw : wf 1 l) (hc : col l) (ha : a + l.length ≤ 60000) (hr : la f b r) (hw' : wf 1 r) (hc' : col r) (hb : b + r.length ≤ 60000) (hn : 100000 ≤ n) : fx_compares n f (nI a) (nI b) = some (cmpL l r) := by
  unfold fx_compares
  rw [fx_behind_ok hl hw hc ha hn, fx_behind_ok hr hw' hc' hb hn]
  exact lx_compares_ok l r 0 n hl hr hc hc' ha hb (by omega)
theorem cmpL_eq : ∀ {l r : List Nat} {k : Nat}, wf k l → wf k r → (cmpL l r = 0 ↔ l = r)
  | [], [], k, _, _ => by simp [cmpL]
  | [], d :: r, k, h, h' => by
    have : k = 0 := h
    have := h'.1; omega
  | c :: l, [], k, h, h' => by
    have : k = 0 := h'
    have := h.1; omega
  | c :: l, d :: r, k, h, h' => by
    unfold cmpL
    by_cases q : c = d
    · subst q
      rw [if_pos rfl, cmpL_eq h.2 h'.2]; simp
    · rw [if_neg q]
      constructor
      · intro e; split at e <;> exact absurd e (by decide)
      · intro e; simp [q] at e
theorem fx_areAlike_ok {n : Nat} {f : Nat → Int32} {l r : List Nat} {a b : Nat} (hl : la f a l) (hw : wf 1 l) (hc : col l) (ha : a + l.length ≤ 60000) (hr : la f b r) (hw' : wf 1 r) (hc' : col r) (hb : b + r.length ≤ 60000) (hn : 100000 ≤ n) : fx_areAlike n f (nI a) (nI b) = some (if l = r then 1 else 0) := by
  unfold fx_areAlike
  rw [fx_compares_ok hl hw hc ha hr hw' hc' hb hn]
  show (if cmpL l r = 0 then some (1 : Int32) else some 0) = _
  by_cases q : l = r
  · rw [if_pos ((cmpL_eq hw hw').mpr q), if_pos q]
  · rw [if_neg (fun e => q ((cmpL_eq hw hw').mp e)), if_neg q]
/-- a list written at a place -/
def put (f : Nat → Int32) : Nat → List Nat → Nat → Int32
  | _, [] => f
  | a, c :: l => put (upd f a (nI c)) (a + 1) l
theorem put_out {l : List Nat} : ∀ {f : Nat → Int32} {a i : Nat}, (i < a ∨ a + l.length ≤ i) → put f a l i = f i := by
  induction l with
  | nil => intro f a i _; rfl
  | cons c l ih =>
    intro f a i h
    simp only [List.length_cons] at h
    show put (upd f a (nI c)) (a + 1) l i = f i
    rw [ih (by omega), upd_ne (by omega)]
theorem put_la {l : List Nat} : ∀ {f : Nat → Int32} {a : Nat}, la (put f a l) a l := by
  induction l with
  | nil => intro f a; trivial
  | cons c l ih =>
    intro f a
    refine ⟨?_, ih⟩
    show put (upd f a (nI c)) (a + 1) l a = nI c
    rw [put_out (Or.inl (by omega)), upd_eq]
theorem put_app {l r : List Nat} : ∀ {f : Nat → Int32} {a : Nat}, put f a (l ++ r) = put (put f a l) (a + l.length) r := by
  induction l with
  | nil => intro f a; rfl
  | cons c l ih =>
    intro f a
    show put (upd f a (nI c)) (a + 1) (l ++ r) = put (put (upd f a (nI c)) (a + 1) l) (a + (l.length + 1)) r
    rw [ih, show a + 1 + l.length = a + (l.length + 1) by omega]
theorem la_put {f : Nat → Int32} {l r : List Nat} {a b : Nat} (h : a + l.length ≤ b ∨ b + r.length ≤ a) (hl : la f a l) : la (put f b r) a l :=
  la_congr (fun i hi => put_out (by omega)) hl
theorem lx_copies_ok {n : Nat} {p0 : Int32} {x3 : Int32} : ∀ (l : List Nat) (f : Nat → Int32) (a t m : Nat), la f a l → a + l.length ≤ t → t + l.length ≤ 60000 → l.length < m →
    lx_copies_14 n p0 m (nI (a + l.length)) x3 (nI a) f (nI t) = some (x3, put f t l, nI (t + l.length))
  | [], f, a, t, m + 1, _, _, _, _ => by
    show bx_copies_14 n p0 (lx_copies_14 n p0 m) _ _ _ _ _ = _
    unfold bx_copies_14
    simp only [List.length_nil, Nat.add_zero]
    rw [if_pos (Int32.le_refl _)]; rfl
  | c :: l, f, a, t, m + 1, hl, h1, h2, hm => by
    simp only [List.length_cons] at h1 h2 hm ⊢
    show bx_copies_14 n p0 (lx_copies_14 n p0 m) _ _ _ _ _ = _
    unfold bx_copies_14
    rw [if_neg (by rw [nI_le_iff (by omega) (by omega)]; omega), xr_n (by omega) (by decide), hl.1, xw_n (by omega) (by decide), xl_eq, xl_eq, nI_1, nI_1]
    have := lx_copies_ok (n := n) (p0 := p0) (x3 := x3) l (upd f t (nI c)) (a + 1) (t + 1) m (la_upd (Or.inr (by omega)) hl.2) (by omega) (by omega) (by omega)
    rw [show a + (l.length + 1) = a + 1 + l.length by omega, this, show t + (l.length + 1) = t + 1 + l.length by omega]; rfl
theorem fx_copies_ok {n : Nat} {f : Nat → Int32} {l : List Nat} {a t : Nat} (hl : la f a l) (hw : wf 1 l) (hc : col l) (h1 : a + l.length ≤ t) (h2 : t + l.length ≤ 60000) (hn : 100000 ≤ n) : fx_copies n f (nI t) (nI a) = some (nI t, put f t l, nI (t + l.length)) := by
  unfold fx_copies
  rw [fx_behind_ok hl hw hc (by omega) hn]
  exact lx_copies_ok l f a t n hl h1 h2 (by omega)
theorem lx_comes_ok {n : Nat} {fk : Nat → Int32} {p0 x2 : Int32} : ∀ (l : List Nat) (k : Nat) (f : Nat → Int32) (a t m : Nat), la fk a l → wf k l → col l → a + l.length ≤ 966 → t + l.length ≤ 60000 → l.length < m →
    lx_comes_13 n fk p0 m x2 (nI k) (nI a) f (nI t) = some (x2, put f t l, nI (t + l.length))
  | [], k, f, a, t, m + 1, _, hw, _, _, _, _ => by
    have : k = 0 := hw
    subst this
    show bx_comes_13 n fk p0 (lx_comes_13 n fk p0 m) _ _ _ _ _ = _
    unfold bx_comes_13
    rw [if_pos (show nI 0 ≤ (0 : Int32) by decide)]; rfl
  | c :: l, 0, f, a, t, m + 1, _, hw, _, _, _, _ => absurd hw.1 (Nat.lt_irrefl 0)
  | c :: l, k + 1, f, a, t, m + 1, hl, hw, hc, ha, ht, hm => by
    have hk := wf_len hw
    simp only [List.length_cons] at hk ha ht hm ⊢
    have hcc := cok_lt (col_cons.mp hc).1
    show bx_comes_13 n fk p0 (lx_comes_13 n fk p0 m) _ _ _ _ _ = _
    unfold bx_comes_13
    rw [if_neg (nI_nle (by omega) (by omega)), xr_n (by omega) (by decide), hl.1, xw_n (by omega) (by decide), fx_partsAt_ok (upd_eq f t (nI c)) hcc (by omega)]
    show lx_comes_13 n fk p0 m x2 (nI (k + 1) + (nI (ar c) - 1)) (nI a + 1) (upd f t (nI c)) (nI t + 1) = _
    rw [nI_bal, nI_1, nI_1]
    have h2 := hw.2
    rw [show k + 1 - 1 + ar c = k + ar c by omega] at h2
    rw [lx_comes_ok l (k + ar c) (upd f t (nI c)) (a + 1) (t + 1) m hl.2 h2 (col_cons.mp hc).2 (by omega) (by omega) (by omega), show t + (l.length + 1) = t + 1 + l.length by omega]; rfl
theorem fx_comes_ok {n : Nat} {fk f : Nat → Int32} {l : List Nat} {r t : Nat} (hl : la fk (21 * r) l) (hw : wf 1 l) (hc : col l) (hr : 21 * r + l.length ≤ 966) (ht : t + l.length ≤ 60000) (hn : 100000 ≤ n) : fx_comes n f (nI t) fk (nI r) = some (nI t, put f t l, nI (t + l.length)) := by
  unfold fx_comes
  rw [xl_eq, show (21 : Int32) = nI 21 from rfl, nI_mul (by omega) (by decide) (by omega)]
  exact lx_comes_ok l 1 f (21 * r) t n hl hw hc hr ht (by omega)
theorem lx_keeps_ok {n : Nat} {f : Nat → Int32} {r a0 : Nat} : ∀ (l : List Nat) (fk : Nat → Int32) (a j m : Nat), la f a l → a = a0 + j → 21 * r + j + l.length ≤ 966 → a + l.length ≤ 60000 → l.length < m →
    lx_keeps_9 n f (nI r) (nI a0) m (nI (a + l.length)) (nI a) fk = some (put fk (21 * r + j) l)
  | [], fk, a, j, m + 1, _, _, _, _, _ => by
    show bx_keeps_9 n f (nI r) (nI a0) (lx_keeps_9 n f (nI r) (nI a0) m) _ _ _ = _
    unfold bx_keeps_9
    simp only [List.length_nil, Nat.add_zero]
    rw [if_pos (Int32.le_refl _)]; rfl
  | c :: l, fk, a, j, m + 1, hl, hj, h1, h2, hm => by
    simp only [List.length_cons] at h1 h2 hm ⊢
    show bx_keeps_9 n f (nI r) (nI a0) (lx_keeps_9 n f (nI r) (nI a0) m) _ _ _ = _
    unfold bx_keeps_9
    rw [if_neg (by rw [nI_le_iff (by omega) (by omega)]; omega), xl_eq, show (21 : Int32) = nI 21 from rfl, nI_mul (by omega) (by decide) (by omega), xl_eq, nI_add, xl_eq, nI_sub (by omega), xr_n (by omega) (by decide), hl.1, xw_n (by omega) (by decide), xl_eq, nI_1]
    have := lx_keeps_ok (n := n) (f := f) (r := r) (a0 := a0) l (upd fk (21 * r + a - a0) (nI c)) (a + 1) (j + 1) m hl.2 (by omega) (by omega) (by omega) (by omega)
    rw [show a + (l.length + 1) = a + 1 + l.length by omega, this, show 21 * r + a - a0 = 21 * r + j by omega]; rfl
theorem fx_keeps_ok {n : Nat} {f fk : Nat → Int32} {l : List Nat} {r a : Nat} (hl : la f a l) (hw : wf 1 l) (hc : col l) (hr : 21 * r + l.length ≤ 966) (ha : a + l.length ≤ 60000) (hn : 100000 ≤ n) : fx_keeps n f fk (nI r) (nI a) = some (put fk (21 * r) l) := by
  unfold fx_keeps
  rw [fx_behind_ok hl hw hc ha hn]
  exact lx_keeps_ok l fk a 0 n hl rfl (by omega) ha (by omega)
