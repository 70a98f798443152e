/-! ===== records: the key laid, its place found ===== -/
def pad (l : List Nat) : List Nat := l ++ List.replicate (21 - l.length) 0
theorem pad_len {l : List Nat} (h : l.length ≤ 21) : (pad l).length = 21 := by unfold pad; rw [List.length_append, List.length_replicate]; omega
/-- the cells of the variables from one on -/
def keyF (pv : Int32) (sg : Nat → List Nat) : Nat → Nat → List Nat
  | 0, _ => []
  | k + 1, v => pad (if hb pv v then sg v else []) ++ keyF pv sg k (v + 1)
def key (pv : Int32) (sg : Nat → List Nat) : List Nat := keyF pv sg 5 0
theorem la_zero {f : Nat → Int32} : ∀ {k a : Nat}, (∀ j : Nat, a ≤ j → j < a + k → f j = 0) → la f a (List.replicate k 0)
  | 0, _, _ => trivial
  | k + 1, a, h => by
    rw [List.replicate_succ]
    exact ⟨h a (Nat.le_refl _) (by omega), la_zero (fun j h1 h2 => h j (by omega) (by omega))⟩
theorem keyF_len {pv : Int32} {sg : Nat → List Nat} (h : ∀ v : Nat, v < 5 → hb pv v = true → (sg v).length ≤ 20) : ∀ (k v : Nat), v + k ≤ 5 → (keyF pv sg k v).length = 21 * k
  | 0, _, _ => rfl
  | k + 1, v, hv => by
    show (pad _ ++ keyF pv sg k (v + 1)).length = _
    have hp : (if hb pv v then sg v else []).length ≤ 21 := by
      split
      · rename_i q; have := h v (by omega) q; omega
      · simp
    rw [List.length_append, keyF_len h k (v + 1) (by omega), pad_len hp]
    omega
theorem keyF_ok {pv : Int32} {sg : Nat → List Nat} (h : ∀ v : Nat, v < 5 → hb pv v = true → col (sg v)) : ∀ (k v : Nat), v + k ≤ 5 → ∀ c ∈ keyF pv sg k v, c < 5632
  | 0, _, _, c, hc => absurd hc List.not_mem_nil
  | k + 1, v, hv, c, hc => by
    rcases List.mem_append.mp hc with g | g
    · unfold pad at g
      rcases List.mem_append.mp g with g | g
      · split at g
        · rename_i q; exact cok_lt (h v (by omega) q c g)
        · exact absurd g List.not_mem_nil
      · rw [(List.mem_replicate.mp g).2]; decide
    · exact keyF_ok h k (v + 1) (by omega) c g
theorem lx_records_73_ok {n : Nat} {fp fb : Nat → Int32} {pv tm fm : Int32} {k35 : Int32 → Int32 → Int32 → (Nat → Int32) → Int32 → RRes} {L v a : Nat} (hL : L ≤ 300) (hv : v < 5) (hbd : fb v = nI a) : ∀ (l : List Nat) (j m : Nat) (f : Nat → Int32), la fp (a + j) l → j + l.length ≤ 21 → a + j + l.length ≤ 60000 → l.length < m →
    lx_records_73 n fp fb pv k35 m (nI L) (nI v) (nI (a + j + l.length)) (nI (a + j)) fm f tm = k35 (nI L) (nI (v + 1)) fm (put f (21 * (5 * L + v) + j) l) tm
  | [], j, m + 1, f, _, _, _, _ => by
    show bx_records_73 n fp fb pv k35 (lx_records_73 n fp fb pv k35 m) _ _ _ _ _ _ _ = _
    unfold bx_records_73
    simp only [List.length_nil, Nat.add_zero]
    rw [if_pos (Int32.le_refl _), xl_eq, nI_1]; rfl
  | c :: l, j, m + 1, f, hl, hj, ha, hm => by
    simp only [List.length_cons] at hj ha hm ⊢
    show bx_records_73 n fp fb pv k35 (lx_records_73 n fp fb pv k35 m) _ _ _ _ _ _ _ = _
    unfold bx_records_73
    rw [if_neg (by rw [nI_le_iff (by omega) (by omega)]; omega), fx_foundAt_ok (by omega) (by omega), xb1_s, xl_eq, nI_add, xr_n hv (by decide), hbd, xl_eq, nI_sub (by omega), xr_n (by omega) (by decide), hl.1, xw_n (by omega) (by decide), xl_eq, nI_1]
    have := lx_records_73_ok (n := n) (pv := pv) (tm := tm) (fm := fm) (k35 := k35) hL hv hbd l (j + 1) m (upd f (21 * (5 * L + v) + (a + j) - a) (nI c)) hl.2 (by omega) (by omega) (by omega)
    rw [show a + j + (l.length + 1) = a + (j + 1) + l.length by omega, show a + j + 1 = a + (j + 1) by omega, this, show 21 * (5 * L + v) + (a + j) - a = 21 * (5 * L + v) + j by omega]; rfl
/-- what the variables have: bound ones lie in the pool -/
def bok (fp fb : Nat → Int32) (so : Nat → Nat) (T : Nat) (v : Nat) (r : List Nat) : Prop := ∃ a : Nat, fb v = nI a ∧ la fp a r ∧ okt so r ∧ r.length ≤ 20 ∧ a + r.length ≤ T
theorem lx_records_35_ok {n : Nat} {fp fb : Nat → Int32} {so : Nat → Nat} {pv tm fm : Int32} {sg : Nat → List Nat} {L T : Nat} (hL : L ≤ 300) (hn : 100000 ≤ n) (hT : T ≤ 60000) (hbd : ∀ v : Nat, v < 5 → hb pv v = true → bok fp fb so T v (sg v)) : ∀ (k v m : Nat) (f : Nat → Int32), v + k = 5 → (∀ j : Nat, 105 * L + 21 * v ≤ j → j < 105 * L + 105 → f j = 0) → k < m →
    ∃ f' : Nat → Int32, lx_records_35 n fp fb pv m (nI L) (nI v) fm f tm = lx_records_121 n fp fb pv n (nI L) (nI L) fm f' tm ∧ la f' (105 * L + 21 * v) (keyF pv sg k v) ∧ ∀ j : Nat, j < 105 * L + 21 * v → f' j = f j
  | 0, v, m + 1, f, hv, _, _ => by
    refine ⟨f, ?_, trivial, fun _ _ => rfl⟩
    show bx_records_35 n fp fb pv (lx_records_35 n fp fb pv m) _ _ _ _ _ = _
    unfold bx_records_35
    rw [show (5 : Int32) = nI 5 from rfl, if_pos (by rw [nI_le_iff (by decide) (by omega)]; omega)]
  | k + 1, v, m + 1, f, hv, hz, hm => by
    have eL : lx_records_35 n fp fb pv (m + 1) (nI L) (nI v) fm f tm = bx_records_35 n fp fb pv (lx_records_35 n fp fb pv m) (nI L) (nI v) fm f tm := rfl
    rw [eL]
    unfold bx_records_35
    rw [show (5 : Int32) = nI 5 from rfl, if_neg (by rw [nI_le_iff (by decide) (by omega)]; omega), fx_holds_ok (by omega), xb1_s]
    show ∃ f' : Nat → Int32, _ ∧ la f' (105 * L + 21 * v) (pad (if hb pv v then sg v else []) ++ keyF pv sg k (v + 1)) ∧ _
    by_cases q : hb pv v = true
    · rw [if_pos q, if_pos q, if_neg (by decide)]
      obtain ⟨a, b1, b2, b3, b4, b5⟩ := hbd v (by omega) q
      have hpz : ∀ j : Nat, 105 * L + 21 * (v + 1) ≤ j → j < 105 * L + 105 → put f (21 * (5 * L + v) + 0) (sg v) j = 0 := fun j h1 h2 => by rw [put_out (Or.inr (by omega))]; exact hz j (by omega) h2
      obtain ⟨f', g1, g2, g3⟩ := lx_records_35_ok (fm := fm) (tm := tm) hL hn hT hbd k (v + 1) m (put f (21 * (5 * L + v) + 0) (sg v)) (by omega) hpz (by omega)
      refine ⟨f', ?_, ?_, fun j hj => ?_⟩
      · rw [xr_n (by omega) (by decide), b1, fx_behind_ok b2 b3.1 b3.2.1 (by omega) hn, xb1_s, xr_n (by omega) (by decide), b1]
        have := lx_records_73_ok (n := n) (pv := pv) (tm := tm) (fm := fm) (k35 := lx_records_35 n fp fb pv m) hL (by omega : v < 5) b1 (sg v) 0 n f b2 (by omega) (by omega) (by omega)
        rw [Nat.add_zero] at this
        rw [this]; exact g1
      · unfold pad
        rw [List.append_assoc]
        refine la_app.mpr ⟨?_, la_app.mpr ⟨?_, ?_⟩⟩
        · refine la_congr (fun i hi => ?_) (put_la (f := f) (a := 21 * (5 * L + v) + 0) (l := sg v))
          rw [g3 _ (by omega)]; congr 1; omega
        · refine la_zero (fun j h1 h2 => ?_)
          rw [g3 j (by omega), put_out (Or.inr (by omega))]; exact hz j (by omega) (by omega)
        · rw [List.length_replicate, show 105 * L + 21 * v + (sg v).length + (21 - (sg v).length) = 105 * L + 21 * (v + 1) by omega]; exact g2
      · rw [g3 j (by omega), put_out (Or.inl (by omega))]
    · rw [if_neg q, if_neg q, if_pos rfl]
      obtain ⟨f', g1, g2, g3⟩ := lx_records_35_ok (fm := fm) (tm := tm) hL hn hT hbd k (v + 1) m f (by omega) (fun j h1 h2 => hz j (by omega) h2) (by omega)
      refine ⟨f', ?_, ?_, fun j hj => g3 j (by omega)⟩
      · rw [xl_eq, nI_1]; exact g1
      · unfold pad
        rw [List.nil_append, List.length_nil]
        refine la_app.mpr ⟨la_zero (fun j h1 h2 => ?_), ?_⟩
        · rw [g3 j (by omega)]; exact hz j (by omega) (by omega)
        · rw [List.length_replicate, show 105 * L + 21 * v + (21 - 0) = 105 * L + 21 * (v + 1) by omega]; exact g2
theorem lx_records_7_ok {n : Nat} {fp fb : Nat → Int32} {pv tm fm : Int32} {L : Nat} (hL : L ≤ 300) : ∀ (k x m : Nat) (f : Nat → Int32), x + k = 105 → k < m →
    ∃ f' : Nat → Int32, lx_records_7 n fp fb pv m (nI L) (nI x) fm f tm = lx_records_35 n fp fb pv n (nI L) (nI 0) fm f' tm ∧ (∀ j : Nat, 105 * L + x ≤ j → j < 105 * L + 105 → f' j = 0) ∧ (∀ j : Nat, j < 105 * L + x → f' j = f j)
  | 0, x, m + 1, f, hx, _ => by
    refine ⟨f, ?_, fun j h1 h2 => by omega, fun _ _ => rfl⟩
    show bx_records_7 n fp fb pv (lx_records_7 n fp fb pv m) _ _ _ _ _ = _
    unfold bx_records_7
    rw [show (105 : Int32) = nI 105 from rfl, if_pos (by rw [nI_le_iff (by decide) (by omega)]; omega)]; rfl
  | k + 1, x, m + 1, f, hx, hm => by
    obtain ⟨f', g1, g2, g3⟩ := lx_records_7_ok (n := n) (fp := fp) (fb := fb) (pv := pv) (tm := tm) (fm := fm) hL k (x + 1) m (upd f (105 * L + x) 0) (by omega) (by omega)
    refine ⟨f', ?_, fun j h1 h2 => ?_, fun j h1 => ?_⟩
    · show bx_records_7 n fp fb pv (lx_records_7 n fp fb pv m) _ _ _ _ _ = _
      unfold bx_records_7
      rw [show (105 : Int32) = nI 105 from rfl, if_neg (by rw [nI_le_iff (by decide) (by omega)]; omega), show (0 : Int32) = nI 0 from rfl, fx_foundAt_ok (by omega) (by decide), xb1_s, xl_eq, nI_add, xw_n (by omega) (by decide), xl_eq, nI_1, show 21 * (5 * L + 0) + x = 105 * L + x by omega]
      exact g1
    · by_cases q : j = 105 * L + x
      · rw [g3 j (by omega), q, upd_eq]
      · exact g2 j (by omega) h2
    · rw [g3 j (by omega), upd_ne (by omega)]
/-! ===== the keys found so far, in order ===== -/
def klt (a b : List Nat) : Prop := cmpL a b = -1
def KS (F : List (List Nat)) : Prop := (∀ k ∈ F, kok k) ∧ F.Pairwise klt
def insK (k : List Nat) : List (List Nat) → List (List Nat) → List (List Nat)
  | [], q => k :: q
  | y :: r, q => if cmpL y k = 1 then insK k r (y :: q) else if cmpL y k = 0 then (y :: r).reverse ++ q else (y :: r).reverse ++ k :: q
theorem KS_flat_len : ∀ {F : List (List Nat)}, (∀ k ∈ F, kok k) → F.flatten.length = 105 * F.length
  | [], _ => rfl
  | k :: F, h => by
    rw [List.flatten_cons, List.length_append, KS_flat_len (fun q hq => h q (List.mem_cons_of_mem _ hq)), (h k (List.mem_cons_self ..)).1, List.length_cons]; omega
theorem kat {f : Nat → Int32} {A B : List (List Nat)} {k : List Nat} (hA : ∀ q ∈ A, kok q) (h : la f 0 (A ++ k :: B).flatten) : la f (105 * A.length) k := by
  rw [List.flatten_append, List.flatten_cons] at h
  have := (la_app.mp (la_app.mp h).2).1
  rw [KS_flat_len hA, Nat.zero_add] at this
  exact this
