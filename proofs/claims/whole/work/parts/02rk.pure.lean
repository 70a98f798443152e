/-! ===== feed, end ===== -/
def pub (f : Nat → Int32) : Nat → List Nat → Nat → Int32
  | _, [] => f
  | a, b :: l => pub (upd f a (sb b)) (a + 1) l
theorem pub_out : ∀ {l : List Nat} {f : Nat → Int32} {a i : Nat}, i < a ∨ a + l.length ≤ i → pub f a l i = f i
  | [], _, _, _, _ => rfl
  | b :: l, f, a, i, h => by
    simp only [List.length_cons] at h
    show pub (upd f a (sb b)) (a + 1) l i = f i
    rw [pub_out (by omega), upd_ne (by omega)]
theorem pub_in : ∀ {l : List Nat} {f : Nat → Int32} {a i : Nat}, i < l.length → pub f a l (a + i) = sb (gb l i)
  | b :: l, f, a, 0, _ => by
    show pub (upd f a (sb b)) (a + 1) l (a + 0) = sb b
    rw [pub_out (by omega), Nat.add_zero, upd_eq]
  | b :: l, f, a, i + 1, h => by
    simp only [List.length_cons] at h
    show pub (upd f a (sb b)) (a + 1) l (a + (i + 1)) = sb (gb l i)
    rw [show a + (i + 1) = a + 1 + i by omega, pub_in (by omega)]
theorem gb_app1 {A B : List Nat} {i : Nat} (h : i < A.length) : gb (A ++ B) i = gb A i := by
  unfold gb
  rw [List.getD_eq_getElem?_getD, List.getD_eq_getElem?_getD, List.getElem?_append_left h]
theorem gb_app2 {A B : List Nat} {i : Nat} (h : A.length ≤ i) : gb (A ++ B) i = gb B (i - A.length) := by
  unfold gb
  rw [List.getD_eq_getElem?_getD, List.getD_eq_getElem?_getD, List.getElem?_append_right h]
/-- the bytes of five numbers, from the k-th on -/
def fdl (w : Nat → Int32) : Nat → Nat → List Nat
  | 0, _ => []
  | d + 1, k => byt (w (k / 4)) (k % 4) :: fdl w d (k + 1)
theorem fdl_len {w : Nat → Int32} : ∀ {d k : Nat}, (fdl w d k).length = d
  | 0, _ => rfl
  | d + 1, k => by show (fdl w d (k + 1)).length + 1 = d + 1; rw [fdl_len]
theorem fdl_lt {w : Nat → Int32} : ∀ {d k : Nat}, ∀ b ∈ fdl w d k, b < 256
  | 0, _, b, h => absurd h List.not_mem_nil
  | d + 1, k, b, h => by
    rcases List.mem_cons.mp h with e | e
    · rw [e]; exact byt_lt
    · exact fdl_lt b e
theorem i20 : ∀ k : Fin 20, nI k.val / 4 = nI (k.val / 4) ∧ ((24 : Int32) - 8 * (nI k.val - nI k.val / 4 * 4)) &&& 31 = nI (24 - 8 * (k.val % 4)) &&& 31 := by decide +kernel
theorem lx_feed_ok {n t : Nat} {p0 p1 p2 p3 p4 th : Int32} {w : Nat → Int32} (ht : t + 20 ≤ 400) : ∀ (d k m : Nat) (f : Nat → Int32), k + d = 20 → d < m → lx_feed_60 n p0 p1 p2 p3 p4 m (nI k) th f (nI t) w = some (nI (t + 20), th, pub f (t + k) (fdl w d k), nI (t + 20), w)
  | 0, k, m + 1, f, hk, _ => by
    show bx_feed_60 n p0 p1 p2 p3 p4 (lx_feed_60 n p0 p1 p2 p3 p4 m) (nI k) th f (nI t) w = _
    unfold bx_feed_60
    rw [show (20 : Int32) = nI 20 from rfl, if_pos (by rw [nI_le_iff (by decide) (by omega)]; omega), xl_eq, nI_add]; rfl
  | d + 1, k, m + 1, f, hk, hm => by
    obtain ⟨e1, e2⟩ := i20 ⟨k, by omega⟩
    show bx_feed_60 n p0 p1 p2 p3 p4 (lx_feed_60 n p0 p1 p2 p3 p4 m) (nI k) th f (nI t) w = some (nI (t + 20), th, pub (upd f (t + k) (sb (byt (w (k / 4)) (k % 4)))) (t + k + 1) (fdl w d (k + 1)), nI (t + 20), w)
    unfold bx_feed_60
    rw [show (20 : Int32) = nI 20 from rfl, if_neg (by rw [nI_le_iff (by decide) (by omega)]; omega), xl_eq, nI_add, xl_eq]
    have e1' : nI k / 4 = nI (k / 4) := e1
    have e2' : ((24 : Int32) - 8 * (nI k - nI k / 4 * 4)) &&& 31 = nI (24 - 8 * (k % 4)) &&& 31 := e2
    rw [e1', xr_n (by omega) (by decide), xl_eq, xl_eq, xl_eq, xl_eq, ← e1', e2', xl_eq, nar_is, byt_is (by omega), xw_n (by omega) (by decide), xl_eq, nI_1, lx_feed_ok ht d (k + 1) m _ (by omega) (by omega), show t + (k + 1) = t + k + 1 by omega]
/-- five numbers -/
def fiv (w : Nat → Int32) (a b c d e : Int32) : Nat → Int32 := upd (upd (upd (upd (upd w 0 a) 1 b) 2 c) 3 d) 4 e
theorem fdl_congr {w w' : Nat → Int32} (h : ∀ i : Nat, i < 5 → w i = w' i) : ∀ {d k : Nat}, k + d ≤ 20 → fdl w d k = fdl w' d k
  | 0, _, _ => rfl
  | d + 1, k, hk => by
    show byt (w (k / 4)) (k % 4) :: fdl w d (k + 1) = byt (w' (k / 4)) (k % 4) :: fdl w' d (k + 1)
    rw [h _ (by omega), fdl_congr h (by omega)]
def fed (a b c d e : Int32) : List Nat := fdl (fiv (fun _ => 0) a b c d e) 20 0
theorem fiv_is {w w' : Nat → Int32} {a b c d e : Int32} : ∀ i : Nat, i < 5 → fiv w a b c d e i = fiv w' a b c d e i := fun i hi => by
  unfold fiv
  have h5 : i = 0 ∨ i = 1 ∨ i = 2 ∨ i = 3 ∨ i = 4 := by omega
  rcases h5 with rfl | rfl | rfl | rfl | rfl <;> simp [upd]
theorem TPE_feed {f : Nat → Int32} {L : List Nat} {B : List Nat} (h : TPE f L) (hB : ∀ b ∈ B, b < 256) (hl : L.length + B.length ≤ 400) : TPE (pub f L.length B) (L ++ B) := by
  refine ⟨by rw [List.length_append]; exact hl, fun b hb9 => ?_, fun i hi => ?_⟩
  · rcases List.mem_append.mp hb9 with g | g
    · exact h.2.1 b g
    · exact hB b g
  · rw [List.length_append] at hi
    by_cases q : i < L.length
    · rw [pub_out (Or.inl q), gb_app1 q]; exact h.2.2 i q
    · rw [gb_app2 (by omega), show i = L.length + (i - L.length) by omega, pub_in (by omega), show L.length + (i - L.length) - L.length = i - L.length by omega]
theorem fx_feed_ok {n : Nat} {f w : Nat → Int32} {L : List Nat} {th a b c d e : Int32} (hn : 100000 ≤ n) (h : TPE f L) :
    (L.length + 20 ≤ 400 ∧ ∃ (f' w' : Nat → Int32), fx_feed n th f (nI L.length) w a b c d e = some (nI (L.length + 20), 0, f', nI (L ++ fed a b c d e).length, w') ∧ TPE f' (L ++ fed a b c d e)) ∨ (400 < L.length + 20 ∧ fx_feed n th f (nI L.length) w a b c d e = some (-1, 0, f, nI L.length, w)) := by
  have h4 := h.1
  have el : (fed a b c d e).length = 20 := fdl_len
  unfold fx_feed
  rw [xl_eq, show (20 : Int32) = nI 20 from rfl, nI_add, show (400 : Int32) = nI 400 from rfl]
  by_cases q : L.length + 20 ≤ 400
  · refine Or.inl ⟨q, ?_⟩
    rw [if_pos (by rw [nI_le_iff (by omega) (by omega)]; exact q), show (0 : Int32) = nI 0 from rfl, xw_n (by decide) (by decide), show (1 : Int32) = nI 1 from rfl, xw_n (by decide) (by decide), show (2 : Int32) = nI 2 from rfl, xw_n (by decide) (by decide), show (3 : Int32) = nI 3 from rfl, xw_n (by decide) (by decide), show (4 : Int32) = nI 4 from rfl, xw_n (by decide) (by decide)]
    have lp := lx_feed_ok (n := n) (p0 := a) (p1 := b) (p2 := c) (p3 := d) (p4 := e) (th := nI 0) (w := fiv w a b c d e) (t := L.length) q 20 0 n f (by omega) (by omega)
    have e9 : fdl (fiv w a b c d e) 20 0 = fed a b c d e := fdl_congr fiv_is (by decide)
    rw [e9, Nat.add_zero] at lp
    refine ⟨pub f L.length (fed a b c d e), fiv w a b c d e, ?_, TPE_feed h (fun b hb9 => fdl_lt b hb9) (by omega)⟩
    rw [List.length_append, el]
    exact lp
  · exact Or.inr ⟨by omega, by rw [if_neg (by rw [nI_le_iff (by omega) (by omega)]; exact q)]⟩
theorem TPE_take {f : Nat → Int32} {L : List Nat} {k : Nat} (h : TPE f L) (hk : k ≤ L.length) : TPE f (L.take k) := by
  refine ⟨by rw [List.length_take]; have := h.1; omega, fun b hb9 => h.2.1 b (List.mem_of_mem_take hb9), fun i hi => ?_⟩
  rw [List.length_take] at hi
  rw [h.2.2 i (by omega)]
  unfold gb
  rw [List.getD_eq_getElem?_getD, List.getD_eq_getElem?_getD, List.getElem?_take_of_lt (by omega)]
theorem fx_end_ok {n : Nat} {f : Nat → Int32} {L : List Nat} {th x : Int32} (h : TPE f L) :
    (∃ k : Nat, (k < L.length + 1 ∧ x = nI k) ∧ fx_end n th (nI L.length) x = some (1, 0, nI (L.take k).length) ∧ TPE f (L.take k)) ∨ (¬ isn x (L.length + 1) ∧ fx_end n th (nI L.length) x = some (0, 0, nI L.length)) := by
  have h4 := h.1
  unfold fx_end
  by_cases q : isn x (L.length + 1)
  · obtain ⟨k, k1, k2⟩ := isn_of (by omega) q
    refine Or.inl ⟨k, ⟨k1, k2⟩, ?_, TPE_take h (by omega)⟩
    rw [k2, if_neg (by rw [show (0 : Int32) = nI 0 from rfl, nI_lt_iff (by omega) (by decide)]; omega), if_pos (by rw [nI_le_iff (by omega) (by omega)]; omega), List.length_take, show min k L.length = k by omega]
  · refine Or.inr ⟨q, ?_⟩
    by_cases z : x < 0
    · rw [if_pos z]
    · rw [if_neg z, if_neg]
      intro y
      refine q ⟨?_, ?_⟩
      · have : ¬ x.toInt < (0 : Int32).toInt := fun g => z (Int32.lt_iff_toInt_lt.mpr g)
        have e : (0 : Int32).toInt = 0 := rfl
        omega
      · have g := Int32.le_iff_toInt_le.mp y
        rw [nI_toInt (by omega)] at g
        omega
