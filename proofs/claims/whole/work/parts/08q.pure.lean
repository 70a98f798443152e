/-! ===== the class's nodes: what the table of terms holds ===== -/
def nL (n : Nat) : Int64 := Int64.ofNat n
theorem nL_add {a b : Nat} : nL a + nL b = nL (a + b) := (Int64.ofNat_add a b).symm
theorem mul_eq {M : Nat → Nat → Int64} {a i : Nat} {v : Int64} : mul M a i v a = vp_updL (M a) i v := by
  unfold mul
  rw [Nat.beq_refl]; rfl
theorem mul_ne {M : Nat → Nat → Int64} {a b i : Nat} {v : Int64} (h : b ≠ a) : mul M a i v b = M b := by
  unfold mul
  have : Nat.beq b a = false := by
    cases q : Nat.beq b a with
    | false => rfl
    | true => exact absurd (Nat.eq_of_beq_eq_true q) h
  rw [this]; rfl
theorem updL_eq (f : Nat → Int64) (i : Nat) (v : Int64) : vp_updL f i v i = v := by unfold vp_updL; rw [if_pos rfl]
theorem updL_ne {f : Nat → Int64} {i j : Nat} {v : Int64} (h : j ≠ i) : vp_updL f i v j = f j := by unfold vp_updL; rw [if_neg h]
theorem xwpl_n {β : Type} {n a i : Nat} {M : Nat → Nat → Int64} {v : Int64} {k : (Nat → Nat → Int64) → Option β} (h : i < n) (hn : n < 2147483648) : xwpl n M a (nI i) v k = k (mul M a i v) := by
  unfold xwpl
  rw [nI_toInt (by omega), if_pos ⟨by omega, by omega⟩, nI_clamp (by omega)]
/-- the last place below n where f is h -/
def lst (f : Nat → Int32) (h : Int32) : Nat → Option Nat
  | 0 => none
  | n + 1 => if f n = h then some n else lst f h n
theorem lst_some {f : Nat → Int32} {h : Int32} : ∀ {n i : Nat}, lst f h n = some i → i < n ∧ f i = h ∧ ∀ j : Nat, i < j → j < n → f j ≠ h
  | 0, i, e => nomatch e
  | n + 1, i, e => by
    unfold lst at e
    by_cases q : f n = h
    · rw [if_pos q] at e
      have : n = i := Option.some.inj e
      subst this
      exact ⟨by omega, q, fun j h1 h2 => by omega⟩
    · rw [if_neg q] at e
      obtain ⟨a, b, c⟩ := lst_some e
      refine ⟨by omega, b, fun j h1 h2 => ?_⟩
      by_cases z : j = n
      · rw [z]; exact q
      · exact c j h1 (by omega)
theorem lst_none {f : Nat → Int32} {h : Int32} : ∀ {n : Nat}, lst f h n = none → ∀ j : Nat, j < n → f j ≠ h
  | 0, _, j, hj => absurd hj (Nat.not_lt_zero _)
  | n + 1, e, j, hj => by
    unfold lst at e
    by_cases q : f n = h
    · rw [if_pos q] at e; exact nomatch e
    · rw [if_neg q] at e
      by_cases z : j = n
      · rw [z]; exact q
      · exact lst_none e j (by omega)
theorem lst_congr {f g : Nat → Int32} {h : Int32} : ∀ {n : Nat}, (∀ j : Nat, j < n → g j = f j) → lst g h n = lst f h n
  | 0, _ => rfl
  | n + 1, e => by
    unfold lst
    rw [e n (by omega), lst_congr (n := n) (fun j hj => e j (by omega))]
def hsF (f : Nat → Int32) : Nat → Nat → Int32 → Int32
  | 0, _, x => x
  | k + 1, a, x => hsF f k (a + 1) (x * 31 + f a)
theorem hsF_congr {f g : Nat → Int32} : ∀ {k a b : Nat} {x : Int32}, (∀ j : Nat, j < k → g (b + j) = f (a + j)) → hsF g k b x = hsF f k a x
  | 0, _, _, _, _ => rfl
  | k + 1, a, b, x, e => by
    have e0 := e 0 (by omega)
    rw [Nat.add_zero, Nat.add_zero] at e0
    unfold hsF
    rw [e0]
    exact hsF_congr (fun j hj => by have := e (j + 1) (by omega); rw [show b + 1 + j = b + (j + 1) by omega, show a + 1 + j = a + (j + 1) by omega]; exact this)
def hfin (x : Int32) : Int32 := (x ^^^ (x.toUInt32 >>> (((8 : Int32)).toUInt32 &&& Int32.toUInt32 31)).toInt32) &&& 255
theorem hfin_ok (x : Int32) : ∃ h : Nat, h < 256 ∧ hfin x = nI h := by
  have q := ti_mask (x := x ^^^ (x.toUInt32 >>> (((8 : Int32)).toUInt32 &&& Int32.toUInt32 31)).toInt32) (k := 255) (z := hfin x) (n := 255) rfl ⟨rfl, by decide⟩
  exact ⟨(hfin x).toInt.toNat, by omega, nI_ofi (by omega) (by omega)⟩
/-- counts -/
def cnt (f : Nat → Nat) : List Nat → Nat
  | [] => 0
  | c :: l => f c + cnt f l
theorem cnt_app {f : Nat → Nat} : ∀ {l r : List Nat}, cnt f (l ++ r) = cnt f l + cnt f r
  | [], r => by rw [List.nil_append]; exact (Nat.zero_add _).symm
  | c :: l, r => by
    show f c + cnt f (l ++ r) = f c + cnt f l + cnt f r
    rw [cnt_app, Nat.add_assoc]
/-- the field of a code -/
def hed (c : Nat) : Nat := if c < 512 then c else c / 512 + 4
def loC (las : Nat → Bool) (c : Nat) : Nat := if las (hed c) = true ∧ hed c < 10 then 64 ^ hed c else 0
def hiC (las : Nat → Bool) (c : Nat) : Nat := if las (hed c) = true ∧ 10 ≤ hed c then 64 ^ (hed c - 10) else 0
/-- bits of what lasts -/
def LB (ga : Nat → Nat → Int32) (las : Nat → Bool) : Prop := ∀ h : Nat, h < 15 → ((ga 0 2 >>> (nI h &&& 31)) &&& 1) = if las h then 1 else 0
def nod (v : Nat → Nat → Int32) (w : Nat → Nat → Int64) (las : Nat → Bool) (N : List (List Nat)) (i : Nat) : Prop :=
  (wf 1 (nth N i) ∧ cckl (nth N i) ∧ col (nth N i) ∧ (nth N i).length ≤ 20 ∧ ar (hd0 (nth N i)) ≤ 6) ∧
  (v 1 i = nI (cc (hd0 (nth N i))) ∧ v 2 i = nI (nth N i).length ∧ v 3 i = vrF (nth N i) 0 ∧ w 0 i = nL (cnt (loC las) (nth N i)) ∧ w 1 i = nL (cnt (hiC las) (nth N i))) ∧
  (∀ j : Nat, j < ar (hd0 (nth N i)) → ∃ p : Nat, p < i ∧ nth N p = nth (pts (nth N i)) j ∧ v 4 (6 * i + j) = nI p) ∧
  (v 5 i = hfin (hsF (v 4) (ar (hd0 (nth N i))) (6 * i) (nI (cc (hd0 (nth N i))))) ∧ v 6 i = oI (lst (v 5) (v 5 i) i))
def TB (v : Nat → Nat → Int32) (w : Nat → Nat → Int64) (las : Nat → Bool) (N : List (List Nat)) : Prop :=
  N.length ≤ 1024 ∧ v 0 0 = nI N.length ∧ N.Nodup ∧ (∀ i : Nat, i < N.length → nod v w las N i) ∧ ∀ h : Nat, h < 256 → v 7 h = oI (lst (v 5) (nI h) N.length)
/-- rows on the line -/
def LI (v : Nat → Nat → Int32) (N qs : List (List Nat)) : Prop := ∀ j : Nat, j < qs.length → ∃ p : Nat, p < N.length ∧ nth N p = nth qs j ∧ v 8 j = nI p
theorem nth_inj : ∀ {N : List (List Nat)} {i j : Nat}, N.Nodup → i < N.length → j < N.length → nth N i = nth N j → i = j
  | N, i, j, h, hi, hj, e => by
    unfold nth at e
    rw [List.getD_eq_getElem?_getD, List.getD_eq_getElem?_getD, List.getElem?_eq_getElem hi, List.getElem?_eq_getElem hj] at e
    have e' : N[i] = N[j] := e
    exact (List.getElem?_inj hi h).mp (by rw [List.getElem?_eq_getElem hi, List.getElem?_eq_getElem hj, e'])
theorem vrF_app {a : Int32} : ∀ {l r : List Nat} {a : Int32}, vrF (l ++ r) a = vrF r (vrF l a)
  | [], r, a => rfl
  | c :: l, r, a => by
    show vrF (l ++ r) _ = vrF r (vrF l _)
    exact vrF_app (a := a)
theorem vrF_or : ∀ {l : List Nat} {a : Int32}, vrF l a = a ||| vrF l 0
  | [], a => (Int32.or_zero).symm
  | c :: l, a => by
    show vrF l (if c < 512 then a ||| ((1 : Int32) <<< (nI c &&& 31)) else a) = a ||| vrF l (if c < 512 then 0 ||| ((1 : Int32) <<< (nI c &&& 31)) else 0)
    by_cases q : c < 512
    · rw [if_pos q, if_pos q, vrF_or (l := l), vrF_or (l := l) (a := 0 ||| _), Int32.or_assoc, Int32.or_assoc, show ∀ y : Int32, (0 : Int32) ||| y = y from fun y => Int32.zero_or]
    · rw [if_neg q, if_neg q]
      exact vrF_or
theorem pts_len {t : List Nat} (h : wf 1 t) : (pts t).length = ar (hd0 t) := by
  cases t with
  | nil => exact absurd h.symm (by decide)
  | cons c l => exact (pts_of h).2.1
theorem row_pts {t : List Nat} (h : wf 1 t) : t = hd0 t :: (pts t).flatten := by
  cases t with
  | nil => exact absurd h.symm (by decide)
  | cons c l => rw [(pts_of h).2.2]; rfl
theorem nth_ext {A B : List (List Nat)} (hl : A.length = B.length) (h : ∀ j : Nat, j < A.length → nth A j = nth B j) : A = B := by
  apply List.ext_getElem hl
  intro i h1 h2
  have := h i h1
  unfold nth at this
  rw [List.getD_eq_getElem?_getD, List.getD_eq_getElem?_getD, List.getElem?_eq_getElem h1, List.getElem?_eq_getElem h2] at this
  exact this
theorem TB_get {v : Nat → Nat → Int32} {w : Nat → Nat → Int64} {las : Nat → Bool} {N : List (List Nat)} (h : TB v w las N) {i : Nat} (hi : i < N.length) : nod v w las N i := h.2.2.2.1 i hi
theorem fx_codeOf_c {n i : Nat} {v : Nat → Nat → Int32} {w : Nat → Nat → Int64} {las : Nat → Bool} {N : List (List Nat)} (h : TB v w las N) (hi : i < N.length) : fx_X8_codeOf n v (nI i) = some (nI (cc (hd0 (nth N i)))) := by
  have h1 := h.1
  unfold fx_X8_codeOf
  rw [if_neg (by rw [show (0 : Int32) = nI 0 from rfl, nI_lt_iff (by omega) (by decide)]; omega), h.2.1, if_neg (by rw [nI_le_iff (by omega) (by omega)]; omega), if_neg (by rw [show (1024 : Int32) = nI 1024 from rfl, nI_le_iff (by decide) (by omega)]; omega), xr_n (by omega) (by decide), (TB_get h hi).2.1.1]
theorem fx_maskOf_c {n i : Nat} {v : Nat → Nat → Int32} {w : Nat → Nat → Int64} {las : Nat → Bool} {N : List (List Nat)} (h : TB v w las N) (hi : i < N.length) : fx_X8_maskOf n v (nI i) = some (vrF (nth N i) 0) := by
  have h1 := h.1
  unfold fx_X8_maskOf
  rw [if_neg (by rw [show (0 : Int32) = nI 0 from rfl, nI_lt_iff (by omega) (by decide)]; omega), h.2.1, if_neg (by rw [nI_le_iff (by omega) (by omega)]; omega), if_neg (by rw [show (1024 : Int32) = nI 1024 from rfl, nI_le_iff (by decide) (by omega)]; omega), xr_n (by omega) (by decide), (TB_get h hi).2.1.2.2.1]
theorem fx_lowOf_c {n i : Nat} {v : Nat → Nat → Int32} {w : Nat → Nat → Int64} {las : Nat → Bool} {N : List (List Nat)} (h : TB v w las N) (hi : i < N.length) : fx_X8_lowOf n v w (nI i) = some (nL (cnt (loC las) (nth N i))) := by
  have h1 := h.1
  unfold fx_X8_lowOf
  rw [if_neg (by rw [show (0 : Int32) = nI 0 from rfl, nI_lt_iff (by omega) (by decide)]; omega), h.2.1, if_neg (by rw [nI_le_iff (by omega) (by omega)]; omega), if_neg (by rw [show (1024 : Int32) = nI 1024 from rfl, nI_le_iff (by decide) (by omega)]; omega), xr_n (by omega) (by decide), (TB_get h hi).2.1.2.2.2.1]
theorem fx_highOf_c {n i : Nat} {v : Nat → Nat → Int32} {w : Nat → Nat → Int64} {las : Nat → Bool} {N : List (List Nat)} (h : TB v w las N) (hi : i < N.length) : fx_X8_highOf n v w (nI i) = some (nL (cnt (hiC las) (nth N i))) := by
  have h1 := h.1
  unfold fx_X8_highOf
  rw [if_neg (by rw [show (0 : Int32) = nI 0 from rfl, nI_lt_iff (by omega) (by decide)]; omega), h.2.1, if_neg (by rw [nI_le_iff (by omega) (by omega)]; omega), if_neg (by rw [show (1024 : Int32) = nI 1024 from rfl, nI_le_iff (by decide) (by omega)]; omega), xr_n (by omega) (by decide), (TB_get h hi).2.1.2.2.2.2]
theorem fx_partOf_c {n i j : Nat} {v : Nat → Nat → Int32} {w : Nat → Nat → Int64} {las : Nat → Bool} {N : List (List Nat)} (h : TB v w las N) (hi : i < N.length) (hj : j < ar (hd0 (nth N i))) : ∃ p : Nat, p < i ∧ nth N p = nth (pts (nth N i)) j ∧ fx_X8_partOf n v (nI i) (nI j) = some (nI p) := by
  have h1 := h.1
  obtain ⟨p, p1, p2, p3⟩ := (TB_get h hi).2.2.1 j hj
  have h6 := (TB_get h hi).1.2.2.2.2
  refine ⟨p, p1, p2, ?_⟩
  unfold fx_X8_partOf
  rw [if_neg (by rw [show (0 : Int32) = nI 0 from rfl, nI_lt_iff (by omega) (by decide)]; omega), h.2.1, if_neg (by rw [nI_le_iff (by omega) (by omega)]; omega), if_neg (by rw [show (1024 : Int32) = nI 1024 from rfl, nI_le_iff (by decide) (by omega)]; omega), if_neg (by rw [show (0 : Int32) = nI 0 from rfl, nI_lt_iff (by omega) (by decide)]; omega), if_neg (by rw [show (6 : Int32) = nI 6 from rfl, nI_le_iff (by decide) (by omega)]; omega), xl_eq, show (6 : Int32) = nI 6 from rfl, nI_mul (by omega) (by omega) (by decide), xl_eq, nI_add, xr_n (by omega) (by decide), show i * 6 + j = 6 * i + j by omega, p3]
