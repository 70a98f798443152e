/-! ===== tokens ===== -/
def isb (L : List Nat) (p lo hi : Nat) : Bool := decide (p < L.length) && (decide (lo ≤ gb L p) && decide (gb L p ≤ hi))
theorem isb_lt {L : List Nat} {p lo hi : Nat} (h : isb L p lo hi = true) : p < L.length ∧ lo ≤ gb L p ∧ gb L p ≤ hi := by
  unfold isb at h
  simp only [Bool.and_eq_true, decide_eq_true_eq] at h
  exact h
theorem sby_cmp {b lo hi : Nat} (hb9 : b < 256) (hlo : lo ≤ 127) (hhi : hi < 128) : (¬ sb b < nI lo ∧ ¬ nI hi < sb b) ↔ (lo ≤ b ∧ b ≤ hi) := by
  by_cases q : b < 128
  · have e : sb b = nI b := sb_lo ⟨b, q⟩
    rw [e, nI_lt_iff (by omega) (by omega), nI_lt_iff (by omega) (by omega)]; omega
  · have h := sb_hi ⟨b, hb9⟩ (by show 128 ≤ b; omega)
    have h' : (sb b).toInt < 0 := h
    constructor
    · rintro ⟨h1, _⟩
      exact absurd (Int32.lt_iff_toInt_lt.mpr (by rw [nI_toInt (by omega)]; omega)) h1
    · omega
theorem fx_isAt_ok {n p lo hi : Nat} {f : Nat → Int32} {L : List Nat} (h : TPE f L) (hlo : lo ≤ 127) (hhi : hi < 128) (hp : p < 1000) : fx_isAt n f (nI L.length) (nI p) (nI lo) (nI hi) = some (if isb L p lo hi then 1 else 0) := by
  have h4 := h.1
  unfold fx_isAt isb
  by_cases q : p < L.length
  · have hbt := h.2.1 _ (gb_mem q)
    have key := sby_cmp (b := gb L p) hbt hlo hhi
    rw [if_neg (by rw [nI_le_iff (by omega) (by omega)]; omega), xr_n (by omega) (by decide), h.2.2 p q, decide_eq_true q, Bool.true_and]
    by_cases z1 : sb (gb L p) < nI lo
    · rw [if_pos z1]
      have : ¬ (lo ≤ gb L p ∧ gb L p ≤ hi) := fun g => (key.mpr g).1 z1
      rw [if_neg (by rw [Bool.and_eq_true, decide_eq_true_eq, decide_eq_true_eq]; exact this)]
    · rw [if_neg z1, xr_n (by omega) (by decide), h.2.2 p q]
      by_cases z2 : nI hi < sb (gb L p)
      · rw [if_pos z2]
        have : ¬ (lo ≤ gb L p ∧ gb L p ≤ hi) := fun g => (key.mpr g).2 z2
        rw [if_neg (by rw [Bool.and_eq_true, decide_eq_true_eq, decide_eq_true_eq]; exact this)]
      · rw [if_neg z2]
        have := key.mp ⟨z1, z2⟩
        rw [if_pos (by rw [Bool.and_eq_true, decide_eq_true_eq, decide_eq_true_eq]; exact this)]
  · rw [if_pos (by rw [nI_le_iff (by omega) (by omega)]; omega), decide_eq_false q, Bool.false_and]; rfl
/-- on, as long as it holds -/
def scn (P : Nat → Bool) : Nat → Nat → Nat
  | 0, p => p
  | d + 1, p => if P p then scn P d (p + 1) else p
theorem scn_t {P : Nat → Bool} {d p : Nat} (h : P p = true) : scn P (d + 1) p = scn P d (p + 1) := by show (if P p then _ else _) = _; rw [if_pos h]
theorem scn_f {P : Nat → Bool} {d p : Nat} (h : P p = false) : scn P d p = p := by
  cases d with
  | zero => rfl
  | succ d => show (if P p then _ else _) = _; rw [if_neg (by rw [h]; decide)]
theorem scn_ge {P : Nat → Bool} : ∀ {d p : Nat}, p ≤ scn P d p
  | 0, p => Nat.le_refl _
  | d + 1, p => by
    cases h : P p with
    | true => rw [scn_t h]; exact Nat.le_trans (Nat.le_succ p) scn_ge
    | false => rw [scn_f h]; exact Nat.le_refl _
theorem scn_le {P : Nat → Bool} {e : Nat} (hP : ∀ p : Nat, P p = true → p < e) : ∀ {d p : Nat}, p ≤ e → scn P d p ≤ e
  | 0, p, h => h
  | d + 1, p, h => by
    cases q : P p with
    | true => rw [scn_t q]; exact scn_le hP (hP p q)
    | false => rw [scn_f q]; exact h
theorem scn_end {P : Nat → Bool} {e : Nat} (hP : ∀ p : Nat, P p = true → p < e) : ∀ {d p : Nat}, e ≤ p + d → P (scn P d p) = false
  | 0, p, h => by
    cases q : P p with
    | true => have := hP p q; omega
    | false => exact q
  | d + 1, p, h => by
    cases q : P p with
    | true => rw [scn_t q]; exact scn_end hP (by omega)
    | false => rw [scn_f q]; exact q
theorem scn_at {P : Nat → Bool} : ∀ {d p i : Nat}, p ≤ i → i < scn P d p → P i = true
  | 0, p, i, h1, h2 => absurd h2 (by show ¬ i < p; omega)
  | d + 1, p, i, h1, h2 => by
    cases q : P p with
    | true =>
      rw [scn_t q] at h2
      by_cases e : i = p
      · rw [e]; exact q
      · exact scn_at (by omega) h2
    | false => rw [scn_f q] at h2; omega
theorem scn_fuel {P : Nat → Bool} {e : Nat} (hP : ∀ p : Nat, P p = true → p < e) : ∀ {d d' p : Nat}, e ≤ p + d → e ≤ p + d' → scn P d p = scn P d' p
  | 0, d', p, h, h' => by
    cases q : P p with
    | true => have := hP p q; omega
    | false => rw [scn_f q, scn_f q]
  | d + 1, 0, p, h, h' => by
    cases q : P p with
    | true => have := hP p q; omega
    | false => rw [scn_f q, scn_f q]
  | d + 1, d' + 1, p, h, h' => by
    cases q : P p with
    | true => rw [scn_t q, scn_t q]; exact scn_fuel hP (by omega) (by omega)
    | false => rw [scn_f q, scn_f q]
/-- blanks, letters -/
def isBl (L : List Nat) (p : Nat) : Bool := isb L p 9 10 || isb L p 32 32
def isLe (L : List Nat) (p : Nat) : Bool := isb L p 97 122
def isDg (L : List Nat) (p : Nat) : Bool := isb L p 48 57
theorem isBl_lt {L : List Nat} : ∀ p : Nat, isBl L p = true → p < L.length := fun p h => by
  unfold isBl at h
  rcases Bool.or_eq_true_iff.mp h with g | g
  · exact (isb_lt g).1
  · exact (isb_lt g).1
theorem isLe_lt {L : List Nat} : ∀ p : Nat, isLe L p = true → p < L.length := fun p h => (isb_lt h).1
theorem isDg_lt {L : List Nat} : ∀ p : Nat, isDg L p = true → p < L.length := fun p h => (isb_lt h).1
def bk (L : List Nat) (p : Nat) : Nat := scn (isBl L) 400 p
def wd (L : List Nat) (p : Nat) : Nat := scn (isLe L) 400 p
def dg (L : List Nat) (p : Nat) : Nat := scn (isDg L) 400 p
theorem lx_blanks_ok {n : Nat} {f : Nat → Int32} {L : List Nat} (h : TPE f L) : ∀ (d p m : Nat) (b : Int32), p ≤ L.length → L.length ≤ p + d → d < m → lx_blanks_0 n f (nI L.length) m (nI p) b = some (nI (scn (isBl L) d p), nI (scn (isBl L) d p))
  | d, p, m + 1, b, hp, hd, hm => by
    have h4 := h.1
    have i1 := fx_isAt_ok (n := n) (p := p) (lo := 9) (hi := 10) h (by decide) (by decide) (by omega)
    have i2 := fx_isAt_ok (n := n) (p := p) (lo := 32) (hi := 32) h (by decide) (by decide) (by omega)
    have e9 : nI 9 = (9 : Int32) := rfl
    have e10 : nI 10 = (10 : Int32) := rfl
    have e32 : nI 32 = (32 : Int32) := rfl
    rw [e9, e10] at i1
    rw [e32] at i2
    have go : isBl L p = true → ∀ b9 : Int32, lx_blanks_0 n f (nI L.length) m (nI (p + 1)) b9 = some (nI (scn (isBl L) d p), nI (scn (isBl L) d p)) := fun q b9 => by
      have hl := isBl_lt p q
      obtain ⟨d', rfl⟩ : ∃ d', d = d' + 1 := ⟨d - 1, by omega⟩
      rw [scn_t q]
      exact lx_blanks_ok h d' (p + 1) m b9 (by omega) (by omega) (by omega)
    show bx_blanks_0 n f (nI L.length) (lx_blanks_0 n f (nI L.length) m) (nI p) b = _
    unfold bx_blanks_0
    rw [i1, xb1_s]
    cases q1 : isb L p 9 10 with
    | true =>
      rw [if_neg (by decide), xl_eq, nI_1]
      exact go (by unfold isBl; rw [q1, Bool.true_or]) b
    | false =>
      rw [if_pos (by decide), i2, xb1_s]
      cases q2 : isb L p 32 32 with
      | true =>
        rw [if_neg (by decide), xl_eq, nI_1]
        exact go (by unfold isBl; rw [q1, q2, Bool.or_true]) b
      | false =>
        rw [if_pos (by decide), scn_f (show isBl L p = false by unfold isBl; rw [q1, q2]; rfl)]
theorem fx_blanks_ok {n p : Nat} {f : Nat → Int32} {L : List Nat} {b : Int32} (hn : 100000 ≤ n) (h : TPE f L) (hp : p ≤ L.length) : fx_blanks n f (nI L.length) (nI p) b = some (nI (bk L p), nI (bk L p)) := by
  have h4 := h.1
  unfold fx_blanks bk
  exact lx_blanks_ok h 400 p n b hp (by omega) (by omega)
theorem bk_le {L : List Nat} {p : Nat} (hp : p ≤ L.length) : bk L p ≤ L.length := scn_le isBl_lt hp
theorem bk_ge {L : List Nat} {p : Nat} : p ≤ bk L p := scn_ge
theorem wd_le {L : List Nat} {p : Nat} (hp : p ≤ L.length) : wd L p ≤ L.length := scn_le isLe_lt hp
theorem wd_ge {L : List Nat} {p : Nat} : p ≤ wd L p := scn_ge
theorem dg_le {L : List Nat} {p : Nat} (hp : p ≤ L.length) : dg L p ≤ L.length := scn_le isDg_lt hp
theorem dg_ge {L : List Nat} {p : Nat} : p ≤ dg L p := scn_ge
theorem lx_word_ok {n b : Nat} {f : Nat → Int32} {L : List Nat} (h : TPE f L) (hb9 : b < 1000) : ∀ (d p m : Nat), p ≤ L.length → L.length ≤ p + d → d < m → lx_word_4 n f (nI L.length) m (nI p) (nI b) = some (if scn (isLe L) d p ≤ b then 0 else 1, nI (scn (isLe L) d p), nI b)
  | d, p, m + 1, hp, hd, hm => by
    have h4 := h.1
    have i1 := fx_isAt_ok (n := n) (p := p) (lo := 97) (hi := 122) h (by decide) (by decide) (by omega)
    have e9 : nI 97 = (97 : Int32) := rfl
    have e10 : nI 122 = (122 : Int32) := rfl
    rw [e9, e10] at i1
    show bx_word_4 n f (nI L.length) (lx_word_4 n f (nI L.length) m) (nI p) (nI b) = _
    unfold bx_word_4
    rw [i1, xb1_s]
    cases q1 : isb L p 97 122 with
    | true =>
      have hl := (isb_lt q1).1
      obtain ⟨d', rfl⟩ : ∃ d', d = d' + 1 := ⟨d - 1, by omega⟩
      rw [if_neg (by decide), xl_eq, nI_1, scn_t (show isLe L p = true from q1)]
      exact lx_word_ok h hb9 d' (p + 1) m (by omega) (by omega) (by omega)
    | false =>
      rw [if_pos (by decide), scn_f (show isLe L p = false from q1)]
      by_cases z : p ≤ b
      · rw [if_pos (by rw [nI_le_iff (by omega) (by omega)]; exact z), if_pos z]
      · rw [if_neg (by rw [nI_le_iff (by omega) (by omega)]; exact z), if_neg z]
theorem fx_word_ok {n p : Nat} {f : Nat → Int32} {L : List Nat} {b : Int32} (hn : 100000 ≤ n) (h : TPE f L) (hp : p ≤ L.length) : fx_word n f (nI L.length) (nI p) b = some (if wd L (bk L p) ≤ bk L p then 0 else 1, nI (wd L (bk L p)), nI (bk L p)) := by
  have h4 := h.1
  have h5 := bk_le hp
  unfold fx_word
  rw [fx_blanks_ok hn h hp, xb2_s]
  exact lx_word_ok h (by omega) 400 _ n h5 (by omega) (by omega)
/-- a sign -/
def isG (L : List Nat) (p c : Nat) : Bool := isb L (bk L p) c c
theorem fx_takes_ok {n p c : Nat} {f : Nat → Int32} {L : List Nat} {b : Int32} (hn : 100000 ≤ n) (h : TPE f L) (hp : p ≤ L.length) (hc : c < 128) : fx_takes n f (nI L.length) (nI p) b (nI c) = some (if isG L p c then 1 else 0, nI (if isG L p c then bk L p + 1 else bk L p), nI (bk L p)) := by
  have h4 := h.1
  have h5 := bk_le hp
  unfold fx_takes
  rw [fx_blanks_ok hn h hp, xb2_s, fx_isAt_ok h (by omega) hc (by omega), xb1_s]
  unfold isG
  cases isb L (bk L p) c c with
  | true => rw [if_neg (by decide), xl_eq, nI_1]; rfl
  | false => rw [if_pos (by decide)]; rfl
theorem fx_isOver_ok {n p : Nat} {f : Nat → Int32} {L : List Nat} {b : Int32} (hn : 100000 ≤ n) (h : TPE f L) (hp : p ≤ L.length) : fx_isOver n f (nI L.length) (nI p) b = some (if bk L p = L.length then 1 else 0, nI (bk L p), nI (bk L p)) := by
  have h4 := h.1
  have h5 := bk_le hp
  unfold fx_isOver
  rw [fx_blanks_ok hn h hp, xb2_s]
  by_cases z : bk L p = L.length
  · rw [if_pos (by rw [z]), if_pos z]
  · rw [if_neg (by rw [nI_inj (by omega) (by omega)]; exact z), if_neg z]
/-- the bytes of a word -/
def sli (L : List Nat) (b e : Nat) : List Nat := (L.drop b).take (e - b)
theorem sli_len {L : List Nat} {b e : Nat} (he : e ≤ L.length) : (sli L b e).length = e - b := by
  unfold sli
  rw [List.length_take, List.length_drop]; omega
theorem gb_sli {L : List Nat} {b e i : Nat} (hi : i < e - b) : gb (sli L b e) i = gb L (b + i) := by
  unfold gb sli
  rw [List.getD_eq_getElem?_getD, List.getD_eq_getElem?_getD, List.getElem?_take_of_lt hi, List.getElem?_drop]
theorem gb_ext {A B : List Nat} (hl : A.length = B.length) (h : ∀ i : Nat, i < A.length → gb A i = gb B i) : A = B := by
  apply List.ext_getElem hl
  intro i h1 h2
  have := h i h1
  unfold gb at this
  rw [List.getD_eq_getElem?_getD, List.getD_eq_getElem?_getD, List.getElem?_eq_getElem h1, List.getElem?_eq_getElem h2] at this
  exact this
/-- the names that there are -/
def nmv (no nv k : Nat) : Bool := decide (k < no) || (decide (10 ≤ k) && decide (k - 10 < nv))
/-- the first of them that is the word -/
def nam (nmL : Nat → List Nat) (no nv : Nat) (w : List Nat) : Nat → Nat → Option Nat
  | 0, _ => none
  | d + 1, k => if nmv no nv k && decide (nmL k = w) then some k else nam nmL no nv w d (k + 1)
def oI : Option Nat → Int32
  | none => -1
  | some k => nI k
theorem la_gb {f : Nat → Int32} : ∀ {l : List Nat} {a i : Nat}, la f a l → i < l.length → f (a + i) = nI (gb l i)
  | c :: l, a, 0, h, _ => h.1
  | c :: l, a, i + 1, h, hi => by
    simp only [List.length_cons] at hi
    rw [show a + (i + 1) = a + 1 + i by omega]
    exact la_gb (l := l) h.2 (by omega)
def eqf (L w : List Nat) (b : Nat) : Nat → Nat → Bool
  | 0, _ => true
  | d + 1, j => decide (gb L (b + j) = gb w j) && eqf L w b d (j + 1)
theorem eqf_iff {L w : List Nat} {b : Nat} : ∀ {d j : Nat}, eqf L w b d j = true ↔ ∀ i : Nat, j ≤ i → i < j + d → gb L (b + i) = gb w i
  | 0, j => ⟨fun _ i h1 h2 => by omega, fun _ => rfl⟩
  | d + 1, j => by
    have ih := eqf_iff (L := L) (w := w) (b := b) (d := d) (j := j + 1)
    show (decide (gb L (b + j) = gb w j) && eqf L w b d (j + 1)) = true ↔ _
    rw [Bool.and_eq_true, decide_eq_true_eq, ih]
    constructor
    · rintro ⟨h1, h2⟩ i h3 h4
      by_cases e : i = j
      · rw [e]; exact h1
      · exact h2 i (by omega) (by omega)
    · intro h
      exact ⟨h j (Nat.le_refl _) (by omega), fun i h1 h2 => h i (by omega) (by omega)⟩
theorem lx_named_65_ok {n b e k : Nat} {f nm nmm : Nat → Int32} {L w : List Nat} {no nv : Int32} {k2 : Int32 → Option Int32} (h : TPE f L) (he : e ≤ L.length) (hlet : ∀ i : Nat, b ≤ i → i < e → isLe L i = true) (hk : k < 15) (hm0 : nmm k = nI w.length) (hl : la nm (6 * k) w) (h6 : w.length ≤ 6) (hw97 : ∀ c ∈ w, 97 ≤ c ∧ c ≤ 122) (hlen : e - b = w.length) :
    ∀ (d j m : Nat), j + d = w.length → d + 1 < m → lx_named_65 n f (nI e) (nI b) nm nmm no nv k2 m (nI k) 1 (nI j) = if eqf L w b d j then some (nI k) else k2 (nI (k + 1))
  | 0, j, m + 1, hj, hm => by
    show bx_named_65 n f (nI e) (nI b) nm nmm no nv k2 (lx_named_65 n f (nI e) (nI b) nm nmm no nv k2 m) (nI k) 1 (nI j) = _
    unfold bx_named_65
    rw [if_neg (by decide), xr_n hk (by decide), hm0, if_pos (by rw [nI_le_iff (by omega) (by omega)]; omega), if_neg (by decide)]; rfl
  | d + 1, j, m + 1, hj, hm => by
    have h4 := h.1
    have hjw : j < w.length := by omega
    have l1 := (isb_lt (hlet (b + j) (by omega) (by omega))).2
    have l2 := hw97 _ (gb_mem hjw)
    show bx_named_65 n f (nI e) (nI b) nm nmm no nv k2 (lx_named_65 n f (nI e) (nI b) nm nmm no nv k2 m) (nI k) 1 (nI j) = _
    unfold bx_named_65
    rw [if_neg (by decide), xr_n hk (by decide), hm0, if_neg (by rw [nI_le_iff (by omega) (by omega)]; omega), xl_eq, nI_add, xr_n (by omega) (by decide), h.2.2 _ (by omega), sb_lo ⟨gb L (b + j), by omega⟩, xl_eq, show (6 : Int32) = nI 6 from rfl, nI_mul (by omega) (by decide) (by omega), xl_eq, nI_add, xr_n (by omega) (by decide), la_gb hl hjw, xl_eq, nI_1]
    show (if nI (gb L (b + j)) = nI (gb w j) then _ else _) = (if (decide (gb L (b + j) = gb w j) && eqf L w b d (j + 1)) then _ else _)
    by_cases q : gb L (b + j) = gb w j
    · rw [if_pos (by rw [q]), lx_named_65_ok h he hlet hk hm0 hl h6 hw97 hlen d (j + 1) m (by omega) (by omega), decide_eq_true q, Bool.true_and]
    · rw [if_neg (by rw [nI_inj (by omega) (by omega)]; exact q), decide_eq_false q, Bool.false_and, if_neg (show ¬ false = true by decide)]
      obtain ⟨m', rfl⟩ : ∃ m', m = m' + 1 := ⟨m - 1, by omega⟩
      show bx_named_65 n f (nI e) (nI b) nm nmm no nv k2 (lx_named_65 n f (nI e) (nI b) nm nmm no nv k2 m') (nI k) 0 (nI (j + 1)) = _
      unfold bx_named_65
      rw [if_pos rfl, if_pos rfl, xl_eq, nI_1]
theorem jx_named_ok {n b e k : Nat} {f nm nmm : Nat → Int32} {L w : List Nat} {no nv : Int32} {k2 : Int32 → Option Int32} (hn : 100000 ≤ n) (h : TPE f L) (hbe : b ≤ e) (he : e ≤ L.length) (hlet : ∀ i : Nat, b ≤ i → i < e → isLe L i = true) (hk : k < 15) (hm0 : nmm k = nI w.length) (hl : la nm (6 * k) w) (h6 : w.length ≤ 6) (hw97 : ∀ c ∈ w, 97 ≤ c ∧ c ≤ 122) :
    jx_named_39 n f (nI e) (nI b) nm nmm no nv k2 (nI k) = if w = sli L b e then some (nI k) else k2 (nI (k + 1)) := by
  have h4 := h.1
  have hs := sli_len (L := L) (b := b) he
  unfold jx_named_39
  rw [xl_eq, nI_sub hbe, xr_n hk (by decide), hm0]
  by_cases q : e - b = w.length
  · rw [if_pos (by rw [q])]
    have lp := lx_named_65_ok (n := n) (no := no) (nv := nv) (k2 := k2) h he hlet hk hm0 hl h6 hw97 q w.length 0 n (by omega) (by omega)
    rw [show nI 0 = (0 : Int32) from rfl] at lp
    rw [lp]
    by_cases z : w = sli L b e
    · rw [if_pos z, if_pos (eqf_iff.mpr (fun i _ hi => by rw [z, gb_sli (by omega)]))]
    · rw [if_neg z, if_neg (fun g => z (gb_ext (by omega) (fun i hi => by rw [gb_sli (by omega)]; exact (eqf_iff.mp g i (Nat.zero_le _) (by omega)).symm)))]
  · rw [if_neg (by rw [nI_inj (by omega) (by omega)]; exact q), if_neg (fun z => q (by rw [z]; exact hs.symm))]
    obtain ⟨n', rfl⟩ : ∃ n', n = n' + 1 := ⟨n - 1, by omega⟩
    show bx_named_65 (n' + 1) f (nI e) (nI b) nm nmm no nv k2 (lx_named_65 (n' + 1) f (nI e) (nI b) nm nmm no nv k2 n') (nI k) 0 0 = _
    unfold bx_named_65
    rw [if_pos rfl, if_pos rfl, xl_eq, nI_1]
theorem lx_named_ok {n b e no nv : Nat} {f nm nmm : Nat → Int32} {L : List Nat} {nmL : Nat → List Nat} (hn : 100000 ≤ n) (h : TPE f L) (hbe : b ≤ e) (he : e ≤ L.length) (hlet : ∀ i : Nat, b ≤ i → i < e → isLe L i = true) (hno : no ≤ 10) (hnv : nv ≤ 5)
    (hnm : ∀ i : Nat, nmv no nv i = true → nmm i = nI (nmL i).length ∧ la nm (6 * i) (nmL i) ∧ (nmL i).length ≤ 6 ∧ ∀ c ∈ nmL i, 97 ≤ c ∧ c ≤ 122) :
    ∀ (d k m : Nat), k + d = 15 → d < m → lx_named_2 n f (nI e) (nI b) nm nmm (nI no) (nI nv) m (nI k) = some (oI (nam nmL no nv (sli L b e) d k))
  | 0, k, m + 1, hk, hm => by
    show bx_named_2 n f (nI e) (nI b) nm nmm (nI no) (nI nv) (lx_named_2 n f (nI e) (nI b) nm nmm (nI no) (nI nv) m) (nI k) = _
    unfold bx_named_2
    rw [show (15 : Int32) = nI 15 from rfl, if_pos (by rw [nI_le_iff (by decide) (by omega)]; omega)]; rfl
  | d + 1, k, m + 1, hk, hm => by
    have ih := lx_named_ok hn h hbe he hlet hno hnv hnm d (k + 1) m (by omega) (by omega)
    have val : nmv no nv k = true → jx_named_39 n f (nI e) (nI b) nm nmm (nI no) (nI nv) (lx_named_2 n f (nI e) (nI b) nm nmm (nI no) (nI nv) m) (nI k) = some (oI (if nmv no nv k && decide (nmL k = sli L b e) then some k else nam nmL no nv (sli L b e) d (k + 1))) := fun q => by
      obtain ⟨n1, n2, n3, n4⟩ := hnm k q
      rw [jx_named_ok hn h hbe he hlet (by omega) n1 n2 n3 n4, q, Bool.true_and]
      by_cases z : nmL k = sli L b e
      · rw [if_pos z, if_pos (by rw [decide_eq_true z])]; rfl
      · rw [if_neg z, if_neg (by rw [decide_eq_false z]; decide), ih]
    have inv : nmv no nv k = false → lx_named_2 n f (nI e) (nI b) nm nmm (nI no) (nI nv) m (nI (k + 1)) = some (oI (if nmv no nv k && decide (nmL k = sli L b e) then some k else nam nmL no nv (sli L b e) d (k + 1))) := fun q => by
      rw [q, Bool.false_and, if_neg (by decide), ih]
    show bx_named_2 n f (nI e) (nI b) nm nmm (nI no) (nI nv) (lx_named_2 n f (nI e) (nI b) nm nmm (nI no) (nI nv) m) (nI k) = some (oI (if nmv no nv k && decide (nmL k = sli L b e) then some k else nam nmL no nv (sli L b e) d (k + 1)))
    unfold bx_named_2
    rw [show (15 : Int32) = nI 15 from rfl, show (10 : Int32) = nI 10 from rfl, if_neg (by rw [nI_le_iff (by decide) (by omega)]; omega)]
    by_cases k10 : 10 ≤ k
    · rw [if_pos (by rw [nI_le_iff (by decide) (by omega)]; exact k10), xl_eq, nI_sub k10]
      by_cases z : k - 10 < nv
      · rw [if_pos (by rw [nI_lt_iff (by omega) (by omega)]; exact z)]
        exact val (by unfold nmv; rw [decide_eq_true k10, decide_eq_true z]; simp)
      · rw [if_neg (by rw [nI_lt_iff (by omega) (by omega)]; exact z), xl_eq, nI_1]
        exact inv (by unfold nmv; rw [decide_eq_true k10, decide_eq_false z, decide_eq_false (show ¬ k < no by omega)]; rfl)
    · rw [if_neg (by rw [nI_le_iff (by decide) (by omega)]; exact k10)]
      by_cases z : k < no
      · rw [if_pos (by rw [nI_lt_iff (by omega) (by omega)]; exact z)]
        exact val (by unfold nmv; rw [decide_eq_true z]; rfl)
      · rw [if_neg (by rw [nI_lt_iff (by omega) (by omega)]; exact z), xl_eq, nI_1]
        exact inv (by unfold nmv; rw [decide_eq_false k10, decide_eq_false z]; rfl)
theorem wd_let {L : List Nat} {p : Nat} : ∀ i : Nat, p ≤ i → i < wd L p → isLe L i = true := fun i h1 h2 => scn_at h1 h2
/-- which name stands at a place -/
def naw (nmL : Nat → List Nat) (no nv : Nat) (L : List Nat) (b e : Nat) : Option Nat := nam nmL no nv (sli L b e) 15 0
theorem fx_named_ok {n b e no nv : Nat} {f nm nmm : Nat → Int32} {L : List Nat} {nmL : Nat → List Nat} (hn : 100000 ≤ n) (h : TPE f L) (hbe : b ≤ e) (he : e ≤ L.length) (hlet : ∀ i : Nat, b ≤ i → i < e → isLe L i = true) (hno : no ≤ 10) (hnv : nv ≤ 5)
    (hnm : ∀ i : Nat, nmv no nv i = true → nmm i = nI (nmL i).length ∧ la nm (6 * i) (nmL i) ∧ (nmL i).length ≤ 6 ∧ ∀ c ∈ nmL i, 97 ≤ c ∧ c ≤ 122) :
    fx_named n f (nI e) (nI b) nm nmm (nI no) (nI nv) = some (oI (naw nmL no nv L b e)) := lx_named_ok hn h hbe he hlet hno hnv hnm 15 0 n (by decide) (by omega)
theorem nam_v {nmL : Nat → List Nat} {no nv : Nat} {w : List Nat} : ∀ {d k i : Nat}, nam nmL no nv w d k = some i → nmv no nv i = true ∧ nmL i = w ∧ i < k + d
  | 0, k, i, h => absurd h (by simp [nam])
  | d + 1, k, i, h => by
    have h' : (if nmv no nv k && decide (nmL k = w) then some k else nam nmL no nv w d (k + 1)) = some i := h
    by_cases q : (nmv no nv k && decide (nmL k = w)) = true
    · rw [if_pos q] at h'
      have e : k = i := Option.some.inj h'
      rw [Bool.and_eq_true, decide_eq_true_eq, e] at q
      exact ⟨q.1, q.2, by omega⟩
    · rw [if_neg q] at h'
      obtain ⟨a, b, c⟩ := nam_v h'
      exact ⟨a, b, by omega⟩
