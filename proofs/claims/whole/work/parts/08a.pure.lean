/-! ===== what a signature reads: new names ===== -/
theorem lx_newNamed_65_ok {n b e k : Nat} {f nm nmm : Nat → Int32} {L w : List Nat} {no nv : Int32} {k2 : Int32 → Option Int32} (h : TPE f L) (he : e ≤ L.length) (hlet : ∀ i : Nat, b ≤ i → i < e → isLe L i = true) (hk : k < 15) (hm0 : nmm k = nI w.length) (hl : la nm (6 * k) w) (h6 : w.length ≤ 6) (hw97 : ∀ c ∈ w, 97 ≤ c ∧ c ≤ 122) (hlen : e - b = w.length) :
    ∀ (d j m : Nat), j + d = w.length → d + 1 < m → lx_newNamed_65 n f (nI e) (nI b) nm nmm no nv k2 m (nI k) 1 (nI j) = if eqf L w b d j then some (nI k) else k2 (nI (k + 1))
  | 0, j, m + 1, hj, hm => by
    show bx_newNamed_65 n f (nI e) (nI b) nm nmm no nv k2 (lx_newNamed_65 n f (nI e) (nI b) nm nmm no nv k2 m) (nI k) 1 (nI j) = _
    unfold bx_newNamed_65
    rw [if_neg (by decide), xr_n hk (by decide), hm0, if_pos (by rw [nI_le_iff (by omega) (by omega)]; omega), if_neg (by decide)]; rfl
  | d + 1, j, m + 1, hj, hm => by
    have h4 := h.1
    have hjw : j < w.length := by omega
    have l1 := (isb_lt (hlet (b + j) (by omega) (by omega))).2
    have l2 := hw97 _ (gb_mem hjw)
    show bx_newNamed_65 n f (nI e) (nI b) nm nmm no nv k2 (lx_newNamed_65 n f (nI e) (nI b) nm nmm no nv k2 m) (nI k) 1 (nI j) = _
    unfold bx_newNamed_65
    rw [if_neg (by decide), xr_n hk (by decide), hm0, if_neg (by rw [nI_le_iff (by omega) (by omega)]; omega), xl_eq, nI_add, xr_n (by omega) (by decide), h.2.2 _ (by omega), sb_lo ⟨gb L (b + j), by omega⟩, xl_eq, show (6 : Int32) = nI 6 from rfl, nI_mul (by omega) (by decide) (by omega), xl_eq, nI_add, xr_n (by omega) (by decide), la_gb hl hjw, xl_eq, nI_1]
    show (if nI (gb L (b + j)) = nI (gb w j) then _ else _) = (if (decide (gb L (b + j) = gb w j) && eqf L w b d (j + 1)) then _ else _)
    by_cases q : gb L (b + j) = gb w j
    · rw [if_pos (by rw [q]), lx_newNamed_65_ok h he hlet hk hm0 hl h6 hw97 hlen d (j + 1) m (by omega) (by omega), decide_eq_true q, Bool.true_and]
    · rw [if_neg (by rw [nI_inj (by omega) (by omega)]; exact q), decide_eq_false q, Bool.false_and, if_neg (show ¬ false = true by decide)]
      obtain ⟨m', rfl⟩ : ∃ m', m = m' + 1 := ⟨m - 1, by omega⟩
      show bx_newNamed_65 n f (nI e) (nI b) nm nmm no nv k2 (lx_newNamed_65 n f (nI e) (nI b) nm nmm no nv k2 m') (nI k) 0 (nI (j + 1)) = _
      unfold bx_newNamed_65
      rw [if_pos rfl, if_pos rfl, xl_eq, nI_1]
theorem jx_newNamed_ok {n b e k : Nat} {f nm nmm : Nat → Int32} {L w : List Nat} {no nv : Int32} {k2 : Int32 → Option Int32} (hn : 100000 ≤ n) (h : TPE f L) (hbe : b ≤ e) (he : e ≤ L.length) (hlet : ∀ i : Nat, b ≤ i → i < e → isLe L i = true) (hk : k < 15) (hm0 : nmm k = nI w.length) (hl : la nm (6 * k) w) (h6 : w.length ≤ 6) (hw97 : ∀ c ∈ w, 97 ≤ c ∧ c ≤ 122) :
    jx_newNamed_39 n f (nI e) (nI b) nm nmm no nv k2 (nI k) = if w = sli L b e then some (nI k) else k2 (nI (k + 1)) := by
  have h4 := h.1
  have hs := sli_len (L := L) (b := b) he
  unfold jx_newNamed_39
  rw [xl_eq, nI_sub hbe, xr_n hk (by decide), hm0]
  by_cases q : e - b = w.length
  · rw [if_pos (by rw [q])]
    have lp := lx_newNamed_65_ok (n := n) (no := no) (nv := nv) (k2 := k2) h he hlet hk hm0 hl h6 hw97 q w.length 0 n (by omega) (by omega)
    rw [show nI 0 = (0 : Int32) from rfl] at lp
    rw [lp]
    by_cases z : w = sli L b e
    · rw [if_pos z, if_pos (eqf_iff.mpr (fun i _ hi => by rw [z, gb_sli (by omega)]))]
    · rw [if_neg z, if_neg (fun g => z (gb_ext (by omega) (fun i hi => by rw [gb_sli (by omega)]; exact (eqf_iff.mp g i (Nat.zero_le _) (by omega)).symm)))]
  · rw [if_neg (by rw [nI_inj (by omega) (by omega)]; exact q), if_neg (fun z => q (by rw [z]; exact hs.symm))]
    obtain ⟨n', rfl⟩ : ∃ n', n = n' + 1 := ⟨n - 1, by omega⟩
    show bx_newNamed_65 (n' + 1) f (nI e) (nI b) nm nmm no nv k2 (lx_newNamed_65 (n' + 1) f (nI e) (nI b) nm nmm no nv k2 n') (nI k) 0 0 = _
    unfold bx_newNamed_65
    rw [if_pos rfl, if_pos rfl, xl_eq, nI_1]
theorem lx_newNamed_ok {n b e no nv : Nat} {f nm nmm : Nat → Int32} {L : List Nat} {nmL : Nat → List Nat} (hn : 100000 ≤ n) (h : TPE f L) (hbe : b ≤ e) (he : e ≤ L.length) (hlet : ∀ i : Nat, b ≤ i → i < e → isLe L i = true) (hno : no ≤ 10) (hnv : nv ≤ 5)
    (hnm : ∀ i : Nat, nmv no nv i = true → nmm i = nI (nmL i).length ∧ la nm (6 * i) (nmL i) ∧ (nmL i).length ≤ 6 ∧ ∀ c ∈ nmL i, 97 ≤ c ∧ c ≤ 122) :
    ∀ (d k m : Nat), k + d = 15 → d < m → lx_newNamed_2 n f (nI e) (nI b) nm nmm (nI no) (nI nv) m (nI k) = some (oI (nam nmL no nv (sli L b e) d k))
  | 0, k, m + 1, hk, hm => by
    show bx_newNamed_2 n f (nI e) (nI b) nm nmm (nI no) (nI nv) (lx_newNamed_2 n f (nI e) (nI b) nm nmm (nI no) (nI nv) m) (nI k) = _
    unfold bx_newNamed_2
    rw [show (15 : Int32) = nI 15 from rfl, if_pos (by rw [nI_le_iff (by decide) (by omega)]; omega)]; rfl
  | d + 1, k, m + 1, hk, hm => by
    have ih := lx_newNamed_ok hn h hbe he hlet hno hnv hnm d (k + 1) m (by omega) (by omega)
    have val : nmv no nv k = true → jx_newNamed_39 n f (nI e) (nI b) nm nmm (nI no) (nI nv) (lx_newNamed_2 n f (nI e) (nI b) nm nmm (nI no) (nI nv) m) (nI k) = some (oI (if nmv no nv k && decide (nmL k = sli L b e) then some k else nam nmL no nv (sli L b e) d (k + 1))) := fun q => by
      obtain ⟨n1, n2, n3, n4⟩ := hnm k q
      rw [jx_newNamed_ok hn h hbe he hlet (by omega) n1 n2 n3 n4, q, Bool.true_and]
      by_cases z : nmL k = sli L b e
      · rw [if_pos z, if_pos (by rw [decide_eq_true z])]; rfl
      · rw [if_neg z, if_neg (by rw [decide_eq_false z]; decide), ih]
    have inv : nmv no nv k = false → lx_newNamed_2 n f (nI e) (nI b) nm nmm (nI no) (nI nv) m (nI (k + 1)) = some (oI (if nmv no nv k && decide (nmL k = sli L b e) then some k else nam nmL no nv (sli L b e) d (k + 1))) := fun q => by
      rw [q, Bool.false_and, if_neg (by decide), ih]
    show bx_newNamed_2 n f (nI e) (nI b) nm nmm (nI no) (nI nv) (lx_newNamed_2 n f (nI e) (nI b) nm nmm (nI no) (nI nv) m) (nI k) = some (oI (if nmv no nv k && decide (nmL k = sli L b e) then some k else nam nmL no nv (sli L b e) d (k + 1)))
    unfold bx_newNamed_2
    rw [show (15 : Int32) = nI 15 from rfl, show (10 : Int32) = nI 10 from rfl, if_neg (by rw [nI_le_iff (by decide) (by omega)]; omega)]
    by_cases k10 : 10 ≤ k
    · rw [if_pos (by rw [nI_le_iff (by decide) (by omega)]; exact k10), xl_eq, nI_sub k10]
      by_cases z : k - 10 < nv
      · rw [if_pos (by rw [nI_lt_iff (by omega) (by omega)]; exact z)]
        exact val (by unfold nmv; rw [decide_eq_true k10, decide_eq_true z]; simp)
      · rw [if_neg (by rw [nI_lt_iff (by omega) (by omega)]; exact z), xl_eq, nI_1]
        exact inv (by unfold nmv; rw [decide_eq_true k10, decide_eq_false z, decide_eq_false (show ¬ k < no by omega)]; rfl)
    · rw [if_neg (by rw [nI_le_iff (by decide) (by omega)]; exact k10)]
      by_cases z : k < no
      · rw [if_pos (by rw [nI_lt_iff (by omega) (by omega)]; exact z)]
        exact val (by unfold nmv; rw [decide_eq_true z]; rfl)
      · rw [if_neg (by rw [nI_lt_iff (by omega) (by omega)]; exact z), xl_eq, nI_1]
        exact inv (by unfold nmv; rw [decide_eq_false k10, decide_eq_false z]; rfl)
theorem fx_newNamed_ok {n b e no nv : Nat} {f nm nmm : Nat → Int32} {L : List Nat} {nmL : Nat → List Nat} (hn : 100000 ≤ n) (h : TPE f L) (hbe : b ≤ e) (he : e ≤ L.length) (hlet : ∀ i : Nat, b ≤ i → i < e → isLe L i = true) (hno : no ≤ 10) (hnv : nv ≤ 5)
    (hnm : ∀ i : Nat, nmv no nv i = true → nmm i = nI (nmL i).length ∧ la nm (6 * i) (nmL i) ∧ (nmL i).length ≤ 6 ∧ ∀ c ∈ nmL i, 97 ≤ c ∧ c ≤ 122) :
    fx_newNamed n f (nI e) (nI b) nm nmm (nI no) (nI nv) = some (oI (naw nmL no nv L b e)) := lx_newNamed_ok hn h hbe he hlet hno hnv hnm 15 0 n (by decide) (by omega)
/-! ===== words ===== -/
theorem and255 : ∀ c : Fin 128, nI c.val &&& 255 = nI c.val := by decide +kernel
theorem xr_ltr {β : Type} {l : List Nat} {j : Nat} {k : Int32 → Option β} (h : j < l.length) (h4 : l.length < 1000) : xr l.length (ltr l) (nI j) k = k (nI (gb l j)) := by
  rw [xr_n h (by omega)]; rfl
theorem lx_isWord_ok {n b e : Nat} {f : Nat → Int32} {L w : List Nat} (h : TPE f L) (he : e ≤ L.length) (hlet : ∀ i : Nat, b ≤ i → i < e → isLe L i = true) (hw : ∀ c ∈ w, c < 128) (h6 : w.length ≤ 6) (hlen : e - b = w.length) :
    ∀ (d j m : Nat), j + d = w.length → d + 1 < m → lx_isWord_24 n f (nI e) (nI b) w.length (ltr w) m 1 (nI j) = some (if eqf L w b d j then 1 else 0)
  | 0, j, m + 1, hj, hm => by
    show bx_isWord_24 n f (nI e) (nI b) w.length (ltr w) (lx_isWord_24 n f (nI e) (nI b) w.length (ltr w) m) 1 (nI j) = _
    unfold bx_isWord_24
    rw [if_neg (by decide), xl_eq, if_pos (by rw [nI_le_iff (by omega) (by omega)]; omega), xz_1]; rfl
  | d + 1, j, m + 1, hj, hm => by
    have h4 := h.1
    have hjw : j < w.length := by omega
    have l1 := (isb_lt (hlet (b + j) (by omega) (by omega))).2
    have l2 := hw _ (gb_mem hjw)
    have ea : nI (gb w j) &&& 255 = nI (gb w j) := and255 ⟨gb w j, l2⟩
    have es : sb (gb L (b + j)) = nI (gb L (b + j)) := sb_lo ⟨gb L (b + j), by omega⟩
    show bx_isWord_24 n f (nI e) (nI b) w.length (ltr w) (lx_isWord_24 n f (nI e) (nI b) w.length (ltr w) m) 1 (nI j) = some (if (decide (gb L (b + j) = gb w j) && eqf L w b d (j + 1)) then 1 else 0)
    unfold bx_isWord_24
    rw [if_neg (by decide), xl_eq, if_neg (by rw [nI_le_iff (by omega) (by omega)]; omega), xl_eq, nI_add, xr_n (by omega) (by decide), h.2.2 _ (by omega), es, xr_ltr hjw (by omega), xl_eq, ea]
    by_cases q : gb L (b + j) = gb w j
    · rw [if_pos (by rw [q]), xl_eq, nI_1, lx_isWord_ok h he hlet hw h6 hlen d (j + 1) m (by omega) (by omega), decide_eq_true q, Bool.true_and]
    · rw [if_neg (by rw [nI_inj (by omega) (by omega)]; exact q), xl_eq, nI_1, decide_eq_false q, Bool.false_and, if_neg (show ¬ false = true by decide)]
      obtain ⟨m', rfl⟩ : ∃ m', m = m' + 1 := ⟨m - 1, by omega⟩
      show bx_isWord_24 n f (nI e) (nI b) w.length (ltr w) (lx_isWord_24 n f (nI e) (nI b) w.length (ltr w) m') 0 (nI (j + 1)) = _
      unfold bx_isWord_24
      rw [if_pos rfl, xz_0]
theorem fx_isWord_ok {n b e : Nat} {f : Nat → Int32} {L : List Nat} (w : List Nat) (hn : 100000 ≤ n) (h : TPE f L) (hbe : b ≤ e) (he : e ≤ L.length) (hlet : ∀ i : Nat, b ≤ i → i < e → isLe L i = true) (hw : ∀ c ∈ w, c < 128) (h6 : w.length ≤ 6) :
    fx_isWord n f (nI e) (nI b) w.length (ltr w) = some (if sli L b e = w then 1 else 0) := by
  have h4 := h.1
  have hs := sli_len (L := L) (b := b) he
  unfold fx_isWord
  rw [xl_eq, nI_sub hbe, xl_eq]
  by_cases q : e - b = w.length
  · rw [if_pos (by rw [q])]
    have lp := lx_isWord_ok (n := n) h he hlet hw h6 q w.length 0 n (by omega) (by omega)
    rw [show nI 0 = (0 : Int32) from rfl] at lp
    rw [lp]
    by_cases z : sli L b e = w
    · rw [if_pos z, if_pos (eqf_iff.mpr (fun i _ hi => by rw [← z, gb_sli (by omega)]))]
    · rw [if_neg z, if_neg (fun g => z (gb_ext (by omega) (fun i hi => by rw [gb_sli (by omega)]; exact eqf_iff.mp g i (Nat.zero_le _) (by omega))))]
  · rw [if_neg (by rw [nI_inj (by omega) (by omega)]; exact q), if_neg (fun z => q (by rw [← z]; exact hs.symm))]
    obtain ⟨n', rfl⟩ : ∃ n', n = n' + 1 := ⟨n - 1, by omega⟩
    show bx_isWord_24 (n' + 1) f (nI e) (nI b) w.length (ltr w) (lx_isWord_24 (n' + 1) f (nI e) (nI b) w.length (ltr w) n') 0 0 = _
    unfold bx_isWord_24
    rw [if_pos rfl, xz_0]
/-- the words of a signature -/
def wFree : List Nat := [102, 114, 101, 101]
def wC : List Nat := [99]
def wAc : List Nat := [97, 99]
def wUnit : List Nat := [117, 110, 105, 116]
def wVar : List Nat := [118, 97, 114]
/-- a word that may be a name -/
def isNm (w : List Nat) : Bool := decide (1 ≤ w.length) && decide (w.length ≤ 6) && !(decide (w = wFree) || decide (w = wC) || decide (w = wAc) || decide (w = wUnit) || decide (w = wVar))
theorem fx_isName_ok {n b e : Nat} {f : Nat → Int32} {L : List Nat} (hn : 100000 ≤ n) (h : TPE f L) (hbe : b ≤ e) (he : e ≤ L.length) (hlet : ∀ i : Nat, b ≤ i → i < e → isLe L i = true) :
    fx_isName n f (nI e) (nI b) = some (if isNm (sli L b e) then 1 else 0) := by
  have h4 := h.1
  have hs := sli_len (L := L) (b := b) he
  have w1 := fx_isWord_ok (n := n) wFree hn h hbe he hlet (by decide) (by decide)
  have w2 := fx_isWord_ok (n := n) wC hn h hbe he hlet (by decide) (by decide)
  have w3 := fx_isWord_ok (n := n) wAc hn h hbe he hlet (by decide) (by decide)
  have w4 := fx_isWord_ok (n := n) wUnit hn h hbe he hlet (by decide) (by decide)
  have w5 := fx_isWord_ok (n := n) wVar hn h hbe he hlet (by decide) (by decide)
  unfold fx_isName isNm
  rw [xl_eq, nI_sub hbe, hs]
  by_cases q : 1 ≤ e - b ∧ e - b ≤ 6
  · have e1 : (1 : Int32).toInt = 1 := rfl
    have e6 : (6 : Int32).toInt = 6 := rfl
    rw [fx_in_1 (by rw [e1, nI_toInt (by omega)]; omega) (by rw [e6, nI_toInt (by omega)]; omega), xb1_s, if_neg (by decide), decide_eq_true q.1, decide_eq_true q.2, Bool.and_self, Bool.true_and]
    have w1' : fx_isWord n f (nI e) (nI b) 4 (ltr [102, 114, 101, 101]) = some (if sli L b e = wFree then 1 else 0) := w1
    have w2' : fx_isWord n f (nI e) (nI b) 1 (ltr [99]) = some (if sli L b e = wC then 1 else 0) := w2
    have w3' : fx_isWord n f (nI e) (nI b) 2 (ltr [97, 99]) = some (if sli L b e = wAc then 1 else 0) := w3
    have w4' : fx_isWord n f (nI e) (nI b) 4 (ltr [117, 110, 105, 116]) = some (if sli L b e = wUnit then 1 else 0) := w4
    have w5' : fx_isWord n f (nI e) (nI b) 3 (ltr [118, 97, 114]) = some (if sli L b e = wVar then 1 else 0) := w5
    rw [w1', xb1_s]
    by_cases c1 : sli L b e = wFree
    · rw [if_pos c1, if_neg (by decide), decide_eq_true c1]; rfl
    · rw [if_neg c1, if_pos rfl, w2', xb1_s, decide_eq_false c1, Bool.false_or]
      by_cases c2 : sli L b e = wC
      · rw [if_pos c2, if_neg (by decide), decide_eq_true c2]; rfl
      · rw [if_neg c2, if_pos rfl, w3', xb1_s, decide_eq_false c2, Bool.false_or]
        by_cases c3 : sli L b e = wAc
        · rw [if_pos c3, if_neg (by decide), decide_eq_true c3]; rfl
        · rw [if_neg c3, if_pos rfl, w4', xb1_s, decide_eq_false c3, Bool.false_or]
          by_cases c4 : sli L b e = wUnit
          · rw [if_pos c4, if_neg (by decide), decide_eq_true c4]; rfl
          · rw [if_neg c4, if_pos rfl, w5', xb1_s, decide_eq_false c4, Bool.false_or]
            by_cases c5 : sli L b e = wVar
            · rw [if_pos c5, if_neg (by decide), decide_eq_true c5]; rfl
            · rw [if_neg c5, if_pos rfl, decide_eq_false c5]; rfl
  · have e1 : (1 : Int32).toInt = 1 := rfl
    have e6 : (6 : Int32).toInt = 6 := rfl
    rw [fx_in_0 (by rw [e1, e6, nI_toInt (by omega)]; omega), xb1_s, if_pos rfl]
    have : (decide (1 ≤ e - b) && decide (e - b ≤ 6)) = false := by
      rw [Bool.and_eq_false_iff, decide_eq_false_iff_not, decide_eq_false_iff_not]; omega
    rw [this, Bool.false_and]; rfl
