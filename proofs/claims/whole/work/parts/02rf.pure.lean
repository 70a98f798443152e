/-! ===== what a term is about ===== -/
/-- its variables and operators as bits -/
def vrF : List Nat → Int32 → Int32
  | [], a => a
  | c :: l, a => vrF l (if c < 512 then a ||| ((1 : Int32) <<< (nI c &&& 31)) else a)
def opF : List Nat → Int32 → Int32
  | [], a => a
  | c :: l, a => opF l (if c < 512 then a else a ||| ((1 : Int32) <<< (opI c &&& 31)))
/-- how often variables stand in it -/
def vcF : List Nat → Nat → Nat
  | [], a => a
  | c :: l, a => vcF l (if c < 512 then a + 1 else a)
theorem vcF_le : ∀ (l : List Nat) (a : Nat), vcF l a ≤ a + l.length
  | [], _ => Nat.le_refl _
  | c :: l, a => by
    have h1 := vcF_le l (a + 1)
    have h2 := vcF_le l a
    show vcF l (if c < 512 then a + 1 else a) ≤ a + (l.length + 1)
    by_cases q : c < 512
    · rw [if_pos q]; omega
    · rw [if_neg q]; omega
def depM (f : List Nat → Nat) : List (List Nat) → Nat → Nat
  | [], m => m
  | q :: qs, m => depM f qs (if f q < m then m else f q + 1)
/-- how deep it is -/
def dep : Nat → List Nat → Nat
  | 0, _ => 0
  | d + 1, t => depM (dep d) (pts t) 0
def hdc (t : List Nat) : Nat := t.headD 0
def pwF (op : Int32) : List (List Nat) → Nat → Nat
  | [], a => a
  | q :: qs, a => pwF op qs (if opI (hdc q) = op then a + 1 else a)
/-- how many of its parts have the operator -/
def pw (t : List Nat) (x : Nat) : Nat := pwF (nI x) (pts t) 0
theorem pwF_le {op : Int32} : ∀ (qs : List (List Nat)) (a : Nat), pwF op qs a ≤ a + qs.length
  | [], _ => Nat.le_refl _
  | q :: qs, a => by
    have h1 := pwF_le (op := op) qs (a + 1)
    have h2 := pwF_le (op := op) qs a
    show pwF op qs (if opI (hdc q) = op then a + 1 else a) ≤ a + (qs.length + 1)
    by_cases z : opI (hdc q) = op
    · rw [if_pos z]; omega
    · rw [if_neg z]; omega
theorem lx_vrF {n : Nat} {f : Nat → Int32} {p0 : Int32} : ∀ (l : List Nat) (a m : Nat) (s : Int32), la f a l → col l → a + l.length ≤ 60000 → l.length < m → lx_variablesAt_11 n f p0 m s (nI (a + l.length)) (nI a) = some (vrF l s)
  | [], a, m + 1, s, _, _, _, _ => by
    show bx_variablesAt_11 n f p0 (lx_variablesAt_11 n f p0 m) s (nI (a + 0)) (nI a) = _
    unfold bx_variablesAt_11
    rw [Nat.add_zero, if_pos (Int32.le_refl _)]; rfl
  | c :: l, a, m + 1, s, hl, hc, ha, hm => by
    simp only [List.length_cons] at ha hm ⊢
    have hcc := cok_lt (col_cons.mp hc).1
    have ih := fun s9 => lx_vrF (n := n) (p0 := p0) l (a + 1) m s9 hl.2 (col_cons.mp hc).2 (by omega) (by omega)
    rw [show a + 1 + l.length = a + (l.length + 1) by omega] at ih
    show bx_variablesAt_11 n f p0 (lx_variablesAt_11 n f p0 m) s (nI (a + (l.length + 1))) (nI a) = vrF l _
    unfold bx_variablesAt_11
    rw [if_neg (by rw [nI_le_iff (by omega) (by omega)]; omega), xr_n (by omega) (by decide), hl.1, show (512 : Int32) = nI 512 from rfl]
    by_cases q : c < 512
    · rw [if_neg (by rw [nI_le_iff (by decide) (by omega)]; omega), if_pos q, xr_n (by omega) (by decide), hl.1, xl_eq, xl_eq, xl_eq, nI_1, ih]
    · rw [if_pos (by rw [nI_le_iff (by decide) (by omega)]; omega), if_neg q, xl_eq, nI_1, ih]
theorem fx_variablesAt_is {n : Nat} {f : Nat → Int32} {l : List Nat} {a : Nat} (hl : la f a l) (hw : wf 1 l) (hc : col l) (ha : a + l.length ≤ 60000) (hn : 100000 ≤ n) : fx_variablesAt n f (nI a) = some (vrF l 0) := by
  unfold fx_variablesAt
  rw [fx_behind_ok hl hw hc ha hn, xb1_s]
  exact lx_vrF l a n 0 hl hc ha (by omega)
theorem lx_opF {n : Nat} {f : Nat → Int32} {p0 : Int32} : ∀ (l : List Nat) (a m : Nat) (s : Int32), la f a l → col l → a + l.length ≤ 60000 → l.length < m → lx_operatorsAt_11 n f p0 m s (nI (a + l.length)) (nI a) = some (opF l s)
  | [], a, m + 1, s, _, _, _, _ => by
    show bx_operatorsAt_11 n f p0 (lx_operatorsAt_11 n f p0 m) s (nI (a + 0)) (nI a) = _
    unfold bx_operatorsAt_11
    rw [Nat.add_zero, if_pos (Int32.le_refl _)]; rfl
  | c :: l, a, m + 1, s, hl, hc, ha, hm => by
    simp only [List.length_cons] at ha hm ⊢
    have hcc := cok_lt (col_cons.mp hc).1
    have ih := fun s9 => lx_opF (n := n) (p0 := p0) l (a + 1) m s9 hl.2 (col_cons.mp hc).2 (by omega) (by omega)
    rw [show a + 1 + l.length = a + (l.length + 1) by omega] at ih
    show bx_operatorsAt_11 n f p0 (lx_operatorsAt_11 n f p0 m) s (nI (a + (l.length + 1))) (nI a) = opF l _
    unfold bx_operatorsAt_11
    rw [if_neg (by rw [nI_le_iff (by omega) (by omega)]; omega), xr_n (by omega) (by decide), hl.1, show (512 : Int32) = nI 512 from rfl]
    by_cases q : c < 512
    · rw [if_pos (by rw [nI_lt_iff (by omega) (by decide)]; omega), if_pos q, xl_eq, nI_1, ih]
    · rw [if_neg (by rw [nI_lt_iff (by omega) (by decide)]; omega), if_neg q, fx_operatorAt_ok hl.1 hcc (by omega), xb1_s, xl_eq, xl_eq, xl_eq, nI_1, ih]
theorem fx_operatorsAt_is {n : Nat} {f : Nat → Int32} {l : List Nat} {a : Nat} (hl : la f a l) (hw : wf 1 l) (hc : col l) (ha : a + l.length ≤ 60000) (hn : 100000 ≤ n) : fx_operatorsAt n f (nI a) = some (opF l 0) := by
  unfold fx_operatorsAt
  rw [fx_behind_ok hl hw hc ha hn, xb1_s]
  exact lx_opF l a n 0 hl hc ha (by omega)
theorem lx_vcF {n : Nat} {f : Nat → Int32} {p0 : Int32} : ∀ (l : List Nat) (a m s : Nat), la f a l → col l → a + l.length ≤ 60000 → l.length < m → lx_variablesIn_11 n f p0 m (nI s) (nI (a + l.length)) (nI a) = some (nI (vcF l s))
  | [], a, m + 1, s, _, _, _, _ => by
    show bx_variablesIn_11 n f p0 (lx_variablesIn_11 n f p0 m) (nI s) (nI (a + 0)) (nI a) = _
    unfold bx_variablesIn_11
    rw [Nat.add_zero, if_pos (Int32.le_refl _)]; rfl
  | c :: l, a, m + 1, s, hl, hc, ha, hm => by
    simp only [List.length_cons] at ha hm ⊢
    have hcc := cok_lt (col_cons.mp hc).1
    have ih := fun s9 => lx_vcF (n := n) (p0 := p0) l (a + 1) m s9 hl.2 (col_cons.mp hc).2 (by omega) (by omega)
    rw [show a + 1 + l.length = a + (l.length + 1) by omega] at ih
    show bx_variablesIn_11 n f p0 (lx_variablesIn_11 n f p0 m) (nI s) (nI (a + (l.length + 1))) (nI a) = some (nI (vcF l _))
    unfold bx_variablesIn_11
    rw [if_neg (by rw [nI_le_iff (by omega) (by omega)]; omega), xr_n (by omega) (by decide), hl.1, show (512 : Int32) = nI 512 from rfl]
    by_cases q : c < 512
    · rw [if_neg (by rw [nI_le_iff (by decide) (by omega)]; omega), if_pos q, xl_eq, xl_eq, nI_1, nI_1, ih]
    · rw [if_pos (by rw [nI_le_iff (by decide) (by omega)]; omega), if_neg q, xl_eq, xl_eq, nI_1, show nI s + 0 = nI s from Int32.add_zero _, ih]
theorem fx_variablesIn_is {n : Nat} {f : Nat → Int32} {l : List Nat} {a : Nat} (hl : la f a l) (hw : wf 1 l) (hc : col l) (ha : a + l.length ≤ 60000) (hn : 100000 ≤ n) : fx_variablesIn n f (nI a) = some (nI (vcF l 0)) := by
  unfold fx_variablesIn
  rw [fx_behind_ok hl hw hc ha hn, xb1_s]
  have := lx_vcF (n := n) (p0 := nI a) l a n 0 hl hc ha (by omega)
  exact this
theorem nI_le_prd {e m : Nat} (he : e < 1000000) (hm : m < 1000000) : nI e ≤ nI m - 1 ↔ e < m := by
  rw [Int32.le_iff_toInt_le, nI_prd (by omega), nI_toInt (by omega)]; omega
theorem dep_le {so : Nat → Nat} : ∀ (d : Nat) (t : List Nat), okt so t → t.length ≤ d → dep d t < t.length
  | 0, t, h, hd => absurd (wf_pos h.1) (by omega)
  | d + 1, [], h, _ => absurd (wf_pos h.1) (by simp)
  | d + 1, c :: l, h, hd => by
    have h0 := wf_pos h.1
    have key : ∀ (qs : List (List Nat)) (m : Nat), (∀ q ∈ qs, dep d q < q.length) → (∀ q ∈ qs, q.length < (c :: l).length) → m < (c :: l).length → depM (dep d) qs m < (c :: l).length := by
      intro qs
      induction qs with
      | nil => intro m _ _ h3; exact h3
      | cons q qs ih =>
        intro m h1 h2 h3
        refine ih _ (fun z hz => h1 z (List.mem_cons_of_mem _ hz)) (fun z hz => h2 z (List.mem_cons_of_mem _ hz)) ?_
        have a1 := h1 q (List.mem_cons_self ..)
        have a2 := h2 q (List.mem_cons_self ..)
        split <;> omega
    refine key (pts (c :: l)) 0 (fun q hq => ?_) (fun q hq => by have := pts_short h.1 hq; simp only [List.length_cons]; omega) h0
    have := pts_short h.1 hq
    simp only [List.length_cons] at hd
    exact dep_le d q (okt_pts h q hq) (by omega)
theorem lx_deepAt_ok {slf : Nat → (Nat → Int32) → Int32 → Option Int32} {n : Nat} {f : Nat → Int32} {so : Nat → Nat} {p0 : Int32} {d K : Nat} (hn : 100000 ≤ n) (hs : ∀ (t : List Nat) (a : Nat), la f a t → okt so t → t.length ≤ d → a + t.length ≤ 60000 → slf n f (nI a) = some (nI (dep d t))) (hK : K < 1000) (hd : d < 1000) :
    ∀ (qs : List (List Nat)) (a k m e : Nat), la f a qs.flatten → okts so qs → (∀ q ∈ qs, q.length ≤ d) → a + qs.flatten.length ≤ 60000 → k + qs.length = K → e ≤ d → qs.length < m →
      lx_deepAt_16 slf n f p0 m (nI K) (nI e - 1) (nI a) (nI k) = some (nI (depM (dep d) qs e))
  | [], a, k, m + 1, e, _, _, _, _, hk, he, _ => by
    simp only [List.length_nil, Nat.add_zero] at hk
    show bx_deepAt_16 slf n f p0 (lx_deepAt_16 slf n f p0 m) (nI K) (nI e - 1) (nI a) (nI k) = _
    unfold bx_deepAt_16
    rw [hk, if_pos (Int32.le_refl _), xl_eq, Int32.sub_add_cancel]; rfl
  | q :: qs, a, k, m + 1, e, hl, ho, hq, ha, hk, he, hm => by
    rw [List.flatten_cons] at hl ha
    rw [List.length_append] at ha
    simp only [List.length_cons] at hk hm
    have hlq := la_app.mp hl
    have h1 := (okts_cons.mp ho).1
    have h2 := hq q (List.mem_cons_self ..)
    have dl := dep_le d q h1 h2
    have ih := fun e9 (he9 : e9 ≤ d) => lx_deepAt_ok (p0 := p0) hn hs hK hd qs (a + q.length) (k + 1) m e9 hlq.2 (okts_cons.mp ho).2 (fun z hz => hq z (List.mem_cons_of_mem _ hz)) (by omega) (by omega) he9 (by omega)
    show bx_deepAt_16 slf n f p0 (lx_deepAt_16 slf n f p0 m) (nI K) (nI e - 1) (nI a) (nI k) = some (nI (depM (dep d) qs _))
    unfold bx_deepAt_16
    rw [if_neg (by rw [nI_le_iff (by omega) (by omega)]; omega), hs q a hlq.1 h1 h2 (by omega), xb1_s]
    by_cases z : dep d q < e
    · rw [if_pos ((nI_le_prd (by omega) (by omega)).mpr z), if_pos z, fx_behind_ok hlq.1 h1.1 h1.2.1 (by omega) hn, xb1_s, xl_eq, nI_1]
      exact ih e he
    · rw [if_neg (fun h => z ((nI_le_prd (by omega) (by omega)).mp h)), if_neg z, fx_behind_ok hlq.1 h1.1 h1.2.1 (by omega) hn, xb1_s, xl_eq, nI_1]
      have e9 : nI (dep d q) = nI (dep d q + 1) - 1 := by rw [← nI_1, Int32.add_sub_cancel]
      rw [e9]
      exact ih _ (by omega)
theorem fx_deepAt_ok {n : Nat} {f : Nat → Int32} {so : Nat → Nat} (hn : 100000 ≤ n) : ∀ (d : Nat) (t : List Nat) (a : Nat), d < 1000 → la f a t → okt so t → t.length ≤ d → a + t.length ≤ 60000 → fx_deepAt d n f (nI a) = some (nI (dep d t))
  | 0, t, a, _, _, h, hd, _ => absurd (wf_pos h.1) (by omega)
  | d + 1, t, a, hd9, hl, h, hd, ha => by
    cases t with
    | nil => exact absurd (wf_pos h.1) (by simp)
    | cons c l =>
      simp only [List.length_cons] at hd ha
      have hcc := cok_lt (col_cons.mp h.2.1).1
      obtain ⟨k1, k2, k3⟩ := pts_of h.1
      have har := ar_lt (c := c)
      show gx_deepAt (fx_deepAt d) n f (nI a) = _
      unfold gx_deepAt
      rw [fx_partsAt_ok hl.1 hcc (by omega), xb1_s, xl_eq, nI_1]
      exact lx_deepAt_ok (d := d) (K := ar c) (p0 := nI a) hn (fun t a h1 h2 h3 h4 => fx_deepAt_ok hn d t a (by omega) h1 h2 h3 h4) (by omega) (by omega) (pts (c :: l)) (a + 1) 0 n 0 (by rw [k3]; exact hl.2) (okt_pts h) (fun q hq => by have := pts_short h.1 hq; omega) (by rw [k3]; omega) (by omega) (by omega) (by omega)
theorem lx_partsWith_ok {n : Nat} {f : Nat → Int32} {so : Nat → Nat} {p0 op : Int32} {K : Nat} (hn : 100000 ≤ n) (hK : K < 1000) :
    ∀ (qs : List (List Nat)) (a k m e : Nat), la f a qs.flatten → okts so qs → a + qs.flatten.length ≤ 60000 → k + qs.length = K → qs.length < m →
      lx_partsWith_17 n f p0 op m (nI K) (nI e) (nI a) (nI k) = some (nI (pwF op qs e))
  | [], a, k, m + 1, e, _, _, _, hk, _ => by
    simp only [List.length_nil, Nat.add_zero] at hk
    show bx_partsWith_17 n f p0 op (lx_partsWith_17 n f p0 op m) (nI K) (nI e) (nI a) (nI k) = _
    unfold bx_partsWith_17
    rw [hk, if_pos (Int32.le_refl _)]; rfl
  | [] :: qs, a, k, m + 1, e, _, ho, _, _, _ => absurd (wf_pos (okts_cons.mp ho).1.1) (by simp)
  | (c :: l) :: qs, a, k, m + 1, e, hl, ho, ha, hk, hm => by
    rw [List.flatten_cons] at hl ha
    rw [List.length_append] at ha
    simp only [List.length_cons] at hk hm
    have hlq := la_app.mp hl
    have h1 := (okts_cons.mp ho).1
    have hcc := cok_lt (col_cons.mp h1.2.1).1
    have h0 := wf_pos h1.1
    have ih := fun e9 => lx_partsWith_ok (op := op) (p0 := p0) hn hK qs (a + (c :: l).length) (k + 1) m e9 hlq.2 (okts_cons.mp ho).2 (by omega) (by omega) (by omega)
    show bx_partsWith_17 n f p0 op (lx_partsWith_17 n f p0 op m) (nI K) (nI e) (nI a) (nI k) = some (nI (pwF op qs (if opI c = op then e + 1 else e)))
    unfold bx_partsWith_17
    rw [if_neg (by rw [nI_le_iff (by omega) (by omega)]; omega), fx_operatorAt_ok hlq.1.1 hcc (by omega), xb1_s]
    by_cases z : opI c = op
    · rw [if_pos z, if_pos z, xl_eq, fx_behind_ok hlq.1 h1.1 h1.2.1 (by omega) hn, xb1_s, xl_eq, nI_1, nI_1]
      exact ih _
    · rw [if_neg z, if_neg z, xl_eq, fx_behind_ok hlq.1 h1.1 h1.2.1 (by omega) hn, xb1_s, xl_eq, nI_1, show nI e + 0 = nI e from Int32.add_zero _]
      exact ih _
theorem fx_partsWith_ok {n : Nat} {f : Nat → Int32} {so : Nat → Nat} {t : List Nat} {a x : Nat} (hn : 100000 ≤ n) (hl : la f a t) (h : okt so t) (ha : a + t.length ≤ 60000) : fx_partsWith n f (nI a) (nI x) = some (nI (pw t x)) := by
  cases t with
  | nil => exact absurd (wf_pos h.1) (by simp)
  | cons c l =>
    simp only [List.length_cons] at ha
    have hcc := cok_lt (col_cons.mp h.2.1).1
    obtain ⟨k1, k2, k3⟩ := pts_of h.1
    have har := ar_lt (c := c)
    unfold fx_partsWith
    rw [fx_partsAt_ok hl.1 hcc (by omega), xb1_s, xl_eq, nI_1]
    exact lx_partsWith_ok (K := ar c) (p0 := nI a) hn (by omega) (pts (c :: l)) (a + 1) 0 n 0 (by rw [k3]; exact hl.2) (okt_pts h) (by rw [k3]; omega) (by omega) (by omega)
