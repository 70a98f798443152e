/-! ===== terms spelt ===== -/
/-- the number of a code's name -/
def hx (c : Nat) : Nat := if c < 512 then 10 + c else c / 512 - 1
/-- parts of a text, each with its sign ahead -/
def tlt (f : List Nat → List Nat) : Nat → List (List Nat) → List Nat
  | _, [] => []
  | k, q :: qs => (if k = 0 then 40 else 44) :: (f q ++ tlt f (k + 1) qs)
def spl (nmL : Nat → List Nat) : Nat → List Nat → List Nat
  | 0, _ => []
  | d + 1, t => match t with
    | [] => []
    | c :: l => nmL (hx c) ++ (if ar c = 0 then [] else tlt (spl nmL d) 0 (pts (c :: l)) ++ [41])
theorem spl_s {nmL : Nat → List Nat} {d c : Nat} {l : List Nat} : spl nmL (d + 1) (c :: l) = nmL (hx c) ++ (if ar c = 0 then [] else tlt (spl nmL d) 0 (pts (c :: l)) ++ [41]) := rfl
/-- names as they are kept -/
def NMs (so : Nat → Nat) (nv : Nat) (nm nmm : Nat → Int32) (nmL : Nat → List Nat) : Prop := ∀ i : Nat, ((i < 10 ∧ so i ≠ 3) ∨ (10 ≤ i ∧ i < 10 + nv)) → nmm i = nI (nmL i).length ∧ la nm (6 * i) (nmL i) ∧ (nmL i).length ≤ 6 ∧ ∀ b ∈ nmL i, 97 ≤ b ∧ b ≤ 122
theorem nar_byte : ∀ b : Fin 128, vp_nar .byte ((nI b.val).toInt8.toInt32) = nI b.val := by decide +kernel
theorem fx_says_ok {n s b : Nat} {tx : Nat → Int32} (hs : s < 336) (hb' : b < 128) : fx_says n tx (nI s) (nI b) = some (upd tx s (nI b), nI (s + 1)) := by
  unfold fx_says
  rw [xl_eq, nar_byte ⟨b, hb'⟩, xw_n hs (by decide), xl_eq, nI_1]
theorem hx_ok {so ma : Nat → Nat} {nv c : Nat} (h : cS so ma nv c) (h5 : nv ≤ 5) : (hx c < 10 ∧ so (hx c) ≠ 3) ∨ (10 ≤ hx c ∧ hx c < 10 + nv) := by
  unfold hx
  rcases h with h | ⟨h1, h2, h3, _⟩
  · rw [if_pos (by omega)]; omega
  · rw [if_neg (by omega)]; exact Or.inl ⟨h2, h3⟩
theorem tlt_len {f : List Nat → List Nat} : ∀ {qs : List (List Nat)} {k : Nat}, (∀ q ∈ qs, (f q).length ≤ 8 * q.length - 1) → (∀ q ∈ qs, 0 < q.length) → (tlt f k qs).length ≤ 8 * qs.flatten.length
  | [], _, _, _ => Nat.zero_le _
  | q :: qs, k, h, h0 => by
    have ih := tlt_len (f := f) (qs := qs) (k := k + 1) (fun z hz => h z (List.mem_cons_of_mem _ hz)) (fun z hz => h0 z (List.mem_cons_of_mem _ hz))
    have h1 := h q (List.mem_cons_self ..)
    have h2 := h0 q (List.mem_cons_self ..)
    show ((if k = 0 then 40 else 44) :: (f q ++ tlt f (k + 1) qs)).length ≤ 8 * (q ++ qs.flatten).length
    simp only [List.length_cons, List.length_append]; omega
theorem spl_len {so ma : Nat → Nat} {nv : Nat} {nm nmm : Nat → Int32} {nmL : Nat → List Nat} (hnm : NMs so nv nm nmm nmL) (h5 : nv ≤ 5) : ∀ (d : Nat) (t : List Nat), okt so t → sS so ma nv t → t.length ≤ d → (spl nmL d t).length ≤ 8 * t.length - 1
  | 0, t, h, _, hd => absurd (wf_pos h.1) (by omega)
  | d + 1, [], h, _, _ => absurd (wf_pos h.1) (by simp)
  | d + 1, c :: l, h, hs, hd => by
    simp only [List.length_cons] at hd
    rw [spl_s]
    have h6 := (hnm (hx c) (hx_ok (hs c (List.mem_cons_self ..)) h5)).2.2.1
    rw [List.length_append]
    by_cases q : ar c = 0
    · rw [if_pos q]; simp only [List.length_nil, List.length_cons]; omega
    · rw [if_neg q, List.length_append]
      have := tlt_len (f := spl nmL d) (qs := pts (c :: l)) (k := 0) (fun z hz => spl_len hnm h5 d z (okt_pts h z hz) (fun e he => hs e (mem_pts h.1 hz he)) (by have := pts_short h.1 hz; omega)) (fun z hz => wf_pos ((pts_of h.1).1 z hz))
      rw [(pts_of h.1).2.2] at this
      simp only [List.length_cons, List.length_nil]
      have hl : 0 < l.length := by
        have h1 := (pts_of h.1)
        have := wf_len (wf_flat h1.1)
        rw [h1.2.2, h1.2.1] at this
        omega
      omega
abbrev YRes := Option (Int32 × (Nat → Int32) × Int32)
/-- a function spells terms of at most d cells -/
def YOK (slf : Nat → (Nat → Int32) → (Nat → Int32) → (Nat → Int32) → (Nat → Int32) → Int32 → Int32 → YRes) (n : Nat) (nm nmm fp : Nat → Int32) (so ma : Nat → Nat) (nv : Nat) (nmL : Nat → List Nat) (d : Nat) : Prop :=
  ∀ (t : List Nat) (a s : Nat) (tx : Nat → Int32), la fp a t → okt so t → sS so ma nv t → t.length ≤ d → a + t.length ≤ 60000 → s + 9 * t.length ≤ 330 →
    slf n nm nmm fp tx (nI s) (nI a) = some (nI (a + t.length), put tx s (spl nmL d t), nI (s + (spl nmL d t).length))
theorem lx_saysAt_77_ok {slf : Nat → (Nat → Int32) → (Nat → Int32) → (Nat → Int32) → (Nat → Int32) → Int32 → Int32 → YRes} {n : Nat} {nm nmm fp : Nat → Int32} {so ma : Nat → Nat} {nv d K : Nat} {nmL : Nat → List Nat} {p0 x2 : Int32} (hnm : NMs so nv nm nmm nmL) (h5 : nv ≤ 5) (hslf : YOK slf n nm nmm fp so ma nv nmL d) (hK : K < 512) :
    ∀ (qs : List (List Nat)) (a s k m : Nat) (tx : Nat → Int32), la fp a qs.flatten → okts so qs → (∀ q ∈ qs, sS so ma nv q) → (∀ q ∈ qs, q.length ≤ d) → a + qs.flatten.length ≤ 60000 → s + 9 * qs.flatten.length ≤ 329 → k + qs.length = K → qs.length < m →
      lx_saysAt_77 slf n nm nmm fp p0 m x2 (nI K) (nI a) (nI k) tx (nI s) = some (nI (a + qs.flatten.length), put tx s (tlt (spl nmL d) k qs ++ (if K = 0 then [] else [41])), nI (s + (tlt (spl nmL d) k qs ++ (if K = 0 then [] else [41])).length))
  | [], a, s, k, m + 1, tx, _, _, _, _, _, hs, hk, _ => by
    simp only [List.length_nil, Nat.add_zero] at hk
    show bx_saysAt_77 slf n nm nmm fp p0 (lx_saysAt_77 slf n nm nmm fp p0 m) x2 (nI K) (nI a) (nI k) tx (nI s) = _
    unfold bx_saysAt_77
    rw [hk, if_pos (Int32.le_refl _)]
    simp only [List.flatten_nil, List.length_nil, Nat.add_zero, tlt, List.nil_append] at hs ⊢
    by_cases q : K = 0
    · rw [q, if_pos (by decide), if_pos rfl]; rfl
    · rw [if_neg (by rw [show (0 : Int32) = nI 0 from rfl, nI_le_iff (by omega) (by decide)]; omega), show (41 : Int32) = nI 41 from rfl, fx_says_ok (by omega) (by decide), xb2_s, if_neg q]; rfl
  | q :: qs, a, s, k, m + 1, tx, hl, ho, hS, hd, ha, hs, hk, hm => by
    rw [List.flatten_cons] at hl ha hs
    rw [List.length_append] at ha hs
    simp only [List.length_cons] at hk hm
    have hlq := la_app.mp hl
    have hq := (okts_cons.mp ho).1
    have hqS := hS q (List.mem_cons_self ..)
    have hqd := hd q (List.mem_cons_self ..)
    have hq0 := wf_pos hq.1
    have hsl := spl_len hnm h5 d q hq hqS hqd
    have key := hslf q a (s + 1) (upd tx s (nI (if k = 0 then 40 else 44))) hlq.1 hq hqS hqd (by omega) (by omega)
    have ih := lx_saysAt_77_ok (p0 := p0) (x2 := x2) hnm h5 hslf hK qs (a + q.length) (s + 1 + (spl nmL d q).length) (k + 1) m (put (upd tx s (nI (if k = 0 then 40 else 44))) (s + 1) (spl nmL d q)) hlq.2 (okts_cons.mp ho).2 (fun z hz => hS z (List.mem_cons_of_mem _ hz)) (fun z hz => hd z (List.mem_cons_of_mem _ hz)) (by omega) (by omega) (by omega) (by omega)
    have e1 : (tlt (spl nmL d) k (q :: qs) ++ (if K = 0 then [] else [41])) = (if k = 0 then 40 else 44) :: (spl nmL d q ++ (tlt (spl nmL d) (k + 1) qs ++ (if K = 0 then [] else [41]))) := by
      show ((if k = 0 then 40 else 44) :: (spl nmL d q ++ tlt (spl nmL d) (k + 1) qs)) ++ _ = _
      simp
    have fin : lx_saysAt_77 slf n nm nmm fp p0 m x2 (nI K) (nI (a + q.length)) (nI (k + 1)) (put (upd tx s (nI (if k = 0 then 40 else 44))) (s + 1) (spl nmL d q)) (nI (s + 1 + (spl nmL d q).length)) = some (nI (a + (q :: qs).flatten.length), put tx s (tlt (spl nmL d) k (q :: qs) ++ (if K = 0 then [] else [41])), nI (s + (tlt (spl nmL d) k (q :: qs) ++ (if K = 0 then [] else [41])).length)) := by
      rw [ih, e1, List.flatten_cons]
      have e2 : put tx s ((if k = 0 then 40 else 44) :: (spl nmL d q ++ (tlt (spl nmL d) (k + 1) qs ++ (if K = 0 then [] else [41])))) = put (put (upd tx s (nI (if k = 0 then 40 else 44))) (s + 1) (spl nmL d q)) (s + 1 + (spl nmL d q).length) (tlt (spl nmL d) (k + 1) qs ++ (if K = 0 then [] else [41])) := by
        show put (upd tx s (nI (if k = 0 then 40 else 44))) (s + 1) (spl nmL d q ++ (tlt (spl nmL d) (k + 1) qs ++ (if K = 0 then [] else [41]))) = _
        rw [put_app]
      rw [e2]
      have e3 : s + 1 + (spl nmL d q).length + (tlt (spl nmL d) (k + 1) qs ++ (if K = 0 then [] else [41])).length = s + ((if k = 0 then 40 else 44) :: (spl nmL d q ++ (tlt (spl nmL d) (k + 1) qs ++ (if K = 0 then [] else [41])))).length := by
        rw [List.length_cons, List.length_append (as := spl nmL d q)]; omega
      have e5 : a + q.length + qs.flatten.length = a + (q ++ qs.flatten).length := by rw [List.length_append]; omega
      rw [e3, e5]
    show bx_saysAt_77 slf n nm nmm fp p0 (lx_saysAt_77 slf n nm nmm fp p0 m) x2 (nI K) (nI a) (nI k) tx (nI s) = _
    unfold bx_saysAt_77
    rw [if_neg (by rw [nI_le_iff (by omega) (by omega)]; omega)]
    by_cases q0 : k = 0
    · rw [if_pos q0] at key fin
      rw [if_pos (by rw [q0]; rfl), show (40 : Int32) = nI 40 from rfl, fx_says_ok (by omega) (by decide), xb2_s, key, xb3_s, xl_eq, nI_1]
      exact fin
    · rw [if_neg q0] at key fin
      rw [if_neg (by rw [show (0 : Int32) = nI 0 from rfl, nI_inj (by omega) (by decide)]; exact q0), show (44 : Int32) = nI 44 from rfl, fx_says_ok (by omega) (by decide), xb2_s, key, xb3_s, xl_eq, nI_1]
      exact fin
/-- a name is spelt, then its parts -/
theorem lx_saysAt_32_ok {slf : Nat → (Nat → Int32) → (Nat → Int32) → (Nat → Int32) → (Nat → Int32) → Int32 → Int32 → YRes} {n : Nat} {nm nmm fp : Nat → Int32} {p0 : Int32} {i : Nat} {L : List Nat} (hi : i < 15) (hm0 : nmm i = nI L.length) (hL6 : L.length ≤ 6) :
    ∀ (r : List Nat) (k s m : Nat) (tx : Nat → Int32), la nm (6 * i + k) r → (∀ b ∈ r, b < 128) → k + r.length = L.length → s + r.length ≤ 336 → r.length < m →
      lx_saysAt_32 slf n nm nmm fp p0 m (nI i) (nI k) tx (nI s) = (xb1 (fx_partsAt n fp p0) fun r_54 => xl (p0 + ((1 : Int32))) fun y_56 => lx_saysAt_77 slf n nm nmm fp p0 n (nI i) r_54 y_56 ((0 : Int32)) (put tx s r) (nI (s + r.length)))
  | [], k, s, m + 1, tx, _, _, hk, _, _ => by
    simp only [List.length_nil, Nat.add_zero] at hk
    show bx_saysAt_32 slf n nm nmm fp p0 (lx_saysAt_32 slf n nm nmm fp p0 m) (nI i) (nI k) tx (nI s) = _
    unfold bx_saysAt_32
    rw [xr_n (by omega) (by decide), hm0, hk, if_pos (Int32.le_refl _)]; rfl
  | b :: r, k, s, m + 1, tx, hl, hb', hk, hs, hm => by
    simp only [List.length_cons] at hk hs hm
    have hb1 := hb' b (List.mem_cons_self ..)
    show bx_saysAt_32 slf n nm nmm fp p0 (lx_saysAt_32 slf n nm nmm fp p0 m) (nI i) (nI k) tx (nI s) = _
    unfold bx_saysAt_32
    rw [xr_n (by omega) (by decide), hm0, if_neg (by rw [nI_le_iff (by omega) (by omega)]; omega), xl_eq, show (6 : Int32) = nI 6 from rfl, nI_mul (by omega) (by decide) (by omega), xl_eq, nI_add, xr_n (by omega) (by decide), hl.1, fx_says_ok (by omega) hb1, xb2_s, xl_eq, nI_1]
    rw [lx_saysAt_32_ok hi hm0 hL6 r (k + 1) (s + 1) m (upd tx s (nI b)) (by rw [show 6 * i + (k + 1) = 6 * i + k + 1 by omega]; exact hl.2) (fun z hz => hb' z (List.mem_cons_of_mem _ hz)) (by omega) (by omega) (by omega)]
    rw [show s + 1 + r.length = s + (b :: r).length by simp only [List.length_cons]; omega]; rfl
theorem fx_saysAt_ok {n : Nat} {nm nmm fp : Nat → Int32} {so ma : Nat → Nat} {nv : Nat} {nmL : Nat → List Nat} (hn : 100000 ≤ n) (hnm : NMs so nv nm nmm nmL) (h5 : nv ≤ 5) : ∀ d : Nat, YOK (fx_saysAt d) n nm nmm fp so ma nv nmL d
  | 0 => fun t a s tx hl h _ hd _ _ => absurd (wf_pos h.1) (by omega)
  | d + 1 => fun t a s tx hl h hS hd ha hs => by
    have ih := fx_saysAt_ok (fp := fp) (ma := ma) hn hnm h5 d
    cases t with
    | nil => exact absurd (wf_pos h.1) (by simp)
    | cons c l =>
      simp only [List.length_cons] at hd ha hs
      have hcc := cok_lt (col_cons.mp h.2.1).1
      have hcS := hS c (List.mem_cons_self ..)
      have hxo := hx_ok hcS h5
      obtain ⟨m1, m2, m3, m4⟩ := hnm (hx c) hxo
      obtain ⟨k1, k2, k3⟩ := pts_of h.1
      have hx15 : hx c < 15 := by omega
      have har := ar_lt (c := c)
      have hl2 : la fp (a + 1) (pts (c :: l)).flatten := by rw [k3]; exact hl.2
      have body : lx_saysAt_32 (fx_saysAt d) n nm nmm fp (nI a) n (nI (hx c)) (nI 0) tx (nI s) = some (nI (a + (c :: l).length), put tx s (spl nmL (d + 1) (c :: l)), nI (s + (spl nmL (d + 1) (c :: l)).length)) := by
        rw [lx_saysAt_32_ok hx15 m1 m3 (nmL (hx c)) 0 s n tx m2 (fun b hb' => by have := m4 b hb'; omega) (by omega) (by omega) (by omega)]
        rw [fx_partsAt_ok hl.1 hcc (by omega), xb1_s, xl_eq, nI_1]
        have lp := lx_saysAt_77_ok (p0 := nI a) (x2 := nI (hx c)) hnm h5 ih har (pts (c :: l)) (a + 1) (s + (nmL (hx c)).length) 0 n (put tx s (nmL (hx c))) hl2 (okt_pts h) (fun q hq e he => hS e (mem_pts h.1 hq he)) (fun q hq => by have := pts_short h.1 hq; omega) (by rw [k3]; omega) (by rw [k3]; omega) (by omega) (by omega)
        rw [show (0 : Int32) = nI 0 from rfl, lp, spl_s, k3]
        have e0 : (tlt (spl nmL d) 0 (pts (c :: l)) ++ (if ar c = 0 then [] else [41])) = (if ar c = 0 then [] else tlt (spl nmL d) 0 (pts (c :: l)) ++ [41]) := by
          by_cases q : ar c = 0
          · have : pts (c :: l) = [] := List.eq_nil_of_length_eq_zero (by omega)
            rw [if_pos q, if_pos q, this]; rfl
          · rw [if_neg q, if_neg q]
        rw [e0, put_app, List.length_append, show a + 1 + l.length = a + (c :: l).length by simp only [List.length_cons]; omega, Nat.add_assoc]
      show gx_saysAt (fx_saysAt d) n nm nmm fp tx (nI s) (nI a) = _
      unfold gx_saysAt
      rw [xr_n (by omega) (by decide), hl.1, show (512 : Int32) = nI 512 from rfl]
      by_cases q : c < 512
      · rw [if_neg (by rw [nI_le_iff (by decide) (by omega)]; omega), xr_n (by omega) (by decide), hl.1, xl_eq, show (10 : Int32) = nI 10 from rfl, nI_add]
        have e : hx c = 10 + c := by unfold hx; rw [if_pos q]
        rw [← e]; exact body
      · rw [if_pos (by rw [nI_le_iff (by decide) (by omega)]; omega), fx_operatorAt_ok hl.1 hcc (by omega), xb1_s, opI_op (by omega)]
        have e : hx c = c / 512 - 1 := by unfold hx; rw [if_neg q]
        rw [← e]; exact body
theorem lx_shows_18_ok {n : Nat} {nm nmm fp : Nat → Int32} {a E : Nat} {tx : Nat → Int32} {iss shn : Int32} : ∀ (r : List Nat) (j m : Nat) (shr : Nat → Int32), la fp (a + j) r → j + r.length ≤ 21 → a + 21 ≤ 60000 → E = a + j + r.length → r.length < m →
    lx_shows_18 n nm nmm fp (nI a) m (nI E) (nI (a + j)) shr tx iss shn = some (shn, put shr j r, tx, iss, shn)
  | [], j, m + 1, shr, _, _, _, hE, _ => by
    simp only [List.length_nil, Nat.add_zero] at hE
    show bx_shows_18 n nm nmm fp (nI a) (lx_shows_18 n nm nmm fp (nI a) m) _ _ _ _ _ _ = _
    unfold bx_shows_18
    rw [hE, if_pos (Int32.le_refl _)]; rfl
  | c :: r, j, m + 1, shr, hl, hj, ha, hE, hm => by
    simp only [List.length_cons] at hj hE hm
    show bx_shows_18 n nm nmm fp (nI a) (lx_shows_18 n nm nmm fp (nI a) m) _ _ _ _ _ _ = _
    unfold bx_shows_18
    rw [if_neg (by rw [nI_le_iff (by omega) (by omega)]; omega), xl_eq, nI_sub (by omega), show a + j - a = j by omega, xr_n (by omega) (by decide), hl.1, xw_n (by omega) (by decide), xl_eq, nI_1, show a + j + 1 = a + (j + 1) by omega]
    exact lx_shows_18_ok r (j + 1) m (upd shr j (nI c)) (by rw [show a + (j + 1) = a + j + 1 by omega]; exact hl.2) (by omega) ha (by omega) (by omega)
/-- the text of a term -/
def txt (nmL : Nat → List Nat) (t : List Nat) : List Nat := spl nmL 21 t
theorem fx_shows_ok {n : Nat} {nm nmm fp shr tx : Nat → Int32} {so ma : Nat → Nat} {nv a : Nat} {nmL : Nat → List Nat} {iss shn : Int32} {t : List Nat} (hn : 100000 ≤ n) (hnm : NMs so nv nm nmm nmL) (h5 : nv ≤ 5) (hl : la fp a t) (h : okt so t) (hS : sS so ma nv t) (h20 : t.length ≤ 20) (ha : a + 21 ≤ 60000) :
    fx_shows n nm nmm fp shr tx iss shn (nI a) = some (nI (txt nmL t).length, put shr 0 t, put tx 0 (txt nmL t), 1, nI (txt nmL t).length) := by
  unfold fx_shows
  have h1 := fx_saysAt_ok (fp := fp) (ma := ma) hn hnm h5 21 t a 0 tx hl h hS (by omega) (by omega) (by omega)
  rw [Nat.zero_add] at h1
  rw [show (0 : Int32) = nI 0 from rfl, h1, xb3_s]
  exact lx_shows_18_ok t 0 n shr hl (by omega) ha rfl (by omega)
