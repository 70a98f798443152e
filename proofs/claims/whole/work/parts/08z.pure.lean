/-! ===== put: a node with its variables put in ===== -/
/-- what a signature is in both -/
def ENV (ga : Nat → Nat → Int32) (las : Nat → Bool) (so ma : Nat → Nat) (un : Nat → Option Nat) (no nv : Nat) (nmL : Nat → List Nat) : Prop :=
  SGC ga so ma un no nv nmL ∧ SV so un ma nv ∧ LB ga las ∧ (∀ q : Nat, q < no → so q ≤ 2) ∧ (∀ q : Nat, so q ≠ 3 → q < no) ∧ (∀ z : Nat, z < 5 → las z = true) ∧ ∀ o : Nat, las (5 + o) = true → so o ≠ 2 ∧ ∀ p : Nat, un p ≠ some o
def TBK (v : Nat → Nat → Int32) (w : Nat → Nat → Int64) (las : Nat → Bool) (so ma : Nat → Nat) (un : Nat → Option Nat) (nv : Nat) (N : List (List Nat)) : Prop := TB v w las N ∧ ∀ t ∈ N, tok so un ma nv t
theorem ENV_op {ga : Nat → Nat → Int32} {las : Nat → Bool} {so ma : Nat → Nat} {un : Nat → Option Nat} {no nv op : Nat} {nmL : Nat → List Nat} (h : ENV ga las so ma un no nv nmL) (ho : so op ≠ 3) : op < no ∧ op < 10 ∧ so op ≤ 2 := by
  have h1 := h.2.2.2.2.1 op ho
  have h2 := h.1.1
  exact ⟨h1, by omega, h.2.2.2.1 op h1⟩
theorem ENV_no {ga : Nat → Nat → Int32} {las : Nat → Bool} {so ma : Nat → Nat} {un : Nat → Option Nat} {no nv : Nat} {nmL : Nat → List Nat} (h : ENV ga las so ma un no nv nmL) : ∀ q : Nat, q < no → so q ≠ 3 := fun q hq => by
  have := h.2.2.2.1 q hq
  omega
theorem filT_ground {so : Nat → Nat} {un : Nat → Option Nat} {sg : Nat → List Nat} : ∀ (d : Nat) (t : List Nat), nok so un t → t.length ≤ d → (∀ c ∈ t, 512 ≤ c) → filT so un sg d t = t
  | 0, t, h, hl, _ => by
    have := wf_pos h.1.1
    omega
  | d + 1, [], h, _, _ => absurd h.1.1.symm (by decide)
  | d + 1, c :: l, h, hl, hg => by
    rw [filT_s]
    have hc := hg c List.mem_cons_self
    rw [if_neg (by omega)]
    by_cases ha : ar c = 0
    · rw [if_pos ha, leaf_row h.1 ha]
    · rw [if_neg ha]
      have e : (pts (c :: l)).map (filT so un sg d) = pts (c :: l) := by
        have : (pts (c :: l)).map (filT so un sg d) = (pts (c :: l)).map id := List.map_congr_left (fun q hq => filT_ground d q (nok_pts h q hq) (by
          have := pts_short h.1.1 hq
          simp only [List.length_cons] at hl
          omega) (fun z hz => hg z (mem_pts h.1.1 hq hz)))
        rw [this, List.map_id]
      rw [e, nf_std h.2 ha]
theorem vrF_0 {l : List Nat} (h : col l) : vrF l 0 = 0 ↔ ∀ c ∈ l, 512 ≤ c := by
  constructor
  · intro e c hc
    apply Classical.byContradiction
    intro q
    have hc5 : c < 5 := by rcases h c hc with g | g <;> omega
    have := (vrF_bit (a := 0) h (show c < 32 by omega)).mpr (Or.inr ⟨hc, hc5⟩)
    rw [e] at this
    exact absurd this (by unfold hb; simp)
  · intro hg
    have : ∀ (l : List Nat), (∀ c ∈ l, 512 ≤ c) → vrF l 0 = 0 := by
      intro l
      induction l with
      | nil => intro _; rfl
      | cons c l ih =>
        intro hl
        show vrF l (if c < 512 then _ else 0) = 0
        rw [if_neg (by have := hl c List.mem_cons_self; omega)]
        exact ih (fun d hd => hl d (List.mem_cons_of_mem _ hd))
    exact this l hg
theorem tok_ar {so : Nat → Nat} {un : Nat → Option Nat} {ma : Nat → Nat} {nv : Nat} {t : List Nat} (hsv : SV so un ma nv) (hs2 : ∀ o : Nat, so o ≠ 3 → so o ≤ 2) (h : tok so un ma nv t) : ∀ c ∈ t, ar c ≤ 6 ∧ big1 so c = false := fun c hc => by
  have nb := (no_big h.2.1).2 c hc
  refine ⟨?_, nb⟩
  by_cases q : c < 512
  · unfold ar; rw [if_pos q]; omega
  · rcases h.2.2 c hc with g | ⟨g1, g2, g3, g4⟩
    · have := hsv.1; omega
    · by_cases z : so (c / 512 - 1) = 2
      · unfold big1 at nb
        rw [decide_eq_true (show 512 ≤ c by omega), decide_eq_true z] at nb
        have := of_decide_eq_false (p := 6 < ar c) (by simpa using nb)
        omega
      · rw [g4 z]
        have h2 := hs2 _ g3
        have : so (c / 512 - 1) = 0 ∨ so (c / 512 - 1) = 1 := by omega
        rcases this with a | a
        · have := hsv.2.2.1 _ a; omega
        · have := hsv.2.1 _ a; omega
/-- values on the stack, the first below -/
def SKV (v : Nat → Nat → Int32) (N : List (List Nat)) (so : Nat → Nat) (held : Nat) (ts : List (List Nat)) : Prop := v 0 1 = nI (held + ts.length) ∧ ∀ j : Nat, j < ts.length → VAL N so (v 9 (held + j)) (nth ts j)
theorem nth_snoc_lt {ts : List (List Nat)} {t : List Nat} {j : Nat} (h : j < ts.length) : nth (ts ++ [t]) j = nth ts j := nth_app1 h
theorem SKV_push {n held : Nat} {v : Nat → Nat → Int32} {N E : List (List Nat)} {so : Nat → Nat} {ts : List (List Nat)} {r : Int32} {t : List Nat} (h : SKV v N so held ts) (hr : VAL (N ++ E) so r t) (hb9 : held + ts.length < 120) :
    ∃ v' : Nat → Nat → Int32, fx_X8_push n v r = some v' ∧ SKV v' (N ++ E) so held (ts ++ [t]) ∧ FRS v v' held := by
  obtain ⟨s1, s2⟩ := h
  refine ⟨_, fx_push_c s1 hb9, ⟨by rw [mu_eq, upd_eq, List.length_append, List.length_singleton, Nat.add_assoc], fun j hj => ?_⟩, fun a a0 a9 => by rw [mu_ne a0, mu_ne a9], fun j hj => by rw [mu_eq, upd_ne hj, mu_ne (by decide)], fun j hj => by rw [mu_ne (by decide), mu_eq, upd_ne (by omega)]⟩
  rw [List.length_append, List.length_singleton] at hj
  rw [mu_ne (by decide), mu_eq]
  by_cases q : j < ts.length
  · rw [upd_ne (by omega), nth_snoc_lt q]
    exact VAL_ext (s2 j q)
  · have e : j = ts.length := by omega
    rw [e, upd_eq, nth_app2]
    exact hr
theorem take_nth {ts : List (List Nat)} {j : Nat} (h : j < ts.length) : ts.take (j + 1) = ts.take j ++ [nth ts j] := by
  rw [List.take_succ, List.getElem?_eq_getElem h]
  unfold nth
  rw [List.getD_eq_getElem?_getD, List.getElem?_eq_getElem h]; rfl
abbrev PutF := Nat → (Nat → Nat → Int32) → (Nat → Nat → Int64) → (Nat → Nat → Int32) → Nat → (Nat → Int32) → Int32 → Int32 → Int32 → Option (Int32 × (Nat → Nat → Int32) × (Nat → Nat → Int64))
/-- the line is laid of what lies on the stack, the term closed -/
theorem lx_put136_c {slf : PutF} {n op no nv held bn : Nat} {ga : Nat → Nat → Int32} {w : Nat → Nat → Int64} {las : Nat → Bool} {N ts : List (List Nat)} {so ma : Nat → Nat} {un : Nat → Option Nat} {nmL : Nat → List Nat} {fb : Nat → Int32} {P0 P1 P2 x5 x7 : Int32} (hn : 100000 ≤ n) (he : ENV ga las so ma un no nv nmL) (hN : N.length < 1024) (ho : so op ≠ 3) (hts : okts so ts) (h0 : so op = 2 → ts = [] → un op ≠ none) (h6 : so op ≠ 2 → ts.length ≤ 6) (hT9 : ts.flatten.length < 512) (hb9 : held + ts.length ≤ 119) :
    ∀ (d j m : Nat) (v : Nat → Nat → Int32), j + d = ts.length → d < m → TB v w las N → SKV v N so held ts → LST v N so un op (ts.take j) →
      ∃ (r : Int32) (v' : Nat → Nat → Int32) (w' : Nat → Nat → Int64) (E : List (List Nat)), lx_X8_put_136 slf n ga bn fb P0 P1 P2 m x5 (nI held) x7 (nI (held + j)) v w = some (r, v', w') ∧ TB v' w' las (N ++ E) ∧ (E = [] ∨ (E = [stand so un op ts] ∧ great so (stand so un op ts) = false)) ∧ VAL (N ++ E) so r (stand so un op ts) ∧ v' 0 1 = nI held ∧ v' 9 = v 9
  | 0, j, m + 1, v, hj, _, hT, hS, hL => by
    obtain ⟨o1, o2, o3⟩ := ENV_op he ho
    have ej : j = ts.length := by omega
    subst ej
    rw [List.take_length] at hL
    have hT1 : TB (mu v 0 1 (nI held)) w las N := TB_frame hT (by rw [mu_eq, upd_ne (by decide)]) (fun a a1 _ => by rw [mu_ne (by omega)])
    have hL1 : LST (mu v 0 1 (nI held)) N so un op ts := by
      obtain ⟨ys, l1, l2, l3⟩ := hL
      refine ⟨ys, ⟨by rw [mu_eq, upd_ne (by decide)]; exact l1.1, l1.2.1, fun z hz => by rw [mu_ne (by decide)]; exact l1.2.2.1 z hz, by rw [mu_eq, upd_ne (by decide)]; exact l1.2.2.2.1, by rw [mu_eq, upd_ne (by decide)]; exact l1.2.2.2.2.1, by rw [mu_eq, upd_ne (by decide)]; exact l1.2.2.2.2.2⟩, l2, ?_⟩
      rw [mu_eq, upd_ne (by decide)]
      exact l3
    obtain ⟨r, v', w', E, e1, e2, e3, e4, e5⟩ := close_ANS (n := n) hn he.2.2.1 he.1 he.2.1 hT1 hN ⟨o2, ho⟩ (by omega) hL1 hts h0 h6 hT9
    refine ⟨r, v', w', E, ?_, e2, e3, e4, by rw [e5.2.2 1 (by decide), mu_eq, upd_eq], by rw [e5.2.1, mu_ne (by decide)]⟩
    show bx_X8_put_136 slf n ga bn fb P0 P1 P2 (lx_X8_put_136 slf n ga bn fb P0 P1 P2 m) x5 (nI held) x7 (nI (held + ts.length)) v w = _
    unfold bx_X8_put_136
    rw [hS.1, if_pos (Int32.le_refl _), xl_eq, e1, xb3_s]
  | d + 1, j, m + 1, v, hj, hm, hT, hS, hL => by
    obtain ⟨o1, o2, o3⟩ := ENV_op he ho
    obtain ⟨v1, y1, y2, y3⟩ := lay_LST (n := n) hn he.2.1 hT o2 (by omega) hL (hS.2 j (by omega))
    rw [← take_nth (by omega)] at y3
    obtain ⟨r, v', w', E, e1, e2, e3, e4, e5, e6⟩ := lx_put136_c (slf := slf) (n := n) (bn := bn) (fb := fb) (P0 := P0) (P1 := P1) (P2 := P2) (x5 := x5) (x7 := x7) hn he hN ho hts h0 h6 hT9 hb9 d (j + 1) m v1 (by omega) (by omega) (TB_FRL hT y2) ⟨by rw [y2.2.2]; exact hS.1, fun z hz => by rw [y2.1 9 (by decide) (by decide)]; exact hS.2 z hz⟩ y3
    refine ⟨r, v', w', E, ?_, e2, e3, e4, e5, by rw [e6, y2.1 9 (by decide) (by decide)]⟩
    rw [← e1]
    show bx_X8_put_136 slf n ga bn fb P0 P1 P2 (lx_X8_put_136 slf n ga bn fb P0 P1 P2 m) x5 (nI held) x7 (nI (held + j)) v w = _
    unfold bx_X8_put_136
    rw [hS.1, if_neg (by rw [nI_le_iff (by omega) (by omega)]; omega), if_neg (by rw [show (0 : Int32) = nI 0 from rfl, nI_lt_iff (by omega) (by decide)]; omega), if_neg (by rw [show (120 : Int32) = nI 120 from rfl, nI_le_iff (by decide) (by omega)]; omega), xr_n (by omega) (by decide), y1, xb1_s, xl_eq, nI_1, Nat.add_assoc]
/-- what is bound where -/
def BNC (N : List (List Nat)) (fb : Nat → Int32) (bn b : Nat) (sg : Nat → List Nat) (t : List Nat) : Prop := ∀ c ∈ t, c < 512 → b + c < bn ∧ ((fb (b + c) = -1 ∧ sg c = [c]) ∨ ∃ y : Nat, y < N.length ∧ fb (b + c) = nI y ∧ nth N y = sg c)
theorem BNC_ext {N E : List (List Nat)} {fb : Nat → Int32} {bn b : Nat} {sg : Nat → List Nat} {t : List Nat} (h : BNC N fb bn b sg t) : BNC (N ++ E) fb bn b sg t := fun c hc h5 => by
  obtain ⟨a, g⟩ := h c hc h5
  refine ⟨a, g.imp id (fun z => ?_)⟩
  obtain ⟨y, y1, y2, y3⟩ := z
  exact ⟨y, (nth_pre y1).1, y2, by rw [(nth_pre y1).2]; exact y3⟩
def PUT (slf : PutF) (n : Nat) (ga : Nat → Nat → Int32) (las : Nat → Bool) (so ma : Nat → Nat) (un : Nat → Option Nat) (nv bn b : Nat) (fb : Nat → Int32) (sg : Nat → List Nat) (d : Nat) : Prop :=
  ∀ (x dep held : Nat) (N : List (List Nat)) (v : Nat → Nat → Int32) (w : Nat → Nat → Int64), x < N.length → (nth N x).length ≤ d → dep + (nth N x).length ≤ 21 → v 0 1 = nI held → held + (nth N x).length ≤ 110 → N.length + (nth N x).length ≤ 1024 → TBK v w las so ma un nv N → BNC N fb bn b sg (nth N x) →
    ∃ (r : Int32) (v' : Nat → Nat → Int32) (w' : Nat → Nat → Int64) (E : List (List Nat)), slf n v w ga bn fb (nI x) (nI b) (nI dep) = some (r, v', w') ∧ TBK v' w' las so ma un nv (N ++ E) ∧ VAL (N ++ E) so r (fil so un sg (nth N x)) ∧ E.length ≤ (nth N x).length ∧ v' 0 1 = nI held ∧ ∀ j : Nat, j < held → v' 9 j = v 9 j
theorem tok_von {so : Nat → Nat} {un : Nat → Option Nat} {ma : Nat → Nat} {nv bn b : Nat} {N : List (List Nat)} {fb : Nat → Int32} {sg : Nat → List Nat} {t : List Nat} (h5 : nv ≤ 5) (hN : ∀ q ∈ N, tok so un ma nv q) (ht : sS so ma nv t) (h : BNC N fb bn b sg t) : von so un sg t ∧ ∀ c ∈ t, c < 512 → sS so ma nv (sg c) := by
  have key : ∀ c ∈ t, c < 512 → nok so un (sg c) ∧ (sg c).length ≤ 20 ∧ sS so ma nv (sg c) := fun c hc hc5 => by
    rcases (h c hc hc5).2 with ⟨_, g⟩ | ⟨y, y1, y2, y3⟩
    · have hcv : c < nv := by
        rcases ht c hc with g | ⟨g, _⟩
        · exact g
        · omega
      obtain ⟨a1, a2⟩ := var_row (so := so) (ma := ma) (un := un) h5 hcv
      rw [g]
      exact ⟨⟨a1, nf_leaf (by unfold ar; rw [if_pos (by omega)])⟩, by simp, a2⟩
    · have tk := hN _ (nth_mem y1)
      rw [y3] at tk
      exact ⟨tk.1, tok_len tk, tk.2.2⟩
  exact ⟨fun c hc hc5 => ⟨(key c hc hc5).1, (key c hc hc5).2.1⟩, fun c hc hc5 => (key c hc hc5).2.2⟩
