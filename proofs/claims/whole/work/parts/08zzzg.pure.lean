/-! ===== the class's reader reads what the parser of terms reads ===== -/
abbrev RdR := Option (Int32 × (Nat → Nat → Int32) × (Nat → Nat → Int32) × (Nat → Nat → Int32) × (Nat → Nat → Int64))
/-- the reader's state where the scanner stands at a token -/
def RdS (L : List Nat) (las : Nat → Bool) (so : Nat → Nat) (q : Nat) (F : List (Nat × Nat)) (V N : List (List Nat)) (rd h v : Nat → Nat → Int32) (w : Nat → Nat → Int64) : Prop :=
  SCN h L q ∧ h 0 0 = nI 0 ∧ RDS rd N so F V ∧ TB v w las N ∧ v 0 1 = nI 0 ∧ V.length + F.length ≤ q ∧ N.length ≤ q
/-- no term, and the scanner stands at the fault -/
def RBAD (L : List Nat) (las : Nat → Bool) (b : Nat) (res : RdR) : Prop :=
  ∃ (rd h v : Nat → Nat → Int32) (w : Nat → Nat → Int64) (N : List (List Nat)), res = some (-2, rd, h, v, w) ∧ SCN h L b ∧ h 0 0 = nI 0 ∧ TB v w las N
/-- behind closeAll -/
def KCO (n : Nat) (ga : Nat → Nat → Int32) (m : Nat) (x1 : Int32) (o : RdR) : RdR :=
  xb5 o fun r_22 v_rd_23 v_h_24 v_ta_25 w_ta_26 => if r_22 = (0 : Int32) then (some ((-2 : Int32), v_rd_23, v_h_24, v_ta_25, w_ta_26)) else (if v_rd_23 0 1 = (0 : Int32) then (xr 400 (v_rd_23 1) ((0 : Int32)) fun y_31 => some (y_31, v_rd_23, v_h_24, v_ta_25, w_ta_26)) else (xl (x1 + (1)) fun x1_30 => lx_X1_read_12 n ga m x1_30 v_rd_23 v_h_24 v_ta_25 w_ta_26))
/-- a table that has grown -/
def PRE (N0 N : List (List Nat)) : Prop := ∃ E : List (List Nat), N = N0 ++ E
theorem PRE_r {N : List (List Nat)} : PRE N N := ⟨[], (List.append_nil N).symm⟩
theorem PRE_a {N E : List (List Nat)} : PRE N (N ++ E) := ⟨E, rfl⟩
theorem PRE_t {A B C : List (List Nat)} (x : PRE A B) (y : PRE B C) : PRE A C := by
  obtain ⟨E, rfl⟩ := x
  obtain ⟨E', rfl⟩ := y
  exact ⟨E ++ E', List.append_assoc ..⟩
/-- what becomes of a term's text -/
def ROUT (n : Nat) (ga : Nat → Nat → Int32) (L : List Nat) (las : Nat → Bool) (so : Nat → Nat) (o : PR) (F : List (Nat × Nat)) (V N0 : List (List Nat)) (res : RdR) : Prop :=
  (o.1 = none ∧ RBAD L las o.2.2 res) ∨ ∃ t : List Nat, o.1 = some t ∧ ∃ (m x1 mm j : Nat) (N : List (List Nat)) (rd h v : Nat → Nat → Int32) (w : Nat → Nat → Int64), res = KCO n ga m (nI x1) (lx_X1_closeAll_2 n ga mm (nI j) rd h v w) ∧ RdS L las so (bk L o.2.1) F (V ++ [t]) N rd h v w ∧ x1 + 1 ≤ bk L o.2.1 ∧ L.length + 1 ≤ bk L o.2.1 + m ∧ j + 1 ≤ bk L o.2.1 ∧ L.length + 1 ≤ bk L o.2.1 + mm ∧ PRE N0 N
theorem ROUT_pre {n : Nat} {ga : Nat → Nat → Int32} {L : List Nat} {las : Nat → Bool} {so : Nat → Nat} {o : PR} {F : List (Nat × Nat)} {V N0 N1 : List (List Nat)} {res : RdR} (x : PRE N0 N1) (h : ROUT n ga L las so o F V N1 res) : ROUT n ga L las so o F V N0 res := by
  rcases h with h | ⟨t, a1, m, x1, mm, j, N, rd, h, v, w, a2, a3, a4, a5, a6, a7, a8⟩
  · exact Or.inl h
  · exact Or.inr ⟨t, a1, m, x1, mm, j, N, rd, h, v, w, a2, a3, a4, a5, a6, a7, PRE_t x a8⟩
theorem RdS_b {L : List Nat} {las : Nat → Bool} {so : Nat → Nat} {q : Nat} {F : List (Nat × Nat)} {V N : List (List Nat)} {rd h v : Nat → Nat → Int32} {w : Nat → Nat → Int64} (hs : RdS L las so q F V N rd h v w) : q ≤ L.length ∧ L.length ≤ 400 := ⟨hs.1.2.1, hs.1.1.1⟩
/-- the terms that the parser reads -/
def PTK (so ma : Nat → Nat) (un : Nat → Option Nat) (nv : Nat) (L : List Nat) (g : Nat → Nat → PR) : Prop := ∀ d p : Nat, p ≤ L.length → L.length + 1 ≤ p + d → p ≤ (g d p).2.1 ∧ (g d p).2.1 ≤ L.length ∧ ∀ t : List Nat, (g d p).1 = some t → nok so un t ∧ sS so ma nv t ∧ t.length + p ≤ (g d p).2.1
theorem leaf_ROUT {n no nv c q q' m x1 : Nat} {ga rd h v : Nat → Nat → Int32} {w : Nat → Nat → Int64} {las : Nat → Bool} {N V : List (List Nat)} {so ma : Nat → Nat} {un : Nat → Option Nat} {nmL : Nat → List Nat} {F : List (Nat × Nat)} {L : List Nat} {e b : Nat} {res : RdR} (hn : 100000 ≤ n) (he : ENV ga las so ma un no nv nmL) (hs : RDS rd N so F V) (hT : TB v w las N) (hv1 : v 0 1 = nI 0) (hVF : V.length + F.length ≤ q) (hNq : N.length ≤ q) (hsc : SCN h L q') (h00 : h 0 0 = nI 0) (eq' : bk L e = q') (hq : q + 1 ≤ q') (hc : cck c) (hk : cok c) (har : ar c = 0) (hx : x1 ≤ q) (hm : L.length + 1 ≤ q' + m)
    (hres : res = xb3 (fx_X8_leaf n v w ga (nI (cc c))) fun r_36 v_ta_37 w_ta_38 => xb1 (fx_X1_addValue n rd r_36) fun v_rd_43 => KCO n ga m (nI x1) (fx_X1_closeAll n v_rd_43 h ga v_ta_37 w_ta_38)) :
    ROUT n ga L las so (some [c], e, b) F V N res := by
  have hL4 := hsc.1.1
  have hq2 := hsc.2.1
  obtain ⟨r, v', w', E, a1, a2, a3, a4, a5⟩ := leaf_ANS (n := n) (so := so) hn he.2.2.1 hT (by omega) hc hk har
  obtain ⟨rd', b1, b2⟩ := fx_addValue_c (n := n) (RDS_ext (E := E) hs) (by omega) a4
  have lE : E.length ≤ 1 := by
    rcases a3 with z | ⟨z, _⟩
    · rw [z]; decide
    · rw [z]; exact Nat.le_refl 1
  refine Or.inr ⟨[c], rfl, m, x1, n, 0, N ++ E, rd', h, v', w', ?_, ?_, ?_, ?_, ?_, ?_, PRE_a⟩
  · rw [hres, a1, xb3_s, b1, xb1_s]
    rfl
  · show RdS L las so (bk L e) F (V ++ [[c]]) (N ++ E) rd' h v' w'
    rw [eq']
    exact ⟨hsc, h00, b2, a2, (a5.2.2 1 (by decide)).trans hv1, by rw [List.length_append]; simp only [List.length_cons, List.length_nil]; omega, by rw [List.length_append]; omega⟩
  · show x1 + 1 ≤ bk L e
    omega
  · show L.length + 1 ≤ bk L e + m
    omega
  · show 0 + 1 ≤ bk L e
    omega
  · show L.length + 1 ≤ bk L e + n
    omega
/-- the parts of a bracket -/
theorem rd_parts {n no nv d k least most : Nat} {ga : Nat → Nat → Int32} {las : Nat → Bool} {so ma : Nat → Nat} {un : Nat → Option Nat} {nmL : Nat → List Nat} {F : List (Nat × Nat)} {V : List (List Nat)} {L : List Nat} {g : Nat → PR} (hn : 100000 ≤ n) (he : ENV ga las so ma un no nv nmL) (hk : k < no) (hk3 : so k ≠ 3) (hlm : least ≤ most) (hm9 : most ≤ 9) (h6 : so k ≠ 2 → most ≤ 6) (hl1 : 1 ≤ least) (el : ma k = least) (em : most = if so k = 2 then 9 else ma k)
    (hg : ∀ p : Nat, p ≤ L.length → L.length + 1 ≤ p + d → p ≤ (g p).2.1 ∧ (g p).2.1 ≤ L.length ∧ ∀ t : List Nat, (g p).1 = some t → nok so un t ∧ sS so ma nv t ∧ t.length + p ≤ (g p).2.1)
    (ih : ∀ (p : Nat) (F : List (Nat × Nat)) (V N : List (List Nat)) (rd h v : Nat → Nat → Int32) (w : Nat → Nat → Int64) (m x1 : Nat), p ≤ L.length → L.length + 1 ≤ p + d → RdS L las so (bk L p) F V N rd h v w → x1 ≤ bk L p → L.length + 1 ≤ bk L p + m → ROUT n ga L las so (g p) F V N (lx_X1_read_12 n ga m (nI x1) rd h v w)) :
    ∀ (u x p : Nat) (acc N : List (List Nat)) (rd h v : Nat → Nat → Int32) (w : Nat → Nat → Int64) (m x1 : Nat), x + u = 11 → x ≤ most → acc.length + 1 = x → p ≤ L.length → L.length + 1 ≤ p + d → okts so acc → acc.flatten.length ≤ p → RdS L las so (bk L p) (F ++ [(k, V.length)]) (V ++ acc) N rd h v w → x1 ≤ bk L p → L.length + 1 ≤ bk L p + m →
      ROUT n ga L las so (plp so un L g k least most u x acc p) F V N (lx_X1_read_12 n ga m (nI x1) rd h v w) := by
  intro u
  induction u with
  | zero => intro x p acc N rd h v w m x1 hu hx; omega
  | succ u ihu =>
    intro x p acc N rd h v w m x1 hu hx hacc hp hd hok hfl hs hx1 hm
    have ep : plp so un L g k least most (u + 1) x acc p = match g p with
      | (none, p1, b1) => (none, p1, b1)
      | (some t, p1, b1) =>
        if x < least then (if x = most then (none, p1, b1) else if isG L p1 44 then plp so un L g k least most u (x + 1) (acc ++ [t]) (bk L p1 + 1) else (none, bk L p1, bk L p1))
        else if isG L p1 41 then (some (stand so un k (acc ++ [t])), bk L p1 + 1, bk L p1)
        else if x = most then (none, bk L p1, bk L p1)
        else if isG L (bk L p1) 44 then plp so un L g k least most u (x + 1) (acc ++ [t]) (bk L (bk L p1) + 1) else (none, bk L (bk L p1), bk L (bk L p1)) := rfl
    have hL4 := (RdS_b hs).2
    obtain ⟨g1, g2, g3⟩ := hg p hp hd
    have hih := ih p (F ++ [(k, V.length)]) (V ++ acc) N rd h v w m x1 hp hd hs hx1 hm
    rw [ep]
    generalize hgp : g p = o at hih g1 g2 g3 ⊢
    obtain ⟨o1, p1, b1⟩ := o
    rcases hih with ⟨z1, z2⟩ | ⟨t, z1, m', x1', mm, j, N', rd', h', v', w', z2, z3, z4, z5, z6, z7, z8⟩
    · have z1' : o1 = none := z1
      subst z1'
      exact Or.inl ⟨rfl, z2⟩
    · have z1' : o1 = some t := z1
      subst z1'
      obtain ⟨k1, k2, k3⟩ := g3 t rfl
      have k3' : t.length + p ≤ p1 := k3
      have g1' : p ≤ p1 := g1
      have g2' : p1 ≤ L.length := g2
      have z3' : RdS L las so (bk L p1) (F ++ [(k, V.length)]) (V ++ acc ++ [t]) N' rd' h' v' w' := z3
      have z4' : x1' + 1 ≤ bk L p1 := z4
      have z5' : L.length + 1 ≤ bk L p1 + m' := z5
      have z6' : j + 1 ≤ bk L p1 := z6
      have z7' : L.length + 1 ≤ bk L p1 + mm := z7
      have hq1 := bk_ge (L := L) (p := p1)
      have hq2 := bk_le (L := L) g2'
      have hbb := bk_bk (L := L) (p := p1) hL4
      show ROUT n ga L las so (if x < least then (if x = most then (none, p1, b1) else if isG L p1 44 then plp so un L g k least most u (x + 1) (acc ++ [t]) (bk L p1 + 1) else (none, bk L p1, bk L p1))
        else if isG L p1 41 then (some (stand so un k (acc ++ [t])), bk L p1 + 1, bk L p1)
        else if x = most then (none, bk L p1, bk L p1)
        else if isG L (bk L p1) 44 then plp so un L g k least most u (x + 1) (acc ++ [t]) (bk L (bk L p1) + 1) else (none, bk L (bk L p1), bk L (bk L p1))) F V N _
      have e44 : isG L (bk L p1) 44 = isb L (bk L p1) 44 44 := by unfold isG; rw [hbb]
      have e44' : isG L p1 44 = isb L (bk L p1) 44 44 := rfl
      have e41 : isG L p1 41 = isb L (bk L p1) 41 41 := rfl
      rw [e44, e44', e41, hbb, z2]
      generalize eq1 : bk L p1 = q1 at *
      obtain ⟨s1, s2, s3, s4, s5, s6, s7⟩ := z3'
      have s3' := s3
      obtain ⟨r1, r2, r3, r4⟩ := s3'
      have elF : (F ++ [(k, V.length)]).length = F.length + 1 := by simp
      have elV : (V ++ acc ++ [t]).length = V.length + x := by simp only [List.length_append, List.length_cons, List.length_nil]; omega
      rw [elF] at r2 r3 s6
      rw [elV] at r1 s6
      have f2 := (r3 F.length (by omega)).1
      have f3 := (r3 F.length (by omega)).2
      rw [fgd_app2] at f2 f3
      have f2' : rd' 2 F.length = nI k := f2
      have f3' : rd' 3 F.length = nI V.length := f3
      obtain ⟨mm, rfl⟩ : ∃ y, mm = y + 1 := ⟨mm - 1, by omega⟩
      have bad : ∀ e : Nat, ROUT n ga L las so (none, e, q1) F V N (KCO n ga m' (nI x1') (some (0, rd', h', v', w'))) := fun e => Or.inl ⟨rfl, rd', h', v', w', N', by unfold KCO; rw [xb5_s, if_pos rfl], s1, s2, s4⟩
      -- what comes behind a comma
      have comma : ∀ (hlt : x < most) (hb9 : isb L q1 44 44 = true), ROUT n ga L las so (plp so un L g k least most u (x + 1) (acc ++ [t]) (q1 + 1)) F V N (KCO n ga m' (nI x1') (xb1 (fx_X3_advance n h') fun v_h_31 => some (1, rd', v_h_31, v', w'))) := fun hlt hb9 => by
        obtain ⟨y1, y2⟩ := isb_one.mp hb9
        obtain ⟨t1, t2, t3⟩ := tks_sign (Or.inr (Or.inr (Or.inl rfl))) y1 y2
        obtain ⟨h2, a1, a2, a3⟩ := fx_advance_c (n := n) hn s1
        rw [t3] at a3
        have q3 := bk_ge (L := L) (p := q1 + 1)
        unfold KCO
        rw [a1, xb1_s, xb5_s, if_neg (by decide), r2, if_neg (by rw [show (0 : Int32) = nI 0 from rfl, nI_inj (by omega) (by decide)]; omega), xl_eq, nI_1]
        refine ROUT_pre z8 (ihu (x + 1) (q1 + 1) (acc ++ [t]) N' rd' h2 v' w' m' (x1' + 1) (by omega) (by omega) (by simp; omega) (by omega) (by omega) (okts_app.mpr ⟨hok, fun z hz => by rw [List.mem_singleton.mp hz]; exact k1.1⟩) ?_ ⟨a3, a2.2.1.trans s2, by rw [← List.append_assoc]; exact s3, s4, s5, ?_, by omega⟩ (by omega) (by omega))
        · rw [List.flatten_append, List.length_append]
          simp only [List.flatten_cons, List.flatten_nil, List.append_nil]
          omega
        · rw [← List.append_assoc, elV, elF]
          omega
      -- what comes behind the bracket's end
      have close : ∀ (hge : least ≤ x) (hb9 : isb L q1 41 41 = true), ROUT n ga L las so (some (stand so un k (acc ++ [t])), q1 + 1, q1) F V N (KCO n ga m' (nI x1') (xb1 (fx_X3_advance n h') fun v_h_10 => xb3 (fx_X1_closeLast n rd' ga v' w' (nI k)) fun v_rd_17 v_ta_18 w_ta_19 => xl (nI j + (1)) fun x1_21 => lx_X1_closeAll_2 n ga mm x1_21 v_rd_17 v_h_10 v_ta_18 w_ta_19)) := fun hge hb9 => by
        obtain ⟨y1, y2⟩ := isb_one.mp hb9
        obtain ⟨t1, t2, t3⟩ := tks_sign (Or.inr (Or.inl rfl)) y1 y2
        obtain ⟨h2, a1, a2, a3⟩ := fx_advance_c (n := n) hn s1
        rw [t3] at a3
        have q3 := bk_ge (L := L) (p := q1 + 1)
        have q4 := bk_le (L := L) (p := q1 + 1) (by omega)
        have lacc : (acc ++ [t]).length = x := by simp; omega
        have lfl : (acc ++ [t]).flatten.length ≤ p1 := by
          rw [List.flatten_append, List.length_append]
          simp only [List.flatten_cons, List.flatten_nil, List.append_nil]
          omega
        obtain ⟨rd2, v2, w2, E, b1, b2, b3, b4, b5⟩ := fx_closeLast_c (n := n) (op := k) (rd := rd') (v := v') (w := w') (N := N') (V0 := V) (acc := acc ++ [t]) (F := F) hn he (by omega) hk3 (by rw [← List.append_assoc]; exact s3) (by rw [← List.append_assoc, elV]; omega) (by omega) (by omega) s4 (okts_app.mpr ⟨hok, fun z hz => by rw [List.mem_singleton.mp hz]; exact k1.1⟩) (fun z => by have := h6 z; omega) (by omega)
        rw [a1, xb1_s, b1, xb3_s, xl_eq, nI_1]
        refine Or.inr ⟨_, rfl, m', x1', mm, j + 1, N' ++ E, rd2, h2, v2, w2, rfl, ⟨a3, a2.2.1.trans s2, b2, b3, b5.trans s5, ?_, ?_⟩, ?_, ?_, ?_, ?_, PRE_t z8 PRE_a⟩
        · show (V ++ [stand so un k (acc ++ [t])]).length + F.length ≤ bk L (q1 + 1)
          simp only [List.length_append, List.length_cons, List.length_nil]
          omega
        · show (N' ++ E).length ≤ bk L (q1 + 1)
          rw [List.length_append]; omega
        · show x1' + 1 ≤ bk L (q1 + 1)
          omega
        · show L.length + 1 ≤ bk L (q1 + 1) + m'
          omega
        · show j + 1 + 1 ≤ bk L (q1 + 1)
          omega
        · show L.length + 1 ≤ bk L (q1 + 1) + mm
          omega
      -- the two signs
      have c44 := fx_isSign_c (n := n) (c := 44) s1 (by omega)
      have c41 := fx_isSign_c (n := n) (c := 41) s1 (by omega)
      have e44n : nI 44 = (44 : Int32) := rfl
      have e41n : nI 41 = (41 : Int32) := rfl
      rw [e44n] at c44
      rw [e41n] at c41
      have ex : isb L q1 41 41 = true → isb L q1 44 44 = false := fun z => by
        cases y : isb L q1 44 44 with
        | false => rfl
        | true =>
          have a := (isb_one.mp z).2
          have b := (isb_one.mp y).2
          omega
      -- the body
      have body : lx_X1_closeAll_2 n ga (mm + 1) (nI j) rd' h' v' w' = jx_X1_closeAll_84 n ga (lx_X1_closeAll_2 n ga mm) (nI j) (nI k) (nI x) (nI least) (nI most) rd' h' v' w' := by
        show bx_X1_closeAll_2 n ga (lx_X1_closeAll_2 n ga mm) (nI j) rd' h' v' w' = _
        unfold bx_X1_closeAll_2
        have ck := fx_kindOf_c (n := n) he.1 hk
        have cp := fx_partsOf_c (n := n) he.1 hk
        have kl := he.2.2.2.1 k hk
        rw [if_neg (show ¬ (400 : Int32) ≤ nI j by rw [show (400 : Int32) = nI 400 from rfl, nI_le_iff (by decide) (by omega)]; omega), r2, if_neg (show ¬ nI (F.length + 1) ≤ 0 by rw [show (0 : Int32) = nI 0 from rfl, nI_le_iff (by omega) (by decide)]; omega), if_neg (show ¬ (400 : Int32) < nI (F.length + 1) by rw [show (400 : Int32) = nI 400 from rfl, nI_lt_iff (by decide) (by omega)]; omega)]
        rw [show nI (F.length + 1) - 1 = nI F.length by rw [show (1 : Int32) = nI 1 from rfl, nI_sub (by omega)]; rfl, xl_eq, xr_n (by omega) (by decide), f2', xl_eq, xr_n (by omega) (by decide), f3', xl_eq, r1, show nI (V.length + x) - nI V.length = nI x by rw [nI_sub (by omega)]; exact congrArg nI (by omega), cp, xb1_s, ck, xb1_s, el, em]
        by_cases z : so k = 2
        · rw [z, if_pos (by decide), if_pos rfl]; rfl
        · rw [if_neg (by rw [show (2 : Int32) = nI 2 from rfl, nI_inj (by omega) (by decide)]; exact z), if_neg z, el]
      rw [body]
      unfold jx_X1_closeAll_84
      have j113 : (¬ x < most ∨ isb L q1 44 44 = false) → ∀ o : PR, ((x < least ∨ isb L q1 41 41 = false) → ∃ e : Nat, o = (none, e, q1)) → ((least ≤ x ∧ isb L q1 41 41 = true) → o = (some (stand so un k (acc ++ [t])), q1 + 1, q1)) → ROUT n ga L las so o F V N (KCO n ga m' (nI x1') (jx_X1_closeAll_113 n ga (lx_X1_closeAll_2 n ga mm) (nI j) (nI k) (nI x) (nI least) (nI most) rd' h' v' w')) := fun _ o o1 o2 => by
        unfold jx_X1_closeAll_113
        by_cases y : x < least
        · obtain ⟨e, e1⟩ := o1 (Or.inl y)
          rw [if_pos (by rw [nI_lt_iff (by omega) (by omega)]; exact y), e1]
          exact bad e
        · rw [if_neg (by rw [nI_lt_iff (by omega) (by omega)]; exact y), c41, xb1_s]
          cases b : isb L q1 41 41 with
          | false =>
            obtain ⟨e, e1⟩ := o1 (Or.inr b)
            rw [if_pos (by decide), e1]
            exact bad e
          | true =>
            rw [if_neg (by decide), o2 ⟨by omega, b⟩]
            exact close (by omega) b
      by_cases hxm : x < most
      · rw [if_neg (show ¬ nI most ≤ nI x by rw [nI_le_iff (by omega) (by omega)]; omega), c44, xb1_s]
        cases b44 : isb L q1 44 44 with
        | true =>
          rw [if_neg (show ¬ (if true = true then (1 : Int32) else 0) = 0 by decide)]
          have b41 : isb L q1 41 41 = false := by
            cases y : isb L q1 41 41 with
            | false => rfl
            | true => have := ex y; rw [b44] at this; exact absurd this (by decide)
          have eo : (if x < least then (if x = most then ((none, p1, b1) : PR) else if (true : Bool) = true then plp so un L g k least most u (x + 1) (acc ++ [t]) (q1 + 1) else (none, q1, q1)) else if isb L q1 41 41 = true then (some (stand so un k (acc ++ [t])), q1 + 1, q1) else if x = most then (none, q1, q1) else if (true : Bool) = true then plp so un L g k least most u (x + 1) (acc ++ [t]) (q1 + 1) else (none, q1, q1)) = plp so un L g k least most u (x + 1) (acc ++ [t]) (q1 + 1) := by
            rw [b41]
            by_cases y : x < least
            · rw [if_pos y, if_neg (by omega), if_pos rfl]
            · rw [if_neg y, if_neg (by decide), if_neg (by omega), if_pos rfl]
          rw [eo]
          exact comma hxm b44
        | false =>
          rw [if_pos (show (if false = true then (1 : Int32) else 0) = 0 by decide)]
          refine j113 (Or.inr b44) _ (fun z => ?_) (fun z => ?_)
          · by_cases y : x < least
            · rw [if_pos y, if_neg (show ¬ x = most by omega), if_neg (show ¬ (false = true) by decide)]
              exact ⟨_, rfl⟩
            · rcases z with z | z
              · exact absurd z y
              · rw [if_neg y, z, if_neg (show ¬ (false = true) by decide), if_neg (show ¬ x = most by omega), if_neg (show ¬ (false = true) by decide)]
                exact ⟨_, rfl⟩
          · rw [if_neg (show ¬ x < least by omega), z.2, if_pos rfl]
      · rw [if_pos (show nI most ≤ nI x by rw [nI_le_iff (by omega) (by omega)]; omega)]
        have xm : x = most := by omega
        refine j113 (Or.inl hxm) _ (fun z => ?_) (fun z => ?_)
        · rcases z with z | z
          · omega
          · rw [if_neg (show ¬ x < least by omega), z, if_neg (show ¬ (false = true) by decide), if_pos xm]
            exact ⟨_, rfl⟩
        · rw [if_neg (show ¬ x < least by omega), z.2, if_pos rfl]
