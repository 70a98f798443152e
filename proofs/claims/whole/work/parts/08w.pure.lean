/-! ===== what the class answers of a term: its node, or that it is too great ===== -/
def VAL (N : List (List Nat)) (so : Nat → Nat) (r : Int32) (t : List Nat) : Prop := (great so t = true ∧ r = -1) ∨ (great so t = false ∧ ∃ i : Nat, i < N.length ∧ nth N i = t ∧ r = nI i)
theorem nth_pre {A B : List (List Nat)} {i : Nat} (h : i < A.length) : i < (A ++ B).length ∧ nth (A ++ B) i = nth A i := ⟨by rw [List.length_append]; omega, nth_app1 h⟩
theorem VAL_ext {N E : List (List Nat)} {so : Nat → Nat} {r : Int32} {t : List Nat} (h : VAL N so r t) : VAL (N ++ E) so r t := by
  rcases h with h | ⟨h, i, i1, i2, i3⟩
  · exact Or.inl h
  · exact Or.inr ⟨h, i, (nth_pre i1).1, by rw [(nth_pre i1).2]; exact i2, i3⟩
theorem no_big {so : Nat → Nat} {t : List Nat} (h : great so t = false) : t.length ≤ 20 ∧ ∀ c ∈ t, big1 so c = false := by
  refine ⟨great_len h, fun c hc => ?_⟩
  cases q : big1 so c with
  | false => rfl
  | true => rw [great_any hc q] at h; exact nomatch h
theorem not_great {so : Nat → Nat} {t : List Nat} (h : t.length ≤ 20) (h' : ∀ c ∈ t, big1 so c = false) : great so t = false := by
  unfold great
  rw [Bool.or_eq_false_iff]
  refine ⟨decide_eq_false (by omega), ?_⟩
  rw [List.any_eq_false]
  intro c hc
  rw [h' c hc]; decide
/-- what is laid on the line -/
def LST (v : Nat → Nat → Int32) (N : List (List Nat)) (so : Nat → Nat) (un : Nat → Option Nat) (op : Nat) (ts : List (List Nat)) : Prop :=
  ∃ ys : List (List Nat), LNs v N so un op ys ∧ (so op ≠ 0 → ys.Pairwise leL) ∧
    ((v 0 6 = 0 ∧ (∀ t ∈ ts, great so t = false) ∧ ys.Perm (flats so un op ts) ∧ (so op = 0 → ys = flats so un op ts)) ∨ (v 0 6 = 1 ∧ ((∃ t ∈ ts, great so t = true) ∨ 6 < (flats so un op ts).length)))
theorem flats_snoc {so : Nat → Nat} {un : Nat → Option Nat} {op : Nat} {t : List Nat} : ∀ {ts : List (List Nat)}, flats so un op (ts ++ [t]) = flats so un op ts ++ flat1 so un op t
  | [] => by
    show flat1 so un op t ++ [] = [] ++ flat1 so un op t
    rw [List.append_nil]; rfl
  | q :: ts => by
    show flat1 so un op q ++ flats so un op (ts ++ [t]) = flat1 so un op q ++ flats so un op ts ++ _
    rw [flats_snoc, List.append_assoc]
theorem begin_LST {n op no nv : Nat} {ga v : Nat → Nat → Int32} {so ma : Nat → Nat} {un : Nat → Option Nat} {nmL : Nat → List Nat} {N : List (List Nat)} (hg : SGC ga so ma un no nv nmL) (hsv : SV so un ma nv) (hso : ∀ q : Nat, q < no → so q ≠ 3) (hs2 : so op ≤ 3) (ho : op < no) :
    ∃ v' : Nat → Nat → Int32, fx_X8_begin n v ga (nI op) = some v' ∧ FRL v v' ∧ LST v' N so un op [] := by
  obtain ⟨v', y1, y2, y3, y4⟩ := fx_begin_c (n := n) (v := v) (N := N) hg hsv hso hs2 ho
  exact ⟨v', y1, y2, [], y3, fun _ => List.Pairwise.nil, Or.inl ⟨y4, fun t ht => absurd ht List.not_mem_nil, List.Perm.refl _, fun _ => rfl⟩⟩
theorem lay_LST {n op nv : Nat} {v : Nat → Nat → Int32} {w : Nat → Nat → Int64} {las : Nat → Bool} {N ts : List (List Nat)} {so ma : Nat → Nat} {un : Nat → Option Nat} {r : Int32} {t : List Nat} (hn : 100000 ≤ n) (hsv : SV so un ma nv) (h : TB v w las N) (ho : op < 10) (hso : so op < 10) (hl : LST v N so un op ts) (hv : VAL N so r t) :
    ∃ v' : Nat → Nat → Int32, fx_X8_lay n v r = some v' ∧ FRL v v' ∧ LST v' N so un op (ts ++ [t]) := by
  obtain ⟨ys, l1, l2, l3⟩ := hl
  rcases hv with ⟨g1, g2⟩ | ⟨g1, i, i1, i2, i3⟩
  · refine ⟨mu v 0 6 1, ?_, ⟨fun a a0 _ => mu_ne a0, by rw [mu_eq, upd_ne (by decide)], by rw [mu_eq, upd_ne (by decide)]⟩, ys, ⟨by rw [mu_eq, upd_ne (by decide)]; exact l1.1, l1.2.1, fun j hj => by rw [mu_ne (by decide)]; exact l1.2.2.1 j hj, by rw [mu_eq, upd_ne (by decide)]; exact l1.2.2.2.1, by rw [mu_eq, upd_ne (by decide)]; exact l1.2.2.2.2.1, by rw [mu_eq, upd_ne (by decide)]; exact l1.2.2.2.2.2⟩, l2, Or.inr ⟨by rw [mu_eq, upd_eq], Or.inl ⟨t, by simp, g1⟩⟩⟩
    unfold fx_X8_lay
    rw [g2, if_pos (by decide), xl_eq]
  · obtain ⟨v', y1, y2, y3⟩ := fx_lay_c (n := n) (no := 0) hn hsv h i1 ho hso l1 l2
    rw [i2] at y3
    rw [i3]
    refine ⟨v', y1, y2, ?_⟩
    rcases l3 with ⟨a1, a2, a3, a4⟩ | ⟨a1, a2⟩
    · have hlen := a3.length_eq
      rcases y3 with ⟨b1, b2, ys', b3, b4, b5, b6⟩ | ⟨b1, b2, ys', b3, b4⟩
      · refine ⟨ys', b3, b6, Or.inl ⟨b2.trans a1, fun q hq => ?_, ?_, fun z => ?_⟩⟩
        · rcases List.mem_append.mp hq with g | g
          · exact a2 q g
          · rw [List.mem_singleton.mp g]; exact g1
        · rw [flats_snoc]
          exact b4.trans (a3.append_right _)
        · rw [b5 z, a4 z, flats_snoc]
      · exact ⟨ys', b3, b4, Or.inr ⟨b2, Or.inr (by rw [flats_snoc, List.length_append]; omega)⟩⟩
    · have more : (∃ q ∈ ts ++ [t], great so q = true) ∨ 6 < (flats so un op (ts ++ [t])).length := by
        rcases a2 with ⟨q, q1, q2⟩ | q
        · exact Or.inl ⟨q, List.mem_append_left _ q1, q2⟩
        · exact Or.inr (by rw [flats_snoc, List.length_append]; omega)
      rcases y3 with ⟨b1, b2, ys', b3, b4, b5, b6⟩ | ⟨b1, b2, ys', b3, b4⟩
      · exact ⟨ys', b3, b6, Or.inr ⟨b2.trans a1, more⟩⟩
      · exact ⟨ys', b3, b4, Or.inr ⟨b2, more⟩⟩
/-- a class's answer: node or too great, over a table that may have grown by that node alone -/
def ANS (v : Nat → Nat → Int32) (las : Nat → Bool) (N : List (List Nat)) (so : Nat → Nat) (t : List Nat) (o : Option (Int32 × (Nat → Nat → Int32) × (Nat → Nat → Int64))) : Prop :=
  ∃ (r : Int32) (v' : Nat → Nat → Int32) (w' : Nat → Nat → Int64) (E : List (List Nat)), o = some (r, v', w') ∧ TB v' w' las (N ++ E) ∧ (E = [] ∨ (E = [t] ∧ great so t = false)) ∧ VAL (N ++ E) so r t ∧ TFr v v'
theorem intern_ANS {n c : Nat} {ga v : Nat → Nat → Int32} {w : Nat → Nat → Int64} {las : Nat → Bool} {N qs : List (List Nat)} {so : Nat → Nat} (hn : 100000 ≤ n) (hlb : LB ga las) (h : TB v w las N) (hN : N.length < 1024) (hq : LI v N qs) (hc : cck c) (hk : cok c) (har : ar c = qs.length) (h6 : qs.length ≤ 6) (hb9 : ∀ d ∈ c :: qs.flatten, big1 so d = false) :
    ANS v las N so (c :: qs.flatten) (fx_X8_intern n v w ga (nI (cc c)) (nI qs.length)) := by
  rcases fx_intern_c (n := n) hn hlb h hN hq hc hk har h6 with ⟨a, b⟩ | ⟨a, b⟩
  · exact ⟨-1, v, w, [], b, by rw [List.append_nil]; exact h, Or.inl rfl, Or.inl ⟨great_long a, rfl⟩, TFr.refl⟩
  · have ng := not_great a hb9
    rcases b with ⟨i, i1, i2, i3⟩ | ⟨b1, v', w', b2, b3, b4⟩
    · exact ⟨nI i, v, w, [], i3, by rw [List.append_nil]; exact h, Or.inl rfl, Or.inr ⟨ng, i, by rw [List.append_nil]; exact i1, by rw [List.append_nil]; exact i2, rfl⟩, TFr.refl⟩
    · exact ⟨nI N.length, v', w', [c :: qs.flatten], b2, b3, Or.inr ⟨rfl, ng⟩, Or.inr ⟨ng, N.length, by simp, nth_app2, rfl⟩, b4⟩
theorem close_ANS {n op no nv : Nat} {ga v : Nat → Nat → Int32} {w : Nat → Nat → Int64} {las : Nat → Bool} {N ts : List (List Nat)} {so ma : Nat → Nat} {un : Nat → Option Nat} {nmL : Nat → List Nat} (hn : 100000 ≤ n) (hlb : LB ga las) (hg : SGC ga so ma un no nv nmL) (hsv : SV so un ma nv) (h : TB v w las N) (hN : N.length < 1024) (ho : op < 10 ∧ so op ≠ 3) (hso : so op < 10) (hl : LST v N so un op ts) (hts : okts so ts) (h0 : so op = 2 → ts = [] → un op ≠ none) (h6 : so op ≠ 2 → ts.length ≤ 6) (hT : ts.flatten.length < 512) :
    ANS v las N so (stand so un op ts) (fx_X8_close n v w ga) := by
  have hsu := SV_SU hsv
  obtain ⟨ys, l1, l2, l3⟩ := hl
  have hfl := flats_len (so := so) (un := un) (op := op) (okts_wfs hts)
  unfold fx_X8_close
  rcases l3 with ⟨a1, a2, a3, a4⟩ | ⟨a1, a2⟩
  · have es : stys so un op ts = ys := by
      unfold stys
      by_cases z : so op = 0
      · rw [if_pos z, a4 z]
      · rw [if_neg z]
        exact (srt_of (wfs_perm (List.Perm.refl _) (okts_wfs (flats_okts hts))) a3 (l2 z)).symm
    have est : stand so un op ts = mkt so un op ys := by rw [stand_stys, es]
    have hcodes : ∀ q ∈ ys, ∀ d ∈ q, big1 so d = false := fun q hq d hd => by
      obtain ⟨t, t1, t2⟩ := flats_mem.mp (a3.mem_iff.mp hq)
      exact (no_big (a2 t t1)).2 d (flat1_codes (okts_wfs hts t t1) t2 hd)
    have hyl := l1.2.1
    have many : ∀ (o : Option (Int32 × (Nat → Nat → Int32) × (Nat → Nat → Int64))), o = fx_X8_intern n v w ga (nI (cc (cdo op ys.length))) (nI ys.length) → (so op = 2 → 2 ≤ ys.length) → ANS v las N so (stand so un op ts) o := fun o e hm2 => by
      rw [e, est, mkt_many hm2]
      refine intern_ANS hn hlb h hN l1.2.2.1 (cck_cdo ho.1 (by omega)) (cok_cdo ho.1 (by omega)) (ar_code (by omega)) hyl (fun d hd => ?_)
      rcases List.mem_cons.mp hd with g | g
      · rw [g]
        unfold big1
        have : ar (cdo op ys.length) = ys.length := ar_code (by omega)
        rw [this, decide_eq_false (show ¬ 6 < ys.length by omega), Bool.and_false]
      · obtain ⟨q, q1, q2⟩ := List.mem_flatten.mp g
        exact hcodes q q1 d q2
    have cf := fx_codeFor_c (n := n) (op := op) (k := ys.length) ho.1 (by omega)
    rw [a1, if_pos rfl, l1.2.2.2.2.1]
    by_cases q2 : so op = 2
    · rw [if_pos (by rw [q2]; rfl), l1.1]
      by_cases z1 : ys.length = 1
      · rw [if_pos (by rw [z1]; rfl)]
        obtain ⟨p, p1, p2, p3⟩ := l1.2.2.1 0 (by omega)
        obtain ⟨y, hy⟩ : ∃ y : List Nat, ys = [y] := List.length_eq_one_iff.mp z1
        have r0 := xr_n (α := Int32) (β := Int32 × (Nat → Nat → Int32) × (Nat → Nat → Int64)) (n := 6) (f := v 8) (i := 0) (k := fun y_39 => some (y_39, v, w)) (by decide) (by decide)
        have e0 : nI 0 = (0 : Int32) := rfl
        rw [e0] at r0
        rw [r0, p3, est, hy, mkt_one q2]
        have hyN : nth N p = y := by rw [p2, hy]; rfl
        refine ⟨nI p, v, w, [], rfl, by rw [List.append_nil]; exact h, Or.inl rfl, Or.inr ⟨not_great (by rw [← hyN]; exact (TB_get h p1).1.2.2.2.1) (hcodes y (by rw [hy]; simp)), p, by rw [List.append_nil]; exact p1, by rw [List.append_nil]; exact hyN, rfl⟩, TFr.refl⟩
      · rw [if_neg (by rw [show (1 : Int32) = nI 1 from rfl, nI_inj (by omega) (by decide)]; exact z1)]
        unfold jx_X8_close_32
        rw [l1.2.2.2.2.1, if_pos (by rw [q2]; rfl), l1.1, l1.2.2.2.2.2, if_pos q2]
        by_cases z0 : ys.length = 0
        · have hy : ys = [] := List.length_eq_zero_iff.mp z0
          rw [if_pos (by rw [z0]; rfl)]
          cases hu : un op with
          | none =>
            exfalso
            by_cases e : ts = []
            · exact h0 q2 e hu
            · have hf : flats so un op ts = [] := List.length_eq_zero_iff.mp (by rw [← a3.length_eq]; exact z0)
              exact flats_ne hts e hf hu
          | some u =>
            obtain ⟨u1, u2, u3⟩ := (hsv.2.2.2 op u hu).2
            have cu := cc_lt (cck_cdo u1 (show 0 < 8 by decide))
            show ANS v las N so _ (if (0 : Int32) ≤ nI (cc (cdo u 0)) then _ else _)
            rw [if_pos (by rw [show (0 : Int32) = nI 0 from rfl, nI_le_iff (by decide) (by omega)]; omega), est, hy, mkt_nil q2 hu]
            have an := intern_ANS (n := n) (qs := []) (so := so) hn hlb h hN (fun j hj => absurd hj (Nat.not_lt_zero _)) (cck_cdo u1 (show 0 < 8 by decide)) (cok_cdo u1 (by decide)) (ar_code (by decide)) (by decide) (fun d hd => by
              rcases List.mem_cons.mp hd with g | g
              · rw [g]; unfold big1
                rw [ar_code (by decide), decide_eq_false (show ¬ 6 < 0 by decide), Bool.and_false]
              · exact absurd g List.not_mem_nil)
            have an' : ANS v las N so [cdo u 0] (fx_X8_intern n v w ga (nI (cc (cdo u 0))) 0) := an
            obtain ⟨r, v', w', E, e1, e2⟩ := an'
            have e1' : fx_X8_intern n v w ga (ucI (some u)) 0 = some (r, v', w') := e1
            rw [e1', xb3_s]
            exact ⟨r, v', w', E, rfl, e2⟩
        · rw [if_neg (by rw [show (0 : Int32) = nI 0 from rfl, nI_inj (by omega) (by decide)]; exact z0), l1.2.2.2.1, cf, xb1_s]
          refine many _ ?_ (fun _ => by omega)
          cases fx_X8_intern n v w ga (nI (cc (cdo op ys.length))) (nI ys.length) with
          | none => rfl
          | some o => rfl
    · rw [if_neg (by rw [show (2 : Int32) = nI 2 from rfl, nI_inj (by omega) (by decide)]; exact q2)]
      unfold jx_X8_close_32
      rw [l1.2.2.2.2.1, if_neg (by rw [show (2 : Int32) = nI 2 from rfl, nI_inj (by omega) (by decide)]; exact q2), l1.2.2.2.1, l1.1, cf, xb1_s]
      refine many _ ?_ (fun z => absurd z q2)
      cases fx_X8_intern n v w ga (nI (cc (cdo op ys.length))) (nI ys.length) with
      | none => rfl
      | some o => rfl
  · rw [a1, if_neg (by decide)]
    refine ⟨-1, v, w, [], rfl, by rw [List.append_nil]; exact h, Or.inl rfl, Or.inl ⟨?_, rfl⟩, TFr.refl⟩
    rcases a2 with ⟨t, t1, t2⟩ | q
    · exact great_stand hsu ho hts t1 hT t2
    · have q2 : so op = 2 := by
        apply Classical.byContradiction
        intro z
        rw [flats_n2 z] at q
        have := h6 z
        omega
      rw [stand_stys]
      have hl9 : (stys so un op ts).length = (flats so un op ts).length := (stys_perm).length_eq
      have hll := (flats_len (so := so) (un := un) (op := op) (okts_wfs hts)).1
      rw [mkt_many (fun _ => by omega)]
      refine great_any (c := cdo op (stys so un op ts).length) List.mem_cons_self ?_
      unfold big1
      have : (cdo op (stys so un op ts).length) / 512 - 1 = op := by unfold cdo; omega
      rw [this, ar_code (by omega), decide_eq_true q2, decide_eq_true (show 6 < (stys so un op ts).length by omega), decide_eq_true (show 512 ≤ cdo op (stys so un op ts).length by unfold cdo; omega)]
      rfl
