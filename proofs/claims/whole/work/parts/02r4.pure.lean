/-! ===== a term is told; what is shown ===== -/
theorem mem_nth {Tm : List (List Nat)} {x : List Nat} (h : x ∈ Tm) : ∃ i : Nat, i < Tm.length ∧ nth Tm i = x := by
  obtain ⟨i, h1, h2⟩ := List.getElem_of_mem h
  refine ⟨i, h1, ?_⟩
  unfold nth
  rw [List.getD_eq_getElem?_getD, List.getElem?_eq_getElem h1]; exact h2
theorem nth_app1 {A B : List (List Nat)} {i : Nat} (h : i < A.length) : nth (A ++ B) i = nth A i := by
  unfold nth
  rw [List.getD_eq_getElem?_getD, List.getD_eq_getElem?_getD, List.getElem?_append_left h]
theorem nth_app2 {A : List (List Nat)} {x : List Nat} : nth (A ++ [x]) A.length = x := by
  unfold nth
  rw [List.getD_eq_getElem?_getD, List.getElem?_append_right (Nat.le_refl _), Nat.sub_self]; rfl
theorem KT_add {so : Nat → Nat} {un : Nat → Option Nat} {ma : Nat → Nat} {nv : Nat} {fk : Nat → Int32} {Tm : List (List Nat)} {x : List Nat} (h : KT so un ma nv fk Tm) (hx : tok so un ma nv x) (hn : x ∉ Tm) (hl : Tm.length < 30) : KT so un ma nv (put fk (21 * Tm.length) x) (Tm ++ [x]) := by
  have hxl := tok_len hx
  refine ⟨by rw [List.length_append, List.length_singleton]; omega, fun t ht => ?_, ?_, fun i hi => ?_⟩
  · rcases List.mem_append.mp ht with g | g
    · exact h.2.1 t g
    · rw [List.mem_singleton.mp g]; exact hx
  · refine List.nodup_append.mpr ⟨h.2.2.1, by simp, fun a ha b hb' e => ?_⟩
    rw [List.mem_singleton.mp hb'] at e
    rw [e] at ha; exact hn ha
  · rw [List.length_append, List.length_singleton] at hi
    by_cases q : i < Tm.length
    · obtain ⟨k1, k2, k3, k4⟩ := KT_get h q
      rw [nth_app1 q]
      exact la_put (Or.inl (by omega)) k2
    · have e : i = Tm.length := by omega
      rw [e, nth_app2]; exact put_la
theorem KR_put {so : Nat → Nat} {un : Nat → Option Nat} {fk : Nat → Int32} {R : RulL} {k : Nat} {x : List Nat} (h : KR so un fk R) (hk : k < 30) (hx : x.length ≤ 20) : KR so un (put fk (21 * k) x) R := by
  refine ⟨h.1, h.2.1, fun i hi => ⟨la_put (Or.inr (by omega)) (h.2.2 i hi).1, la_put (Or.inr (by omega)) (h.2.2 i hi).2⟩⟩
abbrev TRes := Option (Int32 × (Nat → Int32) × Int32 × (Nat → Int32) × Int32)
/-- what becomes of a term that is told -/
def TOLD (Tm : List (List Nat)) (fk : Nat → Int32) (T : Int32) (x : List Nat) (o : TRes) : Prop := ∃ fp' : Nat → Int32,
  (∃ j : Nat, j < Tm.length ∧ nth Tm j = x ∧ o = some (nI j, fp', T, fk, nI Tm.length)) ∨ (x ∉ Tm ∧ Tm.length = 30 ∧ o = some (-1, fp', T, fk, nI Tm.length)) ∨ (x ∉ Tm ∧ Tm.length < 30 ∧ o = some (nI Tm.length, fp', T, put fk (21 * Tm.length) x, nI (Tm.length + 1)))
theorem lx_told_ok {so : Nat → Nat} {un : Nat → Option Nat} {ma : Nat → Nat} {nv n T : Nat} {fk : Nat → Int32} {Tm : List (List Nat)} {x : List Nat} (hn : 100000 ≤ n) (h : KT so un ma nv fk Tm) (hx : tok so un ma nv x) (hT : x.length ≤ T) (hT2 : T ≤ 50000) :
    ∀ (d i m : Nat) (fp : Nat → Int32), i + d = Tm.length → (∀ j : Nat, j < i → nth Tm j ≠ x) → d + 1 < m → la fp 0 x → TOLD Tm fk (nI T) x (lx_told_7 n (nI 0) m (nI T) (nI i) fp (nI T) fk (nI Tm.length))
  | 0, i, m + 1, fp, hi, hj, hm, hl => by
    have hxl := tok_len hx
    have hk := h.1
    have hnot : x ∉ Tm := fun q => by
      obtain ⟨j, j1, j2⟩ := mem_nth q
      exact hj j (by omega) j2
    have e : lx_told_7 n (nI 0) (m + 1) (nI T) (nI i) fp (nI T) fk (nI Tm.length) = if nI Tm.length = (30 : Int32) then some (-1, fp, nI T, fk, nI Tm.length) else some (nI Tm.length, fp, nI T, put fk (21 * Tm.length) x, nI (Tm.length + 1)) := by
      show bx_told_7 n (nI 0) (lx_told_7 n (nI 0) m) (nI T) (nI i) fp (nI T) fk (nI Tm.length) = _
      unfold bx_told_7
      rw [if_pos (by rw [nI_le_iff (by omega) (by omega)]; omega)]
      by_cases q : Tm.length = 30
      · rw [if_pos (by rw [q]; rfl), if_pos (by rw [q]; rfl)]
      · rw [if_neg (by rw [show (30 : Int32) = nI 30 from rfl, nI_inj (by omega) (by decide)]; exact q), if_neg (by rw [show (30 : Int32) = nI 30 from rfl, nI_inj (by omega) (by decide)]; exact q)]
        unfold fx_rowOfTerm
        rw [xb1_s, fx_keeps_ok hl hx.1.1.1 hx.1.1.2.1 (by omega) (by omega) hn, xb1_s, xl_eq, nI_1, xl_eq, i1, nI_sub (by omega), show Tm.length + 1 - 1 = Tm.length by omega]
    rw [e]
    by_cases q : Tm.length = 30
    · rw [if_pos (by rw [q]; rfl)]
      exact ⟨fp, Or.inr (Or.inl ⟨hnot, q, rfl⟩)⟩
    · rw [if_neg (by rw [show (30 : Int32) = nI 30 from rfl, nI_inj (by omega) (by decide)]; exact q)]
      exact ⟨fp, Or.inr (Or.inr ⟨hnot, by omega, rfl⟩)⟩
  | d + 1, i, m + 1, fp, hi, hj, hm, hl => by
    have hxl := tok_len hx
    have hk := h.1
    obtain ⟨k1, k2, k3, k4⟩ := KT_get h (i := i) (by omega)
    have hl2 : la (put fp T (nth Tm i)) 0 x := la_put (Or.inl (by omega)) hl
    have hal := fx_areAlike_ok (n := n) (f := put fp T (nth Tm i)) (a := T) (b := 0) (l := nth Tm i) (r := x) put_la k1.1.1.1 k1.1.1.2.1 (by omega) hl2 hx.1.1.1 hx.1.1.2.1 (by omega) hn
    have st : lx_told_7 n (nI 0) (m + 1) (nI T) (nI i) fp (nI T) fk (nI Tm.length) = if nth Tm i = x then some (nI i, put fp T (nth Tm i), nI T, fk, nI Tm.length) else lx_told_7 n (nI 0) m (nI T) (nI (i + 1)) (put fp T (nth Tm i)) (nI T) fk (nI Tm.length) := by
      show bx_told_7 n (nI 0) (lx_told_7 n (nI 0) m) (nI T) (nI i) fp (nI T) fk (nI Tm.length) = _
      unfold bx_told_7
      rw [if_neg (by rw [nI_le_iff (by omega) (by omega)]; omega)]
      unfold fx_rowOfTerm
      rw [xb1_s, comes_term hn h (by omega) hT2, xb3_s, hal, xb1_s]
      by_cases q : nth Tm i = x
      · rw [if_pos q, if_pos q, if_neg (by decide)]
      · rw [if_neg q, if_neg q, if_pos rfl, xl_eq, nI_1]
    rw [st]
    by_cases q : nth Tm i = x
    · rw [if_pos q]
      exact ⟨_, Or.inl ⟨i, by omega, q, rfl⟩⟩
    · rw [if_neg q]
      exact lx_told_ok hn h hx hT hT2 d (i + 1) m _ (by omega) (fun j hj9 => by
        by_cases e : j = i
        · rw [e]; exact q
        · exact hj j (by omega)) (by omega) hl2
theorem fx_told_ok {so : Nat → Nat} {un : Nat → Option Nat} {ma : Nat → Nat} {nv n T : Nat} {fk fp : Nat → Int32} {Tm : List (List Nat)} {x : List Nat} (hn : 100000 ≤ n) (h : KT so un ma nv fk Tm) (hx : tok so un ma nv x) (hT : x.length ≤ T) (hT2 : T ≤ 50000) (hl : la fp 0 x) : TOLD Tm fk (nI T) x (fx_told n fp (nI T) fk (nI Tm.length) 0) := by
  have hk := h.1
  exact lx_told_ok hn h hx hT hT2 Tm.length 0 n fp (by omega) (fun j hj => absurd hj (Nat.not_lt_zero _)) (by omega) hl
/-- what is shown: nothing, or a term with its text -/
def SHW (so : Nat → Nat) (un : Nat → Option Nat) (ma : Nat → Nat) (nv : Nat) (nmL : Nat → List Nat) (sh : Option (List Nat)) (shr tx : Nat → Int32) (iss shn : Int32) : Prop := match sh with
  | none => iss = 0 ∧ shn = 0
  | some x => iss = 1 ∧ tok so un ma nv x ∧ la shr 0 x ∧ la tx 0 (txt nmL x) ∧ shn = nI (txt nmL x).length
theorem shows_SHW {n : Nat} {nm nmm fp shr tx : Nat → Int32} {so ma : Nat → Nat} {un : Nat → Option Nat} {nv a : Nat} {nmL : Nat → List Nat} {iss shn : Int32} {t : List Nat} (hn : 100000 ≤ n) (hnm : NMs so nv nm nmm nmL) (h5 : nv ≤ 5) (hl : la fp a t) (h : tok so un ma nv t) (ha : a + 21 ≤ 60000) :
    ∃ (shr' tx' : Nat → Int32), fx_shows n nm nmm fp shr tx iss shn (nI a) = some (nI (txt nmL t).length, shr', tx', 1, nI (txt nmL t).length) ∧ SHW so un ma nv nmL (some t) shr' tx' 1 (nI (txt nmL t).length) :=
  ⟨_, _, fx_shows_ok hn hnm h5 hl h.1.1 h.2.2 (tok_len h) ha, rfl, h, put_la, put_la, rfl⟩
theorem txt_len {so ma : Nat → Nat} {un : Nat → Option Nat} {nv : Nat} {nm nmm : Nat → Int32} {nmL : Nat → List Nat} {t : List Nat} (hnm : NMs so nv nm nmm nmL) (h5 : nv ≤ 5) (h : tok so un ma nv t) : (txt nmL t).length ≤ 160 := by
  have := spl_len (ma := ma) hnm h5 21 t h.1.1 h.2.2 (by have := tok_len h; omega)
  have := tok_len h
  unfold txt; omega
theorem fx_show_ok {n : Nat} {nm nmm fk fp shr tx : Nat → Int32} {so ma : Nat → Nat} {un : Nat → Option Nat} {nv : Nat} {nmL : Nat → List Nat} {th top tm iss shn p : Int32} {Tm : List (List Nat)} (hn : 100000 ≤ n) (hnm : NMs so nv nm nmm nmL) (h5 : nv ≤ 5) (h : KT so un ma nv fk Tm) :
    (∃ (i : Nat) (fp' : Nat → Int32) (top' tm' : Int32) (shr' tx' : Nat → Int32), i < Tm.length ∧ p = nI i ∧ fx_show n th nm nmm fp top fk (nI Tm.length) tm shr tx iss shn p = some (nI (txt nmL (nth Tm i)).length, 0, fp', top', tm', shr', tx', 1, nI (txt nmL (nth Tm i)).length) ∧ SHW so un ma nv nmL (some (nth Tm i)) shr' tx' 1 (nI (txt nmL (nth Tm i)).length)) ∨
    (¬ isn p Tm.length ∧ fx_show n th nm nmm fp top fk (nI Tm.length) tm shr tx iss shn p = some (0, 1, fp, top, tm, shr, tx, iss, shn)) := by
  have hl := h.1
  unfold fx_show
  rcases fx_noTerm_ok (n := n) (th := 0) (x := p) (k := Tm.length) (by omega) with ⟨h1, e1⟩ | ⟨h1, e1⟩
  · rw [e1, xb2_s, if_pos rfl]
    obtain ⟨i, i1, i2⟩ := isn_of (by omega) h1
    obtain ⟨a1, a2, a3, a4⟩ := KT_get h i1
    obtain ⟨shr', tx', s1, s2⟩ := shows_SHW (shr := shr) (tx := tx) (iss := iss) (shn := shn) (fp := put fp 0 (nth Tm i)) (a := 0) hn hnm h5 put_la a1 (by decide)
    rw [show nI 0 = (0 : Int32) from rfl] at s1
    rw [i2, fx_termAt_ok hn h i1, xb4_s, s1, xb5_s]
    exact Or.inl ⟨i, _, _, _, shr', tx', i1, rfl, rfl, s2⟩
  · rw [e1, xb2_s, if_neg (by decide)]
    exact Or.inr ⟨h1, rfl⟩
theorem fx_place_ok {n : Nat} {nm nmm fk fp shr tx : Nat → Int32} {so ma : Nat → Nat} {un : Nat → Option Nat} {nv : Nat} {nmL : Nat → List Nat} {th top tm iss shn p k : Int32} {Tm : List (List Nat)} (hn : 100000 ≤ n) (hnm : NMs so nv nm nmm nmL) (h5 : nv ≤ 5) (h : KT so un ma nv fk Tm) :
    ∃ (r th' : Int32) (fp' : Nat → Int32) (top' tm' : Int32) (shr' tx' : Nat → Int32) (iss' shn' : Int32), fx_place n th nm nmm fp top fk (nI Tm.length) tm shr tx iss shn p k = some (r, th', fp', top', tm', shr', tx', iss', shn') ∧
      ((∃ (i j : Nat), i < Tm.length ∧ p = nI i ∧ j < (nth Tm i).length ∧ k = nI j ∧ th' = 0 ∧ r = nI (txt nmL (sbt (nth Tm i) j)).length ∧ SHW so un ma nv nmL (some (sbt (nth Tm i) j)) shr' tx' iss' shn') ∨
       (∃ (i : Nat), i < Tm.length ∧ p = nI i ∧ ¬ isn k (nth Tm i).length ∧ th' = 2 ∧ r = 0 ∧ shr' = shr ∧ tx' = tx ∧ iss' = iss ∧ shn' = shn) ∨
       (¬ isn p Tm.length ∧ th' = 1 ∧ r = 0 ∧ shr' = shr ∧ tx' = tx ∧ iss' = iss ∧ shn' = shn)) := by
  have hl := h.1
  unfold fx_place
  rcases fx_noTerm_ok (n := n) (th := 0) (x := p) (k := Tm.length) (by omega) with ⟨h1, e1⟩ | ⟨h1, e1⟩
  · rw [e1, xb2_s, if_pos rfl]
    obtain ⟨i, i1, i2⟩ := isn_of (by omega) h1
    obtain ⟨a1, a2, a3, a4⟩ := KT_get h i1
    have hbh := fx_behind_ok (n := n) (f := put fp 0 (nth Tm i)) (a := 0) put_la a1.1.1.1 a1.1.1.2.1 (by omega) hn
    rw [Nat.zero_add] at hbh
    rw [show nI 0 = (0 : Int32) from rfl] at hbh
    rw [i2, fx_termAt_ok hn h i1, xb4_s, hbh, xb1_s, xl_eq]
    rcases in_isn (n := n) (x := k) (k := (nth Tm i).length) (by omega) with ⟨h2, e2⟩ | ⟨h2, e2⟩
    · obtain ⟨j, j1, j2⟩ := isn_of (by omega) h2
      obtain ⟨ns1, ns2, ns3, ns4⟩ := sbt_nok a1.1 j1
      obtain ⟨shr', tx', s1, s2⟩ := shows_SHW (shr := shr) (tx := tx) (iss := iss) (shn := shn) (fp := put fp 0 (nth Tm i)) (a := 0 + j) hn hnm h5 (ns4 _ _ put_la) (sbt_tok a1 j1) (by omega)
      have z0 : (0 : Int32) + nI j = nI (0 + j) := by rw [show (0 : Int32) = nI 0 from rfl, nI_add]
      rw [e2, xb1_s, if_neg (by decide), fx_throwsIf_0, xb2_s, if_pos rfl, xl_eq, j2, z0, s1, xb5_s]
      exact ⟨_, _, _, _, _, shr', tx', _, _, rfl, Or.inl ⟨i, j, i1, rfl, j1, rfl, rfl, rfl, s2⟩⟩
    · rw [e2, xb1_s, if_pos rfl, fx_throwsIf_1, xb2_s, if_neg (by decide)]
      exact ⟨_, _, _, _, _, _, _, _, _, rfl, Or.inr (Or.inl ⟨i, i1, rfl, h2, rfl, rfl, rfl, rfl, rfl, rfl⟩)⟩
  · rw [e1, xb2_s, if_neg (by decide)]
    exact ⟨_, _, _, _, _, _, _, _, _, rfl, Or.inr (Or.inr ⟨h1, rfl, rfl, rfl, rfl, rfl, rfl⟩)⟩
/-- rules, each side of a signature's codes -/
def KR2 (so : Nat → Nat) (un : Nat → Option Nat) (ma : Nat → Nat) (nv : Nat) (fk : Nat → Int32) (R : RulL) : Prop := KR so un fk R ∧ ∀ x ∈ R, tok so un ma nv x.1 ∧ tok so un ma nv x.2
def sid (R : RulL) (i : Nat) (right : Bool) : List Nat := if right then (rul R i).2 else (rul R i).1
theorem comes_side {so : Nat → Nat} {un : Nat → Option Nat} {ma : Nat → Nat} {nv n i : Nat} {right : Bool} {fk fp : Nat → Int32} {R : RulL} (hn : 100000 ≤ n) (h : KR2 so un ma nv fk R) (hi : i < R.length) : tok so un ma nv (sid R i right) ∧ ∃ r : Int32, fx_rowOfRule n (nI i) (ob right) = some r ∧ fx_comes n fp (nI 0) fk r = some (nI 0, put fp 0 (sid R i right), nI (sid R i right).length) := by
  have h8 := h.1.1
  obtain ⟨r1, r2⟩ := h.1.2.2 i hi
  obtain ⟨t1, t2⟩ := h.2 _ (rul_mem hi)
  cases right with
  | false =>
    refine ⟨t1, _, fx_rowOfRule_l (by omega), ?_⟩
    have := fx_comes_ok (n := n) (f := fp) (t := 0) r1 t1.1.1.1 t1.1.1.2.1 (by have := tok_len t1; omega) (by have := tok_len t1; omega) hn
    rw [Nat.zero_add] at this; exact this
  | true =>
    refine ⟨t2, _, fx_rowOfRule_r (by omega), ?_⟩
    have := fx_comes_ok (n := n) (f := fp) (t := 0) r2 t2.1.1.1 t2.1.1.2.1 (by have := tok_len t2; omega) (by have := tok_len t2; omega) hn
    rw [Nat.zero_add] at this; exact this
theorem fx_side_ok {n : Nat} {nm nmm fk fp shr tx : Nat → Int32} {so ma : Nat → Nat} {un : Nat → Option Nat} {nv : Nat} {nmL : Nat → List Nat} {th top iss shn p : Int32} {right : Bool} {R : RulL} (hn : 100000 ≤ n) (hnm : NMs so nv nm nmm nmL) (h5 : nv ≤ 5) (h : KR2 so un ma nv fk R) :
    (∃ (i : Nat) (fp' : Nat → Int32) (top' : Int32) (shr' tx' : Nat → Int32), i < R.length ∧ p = nI i ∧ fx_side n th nm nmm fp top fk (nI R.length) shr tx iss shn p (ob right) = some (nI (txt nmL (sid R i right)).length, 0, fp', top', shr', tx', 1, nI (txt nmL (sid R i right)).length) ∧ SHW so un ma nv nmL (some (sid R i right)) shr' tx' 1 (nI (txt nmL (sid R i right)).length)) ∨
    (¬ isn p R.length ∧ fx_side n th nm nmm fp top fk (nI R.length) shr tx iss shn p (ob right) = some (0, 1, fp, top, shr, tx, iss, shn)) := by
  have h8 := h.1.1
  unfold fx_side
  rcases fx_noRule_ok (n := n) (th := 0) (x := p) (k := R.length) (by omega) with ⟨h1, e1⟩ | ⟨h1, e1⟩
  · rw [e1, xb2_s, if_pos rfl]
    obtain ⟨i, i1, i2⟩ := isn_of (by omega) h1
    obtain ⟨c1, r, c2, c3⟩ := comes_side (right := right) (fp := fp) hn h i1
    obtain ⟨shr', tx', s1, s2⟩ := shows_SHW (shr := shr) (tx := tx) (iss := iss) (shn := shn) (fp := put fp 0 (sid R i right)) (a := 0) hn hnm h5 put_la c1 (by decide)
    rw [show nI 0 = (0 : Int32) from rfl] at s1 c3
    rw [i2, c2, xb1_s, c3, xb3_s, s1, xb5_s]
    exact Or.inl ⟨i, _, _, shr', tx', i1, rfl, rfl, s2⟩
  · rw [e1, xb2_s, if_neg (by decide)]
    exact Or.inr ⟨h1, rfl⟩
/-- a byte of what is shown -/
def octS (nmL : Nat → List Nat) (sh : Option (List Nat)) (k : Int32) : Int32 := match sh with
  | none => -1
  | some x => if isn k (txt nmL x).length then nI ((txt nmL x).getD k.toInt.toNat 0) else -1
theorem fx_octet_ok {n : Nat} {so ma : Nat → Nat} {un : Nat → Option Nat} {nv : Nat} {nm nmm : Nat → Int32} {nmL : Nat → List Nat} {sh : Option (List Nat)} {shr tx : Nat → Int32} {th iss shn k : Int32} (hnm : NMs so nv nm nmm nmL) (h5 : nv ≤ 5) (h : SHW so un ma nv nmL sh shr tx iss shn) :
    fx_octet n th tx shn k = some (octS nmL sh k, 0) := by
  unfold fx_octet
  cases sh with
  | none =>
    obtain ⟨_, h2⟩ := h
    have e : shn - 1 = nI 0 - 1 := by rw [h2]; rfl
    rw [xl_eq, e]
    rcases in_isn (n := n) (x := k) (k := 0) (by decide) with ⟨q, _⟩ | ⟨_, q⟩
    · have := q.1; have := q.2; omega
    · rw [q, xb1_s, if_pos rfl]; rfl
  | some x =>
    obtain ⟨_, h2, _, h4, h6⟩ := h
    have hl := txt_len hnm h5 h2
    show _ = some ((if isn k (txt nmL x).length then nI ((txt nmL x).getD k.toInt.toNat 0) else -1), (0 : Int32))
    rw [xl_eq, h6]
    rcases in_isn (n := n) (x := k) (k := (txt nmL x).length) (by omega) with ⟨q, q2⟩ | ⟨q, q2⟩
    · obtain ⟨i, i1, i2⟩ := isn_of (by omega) q
      have e : k.toInt.toNat = i := by rw [i2, nI_toInt (by omega)]; omega
      have e2 := la_get h4 i i1
      rw [Nat.zero_add] at e2
      rw [q2, xb1_s, if_neg (by decide), if_pos q, e, i2, xr_n (by omega) (by decide), e2, List.getD_eq_getElem?_getD, List.getElem?_eq_getElem i1]; rfl
    · rw [q2, xb1_s, if_pos rfl, if_neg q]
theorem lx_keep_36_ok {n : Nat} {shr kp : Nat → Int32} {iss th terms : Int32} : ∀ (l : List Nat) (k j m : Nat) (f : Nat → Int32), la shr j l → wf k l → col l → j + l.length ≤ 21 →
    lx_keep_36 n shr iss (l.length + m) (nI k) (nI j) th f (nI j) kp terms = lx_keep_36 n shr iss m (nI 0) (nI (j + l.length)) th (put f j l) (nI (j + l.length)) kp terms
  | [], k, j, m, f, _, hw, _, _ => by
    have e : k = 0 := hw
    subst e
    simp only [List.length_nil, Nat.zero_add, Nat.add_zero]; rfl
  | c :: l, 0, j, m, f, _, hw, _, _ => absurd hw.1 (Nat.lt_irrefl 0)
  | c :: l, k + 1, j, m, f, hl, hw, hc, hj => by
    simp only [List.length_cons] at hj
    have hcc := cok_lt (col_cons.mp hc).1
    have har := ar_lt (c := c)
    have ih := lx_keep_36_ok (n := n) (kp := kp) (iss := iss) (th := th) (terms := terms) l (k + ar c) (j + 1) m (upd f j (nI c)) hl.2 (by have := hw.2; rw [show k + 1 - 1 + ar c = k + ar c by omega] at this; exact this) (col_cons.mp hc).2 (by omega)
    rw [show (c :: l).length + m = (l.length + m) + 1 by simp only [List.length_cons]; omega]
    show bx_keep_36 n shr iss (lx_keep_36 n shr iss (l.length + m)) (nI (k + 1)) (nI j) th f (nI j) kp terms = _
    unfold bx_keep_36
    have hkl : k < 2147483647 := by
      have := wf_len hw
      simp only [List.length_cons] at this; omega
    rw [if_neg (by rw [show (0 : Int32) = nI 0 from rfl, nI_le_iff (by omega) (by decide)]; omega), xr_n (by omega) (by decide), hl.1, xw_n (by omega) (by decide), fx_partsAt_ok (upd_eq _ _ _) hcc (by omega), xb1_s, xl_eq, xl_eq, nI_bal, xl_eq, nI_1, xl_eq, ih]
    rw [show j + 1 + l.length = j + (c :: l).length by simp only [List.length_cons]; omega]; rfl
theorem fx_keep_ok {n : Nat} {so ma : Nat → Nat} {un : Nat → Option Nat} {nv : Nat} {nmL : Nat → List Nat} {sh : Option (List Nat)} {fk fp shr tx : Nat → Int32} {th top iss shn : Int32} {Tm : List (List Nat)} (hn : 100000 ≤ n) (h : KT so un ma nv fk Tm) (hs : SHW so un ma nv nmL sh shr tx iss shn) :
    ∃ (r th' : Int32) (fp' : Nat → Int32) (top' : Int32) (fk' : Nat → Int32) (terms' : Int32), fx_keep n th fp top fk (nI Tm.length) shr iss = some (r, th', fp', top', fk', terms') ∧
      ((sh = none ∧ r = 0 ∧ th' = 1 ∧ fk' = fk ∧ terms' = nI Tm.length) ∨
       (∃ x : List Nat, sh = some x ∧ ((∃ j : Nat, j < Tm.length ∧ nth Tm j = x ∧ r = nI j ∧ th' = 0 ∧ fk' = fk ∧ terms' = nI Tm.length) ∨ (x ∉ Tm ∧ Tm.length = 30 ∧ r = 0 ∧ th' = 1 ∧ fk' = fk ∧ terms' = nI Tm.length) ∨ (x ∉ Tm ∧ Tm.length < 30 ∧ r = nI Tm.length ∧ th' = 0 ∧ fk' = put fk (21 * Tm.length) x ∧ terms' = nI (Tm.length + 1))))) := by
  unfold fx_keep
  cases sh with
  | none =>
    obtain ⟨h1, _⟩ := hs
    rw [h1, if_pos rfl, fx_throwsIf_1, xb2_s, if_neg (by decide)]
    exact ⟨_, _, _, _, _, _, rfl, Or.inl ⟨rfl, rfl, rfl, rfl, rfl⟩⟩
  | some x =>
    obtain ⟨h1, h2, h3, _, _⟩ := hs
    have hxl := tok_len h2
    have hk := h.1
    rw [h1, if_neg (by decide), fx_throwsIf_0, xb2_s, if_pos rfl]
    obtain ⟨m, rfl⟩ : ∃ m, n = x.length + (m + 1) := ⟨n - x.length - 1, by omega⟩
    have lp := lx_keep_36_ok (n := x.length + (m + 1)) (kp := fk) (iss := 1) (th := 0) (terms := nI Tm.length) x 1 0 (m + 1) fp h3 h2.1.1.1 h2.1.1.2.1 (by omega)
    rw [Nat.zero_add] at lp
    rw [show (1 : Int32) = nI 1 from rfl, show (0 : Int32) = nI 0 from rfl]
    rw [show nI 1 = (1 : Int32) from rfl, show nI 0 = (0 : Int32) from rfl] at lp ⊢
    rw [lp]
    have td := fx_told_ok (n := x.length + (m + 1)) (fp := put fp 0 x) (T := x.length) hn h h2 (Nat.le_refl _) (by omega) put_la
    have e : lx_keep_36 (x.length + (m + 1)) shr 1 (m + 1) 0 (nI x.length) 0 (put fp 0 x) (nI x.length) fk (nI Tm.length) = (xb5 (fx_told (x.length + (m + 1)) (put fp 0 x) (nI x.length) fk (nI Tm.length) ((0 : Int32))) fun r_8 pool_9 top_10 kp_11 terms_12 => if r_8 = (-1 : Int32) then (xb2 (fx_throwsIf (x.length + (m + 1)) 0 ((1 : Int32)) ((1 : Int32))) fun r_30 th_31 => if r_30 = (0 : Int32) then (some (r_8, th_31, pool_9, top_10, kp_11, terms_12)) else (some ((0 : Int32), th_31, pool_9, top_10, kp_11, terms_12))) else (xb2 (fx_throwsIf (x.length + (m + 1)) 0 ((0 : Int32)) ((1 : Int32))) fun r_22 th_23 => if r_22 = (0 : Int32) then (some (r_8, th_23, pool_9, top_10, kp_11, terms_12)) else (some ((0 : Int32), th_23, pool_9, top_10, kp_11, terms_12)))) := by
      show bx_keep_36 (x.length + (m + 1)) shr 1 (lx_keep_36 (x.length + (m + 1)) shr 1 m) 0 (nI x.length) 0 (put fp 0 x) (nI x.length) fk (nI Tm.length) = _
      unfold bx_keep_36
      rw [if_pos (by decide)]
    rw [e]
    obtain ⟨fp', td⟩ := td
    rcases td with ⟨j, j1, j2, j3⟩ | ⟨j1, j2, j3⟩ | ⟨j1, j2, j3⟩
    · rw [j3, xb5_s, if_neg (nI_m1 (by omega)), fx_throwsIf_0, xb2_s, if_pos rfl]
      exact ⟨_, _, _, _, _, _, rfl, Or.inr ⟨x, rfl, Or.inl ⟨j, j1, j2, rfl, rfl, rfl, rfl⟩⟩⟩
    · rw [j3, xb5_s, if_pos rfl, fx_throwsIf_1, xb2_s, if_neg (by decide)]
      exact ⟨_, _, _, _, _, _, rfl, Or.inr ⟨x, rfl, Or.inr (Or.inl ⟨j1, j2, rfl, rfl, rfl, rfl⟩)⟩⟩
    · rw [j3, xb5_s, if_neg (nI_m1 (by omega)), fx_throwsIf_0, xb2_s, if_pos rfl]
      exact ⟨_, _, _, _, _, _, rfl, Or.inr ⟨x, rfl, Or.inr (Or.inr ⟨j1, j2, rfl, rfl, rfl, rfl⟩)⟩⟩
