/-! ===== reach: what is reached by so many steps, and what of it is normal ===== -/
/-- what the lower methods write -/
abbrev WS := (Nat → Int32) × Int32 × (Nat → Int32) × (Nat → Int32) × (Nat → Int32) × (Nat → Int32) × (Nat → Int32) × Int32 × Int32 × Int32 × (Nat → Int32) × Int32 × (Nat → Int32) × (Nat → Int32) × (Nat → Int32) × Int32
abbrev WS.fp (s : WS) : Nat → Int32 := s.1
abbrev WS.top (s : WS) : Int32 := s.2.1
abbrev WS.fsp (s : WS) : Nat → Int32 := s.2.2.1
abbrev WS.fgp (s : WS) : Nat → Int32 := s.2.2.2.1
abbrev WS.fgt (s : WS) : Nat → Int32 := s.2.2.2.2.1
abbrev WS.fb (s : WS) : Nat → Int32 := s.2.2.2.2.2.1
abbrev WS.fw (s : WS) : Nat → Int32 := s.2.2.2.2.2.2.1
abbrev WS.wt (s : WS) : Int32 := s.2.2.2.2.2.2.2.1
abbrev WS.fm (s : WS) : Int32 := s.2.2.2.2.2.2.2.2.1
abbrev WS.pv (s : WS) : Int32 := s.2.2.2.2.2.2.2.2.2.1
abbrev WS.ff (s : WS) : Nat → Int32 := s.2.2.2.2.2.2.2.2.2.2.1
abbrev WS.tm (s : WS) : Int32 := s.2.2.2.2.2.2.2.2.2.2.2.1
abbrev WS.fpl (s : WS) : Nat → Int32 := s.2.2.2.2.2.2.2.2.2.2.2.2.1
abbrev WS.fru (s : WS) : Nat → Int32 := s.2.2.2.2.2.2.2.2.2.2.2.2.2.1
abbrev WS.fr (s : WS) : Nat → Int32 := s.2.2.2.2.2.2.2.2.2.2.2.2.2.2.1
abbrev WS.M (s : WS) : Int32 := s.2.2.2.2.2.2.2.2.2.2.2.2.2.2.2
theorem TMr_mono {so : Nat → Nat} {un : Nat → Option Nat} {R : RulL} {on : Int32} {t : List Nat} {i j : Nat} (h : i ≤ j) (ht : TMr so un R on t i) : TMr so un R on t j := by
  rcases ht with ⟨k, w, h1, h2, h3⟩ | h1
  · exact Or.inl ⟨k, w, by omega, h2, h3⟩
  · exact Or.inr (TM50_mono (fun x hx => rch_mono h hx) h1)
theorem gre_ok {n : Nat} {fs fu fk fre frm frd : Nat → Int32} {so ma : Nat → Nat} {un : Nat → Option Nat} {nv l j dn : Nat} {on : Int32} {R : RulL} {t : List Nat} {Q : List (List Nat)} (s : WS) (hn : 100000 ≤ n) (hsg : SG fs fu so un) (hsv : SV so un ma nv) (hR : KR2 so un ma nv fk R) (hl : l < 2) (h : LV so un ma nv R (ron on R.length) t j fre frm frd l Q dn) (htm : s.tm = 0) :
    ∃ (s' : WS) (fre' frm' frd' : Nat → Int32), fx_goesReach n fs fu s.fp s.top s.fsp fk (nI R.length) on s.fgp s.fgt s.fb s.fw s.wt s.fm s.pv s.ff s.tm s.fpl s.fru s.fr s.M fre frm frd (nI l) = some (s'.fp, s'.top, s'.fsp, s'.fgp, s'.fgt, s'.fb, s'.fw, s'.wt, s'.fm, s'.pv, s'.ff, s'.tm, s'.fpl, s'.fru, s'.fr, s'.M, fre', frm', frd') ∧ RQo fre frm fre' frm' l ∧ (∀ o : Nat, o ≠ l → o < 2 → frd' o = frd o) ∧
      ((s'.tm = 0 ∧ ∃ Q' : List (List Nat), LV so un ma nv R (ron on R.length) t (j + 1) fre' frm' frd' l Q' Q.length) ∨ (s'.tm = 1 ∧ TMr so un R (ron on R.length) t (j + 1))) := by
  obtain ⟨fp', top', fsp', fgp', fgt', fb', fw', wt', fm', pv', ff', tm', fpl', fru', fr', M', fre', frm', frd', h1, h2, h3, h4⟩ := fx_goesReach_ok (top := s.top) (fp := s.fp) (fsp := s.fsp) (fgp := s.fgp) (fgt := s.fgt) (fb := s.fb) (fw := s.fw) (ff := s.ff) (fpl := s.fpl) (fru := s.fru) (fr := s.fr) (wt := s.wt) (fm := s.fm) (pv := s.pv) (M := s.M) (on := on) hn hsg hsv hR hl h
  exact ⟨⟨fp', top', fsp', fgp', fgt', fb', fw', wt', fm', pv', ff', tm', fpl', fru', fr', M'⟩, fre', frm', frd', by rw [htm]; exact h1, h2, h3, h4⟩
theorem lst_ok {n : Nat} {fs fu fk f : Nat → Int32} {so ma : Nat → Nat} {un : Nat → Option Nat} {nv : Nat} {on : Int32} {R : RulL} {w : List Nat} (s : WS) (hn : 100000 ≤ n) (hsg : SG fs fu so un) (hsv : SV so un ma nv) (hR : KR2 so un ma nv fk R) (hw : tok so un ma nv w) (hf : la f 0 w) (htm : s.tm = 0) :
    ∃ s' : WS, fx_laysSteps n fs fu f (nI w.length) s.fsp fk (nI R.length) s.fgp s.fgt s.fb s.fw s.wt s.fm s.pv s.ff s.tm s.fpl s.fru s.fr s.M (nI 0) on 0 = some (s'.fp, s'.top, s'.fsp, s'.fgp, s'.fgt, s'.fb, s'.fw, s'.wt, s'.fm, s'.pv, s'.ff, s'.tm, s'.fpl, s'.fru, s'.fr, s'.M) ∧
      ((s'.tm = 0 ∧ ∃ S : List StpE, StL so un R on w.length w S ∧ SL s'.fpl s'.fru s'.fr S ∧ s'.M = nI S.length) ∨ (s'.tm = 1 ∧ TMs so un R on w.length w)) := by
  have hwl := tok_len hw
  obtain ⟨f1, sp1, gp1, gt1, b1, w1, wt1, fm1, pv1, ff1, tm1, pl1, ru1, fr1, M1, g1, g2, g3⟩ := fx_laysSteps_ok (fsp := s.fsp) (fgp := s.fgp) (fgt := s.fgt) (fb := s.fb) (fw := s.fw) (ff := s.ff) (fpl := s.fpl) (fru := s.fru) (fr := s.fr) (wt := s.wt) (fm := s.fm) (pv := s.pv) (M := s.M) (on := on) (top := false) (T := w.length) (wa := 0) hn hsg (SV_SU hsv) hw.1 hw.2.1 (by omega) hR.1 (by omega) hf
  have g3' : LSO so un R on w.length w tm1 pl1 ru1 fr1 M1 := g3
  have e8 : ob false = (0 : Int32) := rfl
  rw [e8] at g1
  refine ⟨⟨f1, nI w.length, sp1, gp1, gt1, b1, w1, wt1, fm1, pv1, ff1, tm1, pl1, ru1, fr1, M1⟩, by rw [htm]; exact g1, ?_⟩
  rcases g3' with ⟨t0, t1, S, s1, s2, s3, s4, s5, s6⟩ | ⟨t0, t1⟩
  · exact Or.inl ⟨t0, S, ⟨s1, s2, s3, s6, t1⟩, s4, s5⟩
  · exact Or.inr ⟨t0, t1⟩
theorem brg_ok {n : Nat} {fk fp fre frm frd : Nat → Int32} {so ma : Nat → Nat} {un : Nat → Option Nat} {nv l i : Nat} {on top tm : Int32} {R : RulL} {Tm : List (List Nat)} (hn : 100000 ≤ n) (h : KT so un ma nv fk Tm) (hl : l < 2) (hi : i < Tm.length) :
    ∃ fre' frm' frd' : Nat → Int32, fx_beginsReach n fp top fk tm fre frm frd (nI l) (nI i) = some (put fp 0 (nth Tm i), nI (nth Tm i).length, 0, fre', frm', frd') ∧ LV so un ma nv R on (nth Tm i) 0 fre' frm' frd' l [nth Tm i] 0 ∧ RQo fre frm fre' frm' l ∧ ∀ o : Nat, o ≠ l → o < 2 → frd' o = frd o := by
  obtain ⟨k1, k2, k3, k4⟩ := KT_get h hi
  have h0 : RQ so un ma nv fre (upd frm l 0) l [] := ⟨by simp, fun t ht => absurd ht List.not_mem_nil, List.nodup_nil, upd_eq _ _ _, fun i hi => absurd hi (Nat.not_lt_zero _)⟩
  obtain ⟨tm', fre', frm', a1, a2, a3⟩ := fx_addsReach_ok (tm := 0) (fp := put fp 0 (nth Tm i)) (a := 0) hn hl h0 k1 put_la (by decide)
  have e0 : nI 0 = (0 : Int32) := rfl
  rw [e0] at a1
  unfold fx_beginsReach
  rw [fx_termAt_ok hn h hi, xb4_s, xw_n hl (by decide), xw_n hl (by decide), a1, xb3_s]
  rcases a3 with ⟨q1, _⟩ | ⟨_, _, q3, q4⟩ | ⟨_, q2, _⟩
  · exact absurd q1 List.not_mem_nil
  · rw [List.nil_append] at q4
    rw [q3]
    refine ⟨_, _, _, rfl, ⟨q4, fun x => ?_, by simp, upd_eq _ _ _, fun j hj => absurd hj (Nat.not_lt_zero _), fun j w hj _ => absurd hj (Nat.not_lt_zero _)⟩, ⟨fun o h1 h2 => (a2.1 o h1 h2).trans (upd_ne h1), a2.2⟩, fun o h1 _ => upd_ne h1⟩
    rw [List.mem_singleton]; exact Iff.rfl
  · exact absurd q2 (by simp)
theorem lx41_stop {n m : Nat} {fs fu fk fre frm frd : Nat → Int32} {rules on p0 p1 p2 p3 th : Int32} {s : WS} {N : Int64} (htm : s.tm = 1) : ∃ N' : Int64, lx_laysReach_41 n fs fu fk rules on p0 p1 p2 p3 (m + 1) 0 th s.fp s.top s.fsp s.fgp s.fgt s.fb s.fw s.wt s.fm s.pv s.ff s.tm s.fpl s.fru s.fr s.M fre frm frd N = some (0, p3, s.fp, s.top, s.fsp, s.fgp, s.fgt, s.fb, s.fw, s.wt, s.fm, s.pv, s.ff, s.tm, s.fpl, s.fru, s.fr, s.M, fre, frm, frd, N') := by
  have e0 : lx_laysReach_41 n fs fu fk rules on p0 p1 p2 p3 (m + 1) 0 th s.fp s.top s.fsp s.fgp s.fgt s.fb s.fw s.wt s.fm s.pv s.ff s.tm s.fpl s.fru s.fr s.M fre frm frd N = jx_laysReach_110 n fs fu fk rules on p0 p1 p2 p3 0 th s.fp s.top s.fsp s.fgp s.fgt s.fb s.fw s.wt s.fm s.pv s.ff s.tm s.fpl s.fru s.fr s.M fre frm frd N := by
    show bx_laysReach_41 n fs fu fk rules on p0 p1 p2 p3 (lx_laysReach_41 n fs fu fk rules on p0 p1 p2 p3 m) 0 th s.fp s.top s.fsp s.fgp s.fgt s.fb s.fw s.wt s.fm s.pv s.ff s.tm s.fpl s.fru s.fr s.M fre frm frd N = _
    unfold bx_laysReach_41
    rw [show (0 : Int32) = nI 0 from rfl, xr_n (by decide) (by decide)]
    by_cases z : frm 0 ≤ nI 0
    · rw [if_pos z]
    · rw [if_neg z]
      by_cases y : p2 = nI 0
      · rw [if_pos y]
      · rw [if_neg y, if_neg (by rw [htm]; decide)]
  rw [e0]
  unfold jx_laysReach_110
  rw [fx_tooMuch_ok (Or.inr htm), htm]
  by_cases y : p2 = 0
  · rw [if_pos y, xb2_s, if_neg (by decide), if_neg (by decide)]
    exact ⟨_, rfl⟩
  · rw [if_neg y, xb2_s, if_neg (by decide), if_neg (by decide)]
    exact ⟨_, rfl⟩
theorem jx110_ok {n : Nat} {fs fu fk fre frm frd : Nat → Int32} {rules on p0 p1 p2 p3 th x5 : Int32} {s : WS} {N : Int64} (htm : s.tm = 0) : jx_laysReach_110 n fs fu fk rules on p0 p1 p2 p3 x5 th s.fp s.top s.fsp s.fgp s.fgt s.fb s.fw s.wt s.fm s.pv s.ff s.tm s.fpl s.fru s.fr s.M fre frm frd N = some (1, th, s.fp, s.top, s.fsp, s.fgp, s.fgt, s.fb, s.fw, s.wt, s.fm, s.pv, s.ff, s.tm, s.fpl, s.fru, s.fr, s.M, fre, frm, frd, if p2 = 0 then -1 else N) := by
  unfold jx_laysReach_110
  rw [fx_tooMuch_ok (Or.inl htm), htm]
  by_cases y : p2 = 0
  · rw [if_pos y, xb2_s, if_pos rfl, if_pos rfl, if_pos y]
  · rw [if_neg y, xb2_s, if_pos rfl, if_pos rfl, if_neg y]
theorem jx110_stop {n : Nat} {fs fu fk fre frm frd : Nat → Int32} {rules on p0 p1 p2 p3 th x5 : Int32} {s : WS} {N : Int64} (htm : s.tm = 1) : ∃ N' : Int64, jx_laysReach_110 n fs fu fk rules on p0 p1 p2 p3 x5 th s.fp s.top s.fsp s.fgp s.fgt s.fb s.fw s.wt s.fm s.pv s.ff s.tm s.fpl s.fru s.fr s.M fre frm frd N = some (0, p3, s.fp, s.top, s.fsp, s.fgp, s.fgt, s.fb, s.fw, s.wt, s.fm, s.pv, s.ff, s.tm, s.fpl, s.fru, s.fr, s.M, fre, frm, frd, N') := by
  unfold jx_laysReach_110
  rw [fx_tooMuch_ok (Or.inr htm), htm]
  by_cases y : p2 = 0
  · rw [if_pos y, xb2_s, if_neg (by decide), if_neg (by decide)]
    exact ⟨_, rfl⟩
  · rw [if_neg y, xb2_s, if_neg (by decide), if_neg (by decide)]
    exact ⟨_, rfl⟩
/-- no step goes from it -/
def nrm (so : Nat → Nat) (un : Nat → Option Nat) (R : RulL) (on : Int32) (w : List Nat) : Prop := ∀ y : List Nat, ¬ stp so un R on w y
theorem lx41_ok {n : Nat} {fs fu fk fre frm frd : Nat → Int32} {so ma : Nat → Nat} {un : Nat → Option Nat} {nv : Nat} {on p0 p1 p2 p3 th : Int32} {R : RulL} {Q : List (List Nat)} (hn : 100000 ≤ n) (hsg : SG fs fu so un) (hsv : SV so un ma nv) (hR : KR2 so un ma nv fk R) (hQ : RQ so un ma nv fre frm 0 Q) (hp : p2 ≠ 0) :
    ∀ (d k m : Nat) (s : WS) (N : Int64), k + d = Q.length → d < m → s.tm = 0 → (∀ i : Nat, i < k → (bt64 N i = true ↔ nrm so un R (ron on R.length) (nth Q i))) → (∀ i : Nat, k ≤ i → i < 64 → bt64 N i = false) →
      ∃ (r th' : Int32) (s' : WS) (N' : Int64), lx_laysReach_41 n fs fu fk (nI R.length) on p0 p1 p2 p3 m (nI k) th s.fp s.top s.fsp s.fgp s.fgt s.fb s.fw s.wt s.fm s.pv s.ff s.tm s.fpl s.fru s.fr s.M fre frm frd N = some (r, th', s'.fp, s'.top, s'.fsp, s'.fgp, s'.fgt, s'.fb, s'.fw, s'.wt, s'.fm, s'.pv, s'.ff, s'.tm, s'.fpl, s'.fru, s'.fr, s'.M, fre, frm, frd, N') ∧
        ((r = 1 ∧ th' = th ∧ (∀ i : Nat, k ≤ i → i < Q.length → ¬ TMs so un R (ron on R.length) (nth Q i).length (nth Q i)) ∧ ∀ i : Nat, i < Q.length → (bt64 N' i = true ↔ nrm so un R (ron on R.length) (nth Q i))) ∨
         (r = 0 ∧ th' = p3 ∧ ∃ i : Nat, i < Q.length ∧ TMs so un R (ron on R.length) (nth Q i).length (nth Q i))) := by
  intro d
  induction d with
  | zero =>
    intro k m s N hk hm htm h1 h2
    cases m with
    | zero => omega
    | succ m =>
      have hk' : k = Q.length := by omega
      refine ⟨1, th, s, N, ?_, Or.inl ⟨rfl, rfl, fun i h3 h4 => by omega, fun i hi => h1 i (by omega)⟩⟩
      show bx_laysReach_41 n fs fu fk (nI R.length) on p0 p1 p2 p3 (lx_laysReach_41 n fs fu fk (nI R.length) on p0 p1 p2 p3 m) (nI k) th s.fp s.top s.fsp s.fgp s.fgt s.fb s.fw s.wt s.fm s.pv s.ff s.tm s.fpl s.fru s.fr s.M fre frm frd N = _
      unfold bx_laysReach_41
      have hx : ∀ (k9 : Int32 → Option (Int32 × Int32 × (Nat → Int32) × Int32 × (Nat → Int32) × (Nat → Int32) × (Nat → Int32) × (Nat → Int32) × (Nat → Int32) × Int32 × Int32 × Int32 × (Nat → Int32) × Int32 × (Nat → Int32) × (Nat → Int32) × (Nat → Int32) × Int32 × (Nat → Int32) × (Nat → Int32) × (Nat → Int32) × Int64)), xr 2 frm 0 k9 = k9 (frm 0) := fun k9 => by
        have := xr_n (f := frm) (i := 0) (n := 2) (k := k9) (by decide) (by decide)
        exact this
      rw [hx, hQ.2.2.2.1, hk', if_pos (Int32.le_refl _), jx110_ok htm, if_neg hp]
  | succ d ih =>
    intro k m s N hk hm htm h1 h2
    cases m with
    | zero => omega
    | succ m =>
      obtain ⟨k1, k2, k3, k4⟩ := RQ_get hQ (show k < Q.length by omega)
      have hQ50 := hQ.1
      have rc := reachComes_ok (fp := s.fp) (top := 0) hn (show 0 < 2 by decide) hQ (show k < Q.length by omega) (by decide)
      rw [Nat.zero_add] at rc
      obtain ⟨s1, g1, g2⟩ := lst_ok (on := ron on R.length) (f := put s.fp 0 (nth Q k)) s hn hsg hsv hR k1 put_la htm
      have hx : ∀ (k9 : Int32 → Option (Int32 × Int32 × (Nat → Int32) × Int32 × (Nat → Int32) × (Nat → Int32) × (Nat → Int32) × (Nat → Int32) × (Nat → Int32) × Int32 × Int32 × Int32 × (Nat → Int32) × Int32 × (Nat → Int32) × (Nat → Int32) × (Nat → Int32) × Int32 × (Nat → Int32) × (Nat → Int32) × (Nat → Int32) × Int64)), xr 2 frm 0 k9 = k9 (frm 0) := fun k9 => by
        have := xr_n (f := frm) (i := 0) (n := 2) (k := k9) (by decide) (by decide)
        exact this
      have st : lx_laysReach_41 n fs fu fk (nI R.length) on p0 p1 p2 p3 (m + 1) (nI k) th s.fp s.top s.fsp s.fgp s.fgt s.fb s.fw s.wt s.fm s.pv s.ff s.tm s.fpl s.fru s.fr s.M fre frm frd N = if s1.M = 0 then lx_laysReach_41 n fs fu fk (nI R.length) on p0 p1 p2 p3 m (nI (k + 1)) th s1.fp s1.top s1.fsp s1.fgp s1.fgt s1.fb s1.fw s1.wt s1.fm s1.pv s1.ff s1.tm s1.fpl s1.fru s1.fr s1.M fre frm frd (N ||| ((1 : Int64) <<< ((nI k).toInt64 &&& 63))) else lx_laysReach_41 n fs fu fk (nI R.length) on p0 p1 p2 p3 m (nI (k + 1)) th s1.fp s1.top s1.fsp s1.fgp s1.fgt s1.fb s1.fw s1.wt s1.fm s1.pv s1.ff s1.tm s1.fpl s1.fru s1.fr s1.M fre frm frd N := by
        show bx_laysReach_41 n fs fu fk (nI R.length) on p0 p1 p2 p3 (lx_laysReach_41 n fs fu fk (nI R.length) on p0 p1 p2 p3 m) (nI k) th s.fp s.top s.fsp s.fgp s.fgt s.fb s.fw s.wt s.fm s.pv s.ff s.tm s.fpl s.fru s.fr s.M fre frm frd N = _
        unfold bx_laysReach_41
        have e0 : nI 0 = (0 : Int32) := rfl
        rw [e0] at rc g1
        rw [hx, hQ.2.2.2.1, if_neg (by rw [nI_le_iff (by omega) (by omega)]; omega), if_neg hp, if_pos htm, rc, xb3_s, fx_rulesOn_ok, xb1_s, g1, xb16_s]
        simp only [xl_eq, nI_1]
      rw [st]
      rcases g2 with ⟨t0, S, t1, t2, t3⟩ | ⟨t0, t1⟩
      · have hS2 := t1.2.2.1
        have hnr : S = [] ↔ nrm so un R (ron on R.length) (nth Q k) := by
          constructor
          · intro e y hy
            obtain ⟨s9, h3, _⟩ := hy
            have := (t1.2.2.2.1 s9).mpr h3
            rw [e] at this; exact List.not_mem_nil this
          · intro h
            cases S with
            | nil => rfl
            | cons s9 S9 => exact absurd ⟨s9, (t1.2.2.2.1 s9).mp (List.mem_cons_self ..), rfl⟩ (h s9.2.2)
        have hN : ∀ (N1 : Int64), (∀ i : Nat, i < k → (bt64 N1 i = true ↔ nrm so un R (ron on R.length) (nth Q i))) → (bt64 N1 k = true ↔ nrm so un R (ron on R.length) (nth Q k)) → (∀ i : Nat, k + 1 ≤ i → i < 64 → bt64 N1 i = false) →
          ∃ (r th' : Int32) (s' : WS) (N' : Int64), lx_laysReach_41 n fs fu fk (nI R.length) on p0 p1 p2 p3 m (nI (k + 1)) th s1.fp s1.top s1.fsp s1.fgp s1.fgt s1.fb s1.fw s1.wt s1.fm s1.pv s1.ff s1.tm s1.fpl s1.fru s1.fr s1.M fre frm frd N1 = some (r, th', s'.fp, s'.top, s'.fsp, s'.fgp, s'.fgt, s'.fb, s'.fw, s'.wt, s'.fm, s'.pv, s'.ff, s'.tm, s'.fpl, s'.fru, s'.fr, s'.M, fre, frm, frd, N') ∧
          ((r = 1 ∧ th' = th ∧ (∀ i : Nat, k ≤ i → i < Q.length → ¬ TMs so un R (ron on R.length) (nth Q i).length (nth Q i)) ∧ ∀ i : Nat, i < Q.length → (bt64 N' i = true ↔ nrm so un R (ron on R.length) (nth Q i))) ∨
           (r = 0 ∧ th' = p3 ∧ ∃ i : Nat, i < Q.length ∧ TMs so un R (ron on R.length) (nth Q i).length (nth Q i))) := fun N1 n1 n2 n3 => by
          obtain ⟨r, th', s', N', z1, z2⟩ := ih (k + 1) m s1 N1 (by omega) (by omega) t0 (fun i hi => by
            by_cases e : i = k
            · rw [e]; exact n2
            · exact n1 i (by omega)) n3
          refine ⟨r, th', s', N', z1, ?_⟩
          rcases z2 with ⟨y1, y2, y3, y4⟩ | y
          · refine Or.inl ⟨y1, y2, fun i h3 h4 => ?_, y4⟩
            by_cases e : i = k
            · rw [e]; exact t1.2.2.2.2
            · exact y3 i (by omega) h4
          · exact Or.inr y
        by_cases hM : s1.M = 0
        · have hS0 : S = [] := by
            rw [t3, show (0 : Int32) = nI 0 from rfl, nI_inj (by omega) (by decide)] at hM
            exact List.length_eq_zero_iff.mp hM
          rw [if_pos hM]
          refine hN _ (fun i hi => ?_) ?_ (fun i h3 h4 => ?_)
          · rw [or64 (by omega) (by omega), decide_eq_false (show ¬ i = k by omega), Bool.or_false]; exact h1 i hi
          · rw [or64 (by omega) (by omega), decide_eq_true rfl, Bool.or_true]
            exact ⟨fun _ => hnr.mp hS0, fun _ => rfl⟩
          · rw [or64 (by omega) (by omega), decide_eq_false (show ¬ i = k by omega), Bool.or_false]; exact h2 i (by omega) h4
        · rw [if_neg hM]
          refine hN _ h1 ?_ (fun i h3 h4 => h2 i (by omega) h4)
          rw [h2 k (Nat.le_refl _) (by omega)]
          refine ⟨fun q => absurd q (by decide), fun q => ?_⟩
          rw [hnr.mpr q] at t3
          exact absurd t3 hM
      · obtain ⟨m', rfl⟩ : ∃ m', m = m' + 1 := ⟨m - 1, by omega⟩
        have stop : ∀ N1 : Int64, ∃ N' : Int64, lx_laysReach_41 n fs fu fk (nI R.length) on p0 p1 p2 p3 (m' + 1) (nI (k + 1)) th s1.fp s1.top s1.fsp s1.fgp s1.fgt s1.fb s1.fw s1.wt s1.fm s1.pv s1.ff s1.tm s1.fpl s1.fru s1.fr s1.M fre frm frd N1 = some (0, p3, s1.fp, s1.top, s1.fsp, s1.fgp, s1.fgt, s1.fb, s1.fw, s1.wt, s1.fm, s1.pv, s1.ff, s1.tm, s1.fpl, s1.fru, s1.fr, s1.M, fre, frm, frd, N') := fun N1 => by
          have e0 : lx_laysReach_41 n fs fu fk (nI R.length) on p0 p1 p2 p3 (m' + 1) (nI (k + 1)) th s1.fp s1.top s1.fsp s1.fgp s1.fgt s1.fb s1.fw s1.wt s1.fm s1.pv s1.ff s1.tm s1.fpl s1.fru s1.fr s1.M fre frm frd N1 = jx_laysReach_110 n fs fu fk (nI R.length) on p0 p1 p2 p3 (nI (k + 1)) th s1.fp s1.top s1.fsp s1.fgp s1.fgt s1.fb s1.fw s1.wt s1.fm s1.pv s1.ff s1.tm s1.fpl s1.fru s1.fr s1.M fre frm frd N1 := by
            show bx_laysReach_41 n fs fu fk (nI R.length) on p0 p1 p2 p3 (lx_laysReach_41 n fs fu fk (nI R.length) on p0 p1 p2 p3 m') (nI (k + 1)) th s1.fp s1.top s1.fsp s1.fgp s1.fgt s1.fb s1.fw s1.wt s1.fm s1.pv s1.ff s1.tm s1.fpl s1.fru s1.fr s1.M fre frm frd N1 = _
            unfold bx_laysReach_41
            rw [hx, if_neg hp, if_neg (show ¬ s1.tm = 0 by rw [t0]; decide)]
            by_cases z : frm 0 ≤ nI (k + 1)
            · rw [if_pos z]
            · rw [if_neg z]
          rw [e0]
          exact jx110_stop t0
        by_cases hM : s1.M = 0
        · rw [if_pos hM]
          obtain ⟨N', z⟩ := stop (N ||| ((1 : Int64) <<< ((nI k).toInt64 &&& 63)))
          exact ⟨0, p3, s1, N', z, Or.inr ⟨rfl, rfl, k, by omega, t1⟩⟩
        · rw [if_neg hM]
          obtain ⟨N', z⟩ := stop N
          exact ⟨0, p3, s1, N', z, Or.inr ⟨rfl, rfl, k, by omega, t1⟩⟩
