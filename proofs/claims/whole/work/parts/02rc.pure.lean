/-! ===== reach, reached ===== -/
theorem xr_0 {β : Type} {f : Nat → Int32} {k : Int32 → Option β} : xr 2 f 0 k = k (f 0) := xr_n (f := f) (i := 0) (n := 2) (k := k) (by decide) (by decide)
theorem xr_1 {β : Type} {f : Nat → Int32} {k : Int32 → Option β} : xr 2 f 1 k = k (f 1) := xr_n (f := f) (i := 1) (n := 2) (k := k) (by decide) (by decide)
/-- what is laid when so many steps have been gone; the bits of those that are counted -/
def RCS (so : Nat → Nat) (un : Nat → Option Nat) (ma : Nat → Nat) (nv : Nat) (R : RulL) (on : Int32) (t : List Nat) (j : Nat) (p2 r th' th code : Int32) (fre frm : Nat → Int32) (N : Int64) : Prop :=
  (r = 1 ∧ th' = th ∧ ∃ Q : List (List Nat), RQ so un ma nv fre frm 0 Q ∧ (∀ x : List Nat, x ∈ Q ↔ rch so un R on t j x) ∧ ¬ TMr so un R on t j ∧ (p2 ≠ 0 → ∀ w : List Nat, rch so un R on t j w → ¬ TMs so un R on w.length w) ∧ ∀ i : Nat, i < Q.length → (bt64 N i = true ↔ (p2 ≠ 0 → nrm so un R on (nth Q i)))) ∨
  (r = 0 ∧ th' = code ∧ (TMr so un R on t j ∨ (p2 ≠ 0 ∧ ∃ w : List Nat, rch so un R on t j w ∧ TMs so un R on w.length w)))
theorem lx9_ok {n : Nat} {fs fu fk : Nat → Int32} {so ma : Nat → Nat} {un : Nat → Option Nat} {nv j : Nat} {on p0 p2 p3 th : Int32} {R : RulL} {t : List Nat} {N0 : Int64} (hn : 100000 ≤ n) (hsg : SG fs fu so un) (hsv : SV so un ma nv) (hR : KR2 so un ma nv fk R) (hj : j < 1000) :
    ∀ (d k m : Nat) (s : WS) (fre frm frd : Nat → Int32) (Q : List (List Nat)) (dn : Nat), k + d = j → d < m → s.tm = 0 → LV so un ma nv R (ron on R.length) t k fre frm frd 0 Q dn →
      ∃ (s' : WS) (fre' frm' frd' : Nat → Int32), lx_laysReach_9 n fs fu fk (nI R.length) on p0 (nI j) p2 p3 m (nI k) th s.fp s.top s.fsp s.fgp s.fgt s.fb s.fw s.wt s.fm s.pv s.ff s.tm s.fpl s.fru s.fr s.M fre frm frd N0 = lx_laysReach_41 n fs fu fk (nI R.length) on p0 (nI j) p2 p3 n 0 th s'.fp s'.top s'.fsp s'.fgp s'.fgt s'.fb s'.fw s'.wt s'.fm s'.pv s'.ff s'.tm s'.fpl s'.fru s'.fr s'.M fre' frm' frd' 0 ∧
        ((s'.tm = 0 ∧ ∃ (Q' : List (List Nat)) (dn' : Nat), LV so un ma nv R (ron on R.length) t j fre' frm' frd' 0 Q' dn') ∨ (s'.tm = 1 ∧ TMr so un R (ron on R.length) t j)) := by
  intro d
  induction d with
  | zero =>
    intro k m s fre frm frd Q dn hk hm htm h
    cases m with
    | zero => omega
    | succ m =>
      have e : k = j := by omega
      subst e
      refine ⟨s, fre, frm, frd, ?_, Or.inl ⟨htm, Q, dn, h⟩⟩
      show bx_laysReach_9 n fs fu fk (nI R.length) on p0 (nI k) p2 p3 (lx_laysReach_9 n fs fu fk (nI R.length) on p0 (nI k) p2 p3 m) (nI k) th s.fp s.top s.fsp s.fgp s.fgt s.fb s.fw s.wt s.fm s.pv s.ff s.tm s.fpl s.fru s.fr s.M fre frm frd N0 = _
      unfold bx_laysReach_9
      rw [if_pos (Int32.le_refl _)]
  | succ d ih =>
    intro k m s fre frm frd Q dn hk hm htm h
    cases m with
    | zero => omega
    | succ m =>
      obtain ⟨s1, fre1, frm1, frd1, g1, g2, g3, g4⟩ := gre_ok s hn hsg hsv hR (show 0 < 2 by decide) h htm
      have st : lx_laysReach_9 n fs fu fk (nI R.length) on p0 (nI j) p2 p3 (m + 1) (nI k) th s.fp s.top s.fsp s.fgp s.fgt s.fb s.fw s.wt s.fm s.pv s.ff s.tm s.fpl s.fru s.fr s.M fre frm frd N0 = lx_laysReach_9 n fs fu fk (nI R.length) on p0 (nI j) p2 p3 m (nI (k + 1)) th s1.fp s1.top s1.fsp s1.fgp s1.fgt s1.fb s1.fw s1.wt s1.fm s1.pv s1.ff s1.tm s1.fpl s1.fru s1.fr s1.M fre1 frm1 frd1 N0 := by
        show bx_laysReach_9 n fs fu fk (nI R.length) on p0 (nI j) p2 p3 (lx_laysReach_9 n fs fu fk (nI R.length) on p0 (nI j) p2 p3 m) (nI k) th s.fp s.top s.fsp s.fgp s.fgt s.fb s.fw s.wt s.fm s.pv s.ff s.tm s.fpl s.fru s.fr s.M fre frm frd N0 = _
        unfold bx_laysReach_9
        have e0 : nI 0 = (0 : Int32) := rfl
        rw [e0] at g1
        rw [if_neg (by rw [nI_le_iff (by omega) (by omega)]; omega), if_pos htm, g1, xb19_s]
        simp only [xl_eq, nI_1]
      rw [st]
      rcases g4 with ⟨t0, Q', t1⟩ | ⟨t0, t1⟩
      · exact ih (k + 1) m s1 fre1 frm1 frd1 Q' Q.length (by omega) (by omega) t0 t1
      · obtain ⟨m', rfl⟩ : ∃ m', m = m' + 1 := ⟨m - 1, by omega⟩
        refine ⟨s1, fre1, frm1, frd1, ?_, Or.inr ⟨t0, TMr_mono (by omega) t1⟩⟩
        show bx_laysReach_9 n fs fu fk (nI R.length) on p0 (nI j) p2 p3 (lx_laysReach_9 n fs fu fk (nI R.length) on p0 (nI j) p2 p3 m') (nI (k + 1)) th s1.fp s1.top s1.fsp s1.fgp s1.fgt s1.fb s1.fw s1.wt s1.fm s1.pv s1.ff s1.tm s1.fpl s1.fru s1.fr s1.M fre1 frm1 frd1 N0 = _
        unfold bx_laysReach_9
        by_cases z : nI j ≤ nI (k + 1)
        · rw [if_pos z]
        · rw [if_neg z, if_neg (show ¬ s1.tm = 0 by rw [t0]; decide)]
theorem lrc_ok {n : Nat} {fs fu fk fre frm frd : Nat → Int32} {so ma : Nat → Nat} {un : Nat → Option Nat} {nv i j : Nat} {on p2 code th : Int32} {R : RulL} {Tm : List (List Nat)} {N0 : Int64} (s : WS) (hn : 100000 ≤ n) (hsg : SG fs fu so un) (hsv : SV so un ma nv) (h : KT so un ma nv fk Tm) (hR : KR2 so un ma nv fk R) (hi : i < Tm.length) (hj : j < 1000) :
    ∃ (r th' : Int32) (s' : WS) (fre' frm' frd' : Nat → Int32) (N' : Int64), fx_laysReach n th fs fu s.fp s.top s.fsp fk (nI R.length) on s.fgp s.fgt s.fb s.fw s.wt s.fm s.pv s.ff s.tm s.fpl s.fru s.fr s.M fre frm frd N0 (nI i) (nI j) p2 code = some (r, th', s'.fp, s'.top, s'.fsp, s'.fgp, s'.fgt, s'.fb, s'.fw, s'.wt, s'.fm, s'.pv, s'.ff, s'.tm, s'.fpl, s'.fru, s'.fr, s'.M, fre', frm', frd', N') ∧ RCS so un ma nv R (ron on R.length) (nth Tm i) j p2 r th' th code fre' frm' N' := by
  obtain ⟨fre1, frm1, frd1, b1, b2, b3, b4⟩ := brg_ok (R := R) (on := ron on R.length) (fp := s.fp) (fre := fre) (frm := frm) (frd := frd) (top := s.top) (tm := s.tm) hn h (show 0 < 2 by decide) hi
  obtain ⟨s2, fre2, frm2, frd2, g1, g2⟩ := lx9_ok (p0 := nI i) (p2 := p2) (p3 := code) (th := th) (N0 := N0) (on := on) hn hsg hsv hR hj j 0 n (put s.fp 0 (nth Tm i), nI (nth Tm i).length, s.fsp, s.fgp, s.fgt, s.fb, s.fw, s.wt, s.fm, s.pv, s.ff, 0, s.fpl, s.fru, s.fr, s.M) fre1 frm1 frd1 [nth Tm i] 0 (by omega) (by omega) rfl b2
  have e0 : nI 0 = (0 : Int32) := rfl
  have st : fx_laysReach n th fs fu s.fp s.top s.fsp fk (nI R.length) on s.fgp s.fgt s.fb s.fw s.wt s.fm s.pv s.ff s.tm s.fpl s.fru s.fr s.M fre frm frd N0 (nI i) (nI j) p2 code = lx_laysReach_41 n fs fu fk (nI R.length) on (nI i) (nI j) p2 code n 0 th s2.fp s2.top s2.fsp s2.fgp s2.fgt s2.fb s2.fw s2.wt s2.fm s2.pv s2.ff s2.tm s2.fpl s2.fru s2.fr s2.M fre2 frm2 frd2 0 := by
    rw [← g1]
    rw [e0] at b1
    unfold fx_laysReach
    rw [b1, xb6_s]
    rfl
  rw [st]
  obtain ⟨n', hn'⟩ : ∃ n', n = n' + 1 := ⟨n - 1, by omega⟩
  rcases g2 with ⟨t0, Q, dn, t1⟩ | ⟨t0, t1⟩
  · have nt := LV_not t1
    have rq := t1.1
    have rqm := t1.2.1
    by_cases hp : p2 = 0
    · have e1 : ∀ n9 : Nat, lx_laysReach_41 n fs fu fk (nI R.length) on (nI i) (nI j) p2 code (n9 + 1) 0 th s2.fp s2.top s2.fsp s2.fgp s2.fgt s2.fb s2.fw s2.wt s2.fm s2.pv s2.ff s2.tm s2.fpl s2.fru s2.fr s2.M fre2 frm2 frd2 0 = some (1, th, s2.fp, s2.top, s2.fsp, s2.fgp, s2.fgt, s2.fb, s2.fw, s2.wt, s2.fm, s2.pv, s2.ff, s2.tm, s2.fpl, s2.fru, s2.fr, s2.M, fre2, frm2, frd2, -1) := fun n9 => by
        show bx_laysReach_41 n fs fu fk (nI R.length) on (nI i) (nI j) p2 code (lx_laysReach_41 n fs fu fk (nI R.length) on (nI i) (nI j) p2 code n9) 0 th s2.fp s2.top s2.fsp s2.fgp s2.fgt s2.fb s2.fw s2.wt s2.fm s2.pv s2.ff s2.tm s2.fpl s2.fru s2.fr s2.M fre2 frm2 frd2 0 = _
        unfold bx_laysReach_41
        rw [xr_0]
        by_cases z : frm2 0 ≤ 0
        · rw [if_pos z, jx110_ok t0, if_pos hp]
        · rw [if_neg z, if_pos hp, jx110_ok t0, if_pos hp]
      have e2 := e1 n'
      rw [← hn'] at e2
      refine ⟨_, _, s2, _, _, _, _, e2, Or.inl ⟨rfl, rfl, Q, rq, rqm, nt, fun q => absurd hp q, fun i9 hi9 => ?_⟩⟩
      have := rq.1
      exact ⟨fun _ q => absurd hp q, fun _ => bt64_m1 ⟨i9, by omega⟩⟩
    · obtain ⟨r, th', s', N', z1, z2⟩ := lx41_ok (p0 := nI i) (p1 := nI j) (p2 := p2) (p3 := code) (th := th) (on := on) (frd := frd2) hn hsg hsv hR rq hp Q.length 0 n s2 0 (by omega) (by have := rq.1; omega) t0 (fun i9 hi9 => absurd hi9 (Nat.not_lt_zero _)) (fun i9 _ _ => bt64_0)
      rw [e0] at z1
      refine ⟨r, th', s', fre2, frm2, frd2, N', z1, ?_⟩
      rcases z2 with ⟨y1, y2, y3, y4⟩ | ⟨y1, y2, i9, y3, y4⟩
      · refine Or.inl ⟨y1, y2, Q, rq, rqm, nt, fun _ w hw => ?_, fun i9 hi9 => (y4 i9 hi9).trans ⟨fun q _ => q, fun q => q hp⟩⟩
        obtain ⟨i9, i1, i2⟩ := mem_nth ((rqm w).mpr hw)
        rw [← i2]; exact y3 i9 (Nat.zero_le _) i1
      · exact Or.inr ⟨y1, y2, Or.inr ⟨hp, _, (rqm _).mp (nth_mem y3), y4⟩⟩
  · obtain ⟨N', z⟩ := lx41_stop (n := n) (m := n') (fs := fs) (fu := fu) (fk := fk) (fre := fre2) (frm := frm2) (frd := frd2) (rules := nI R.length) (on := on) (p0 := nI i) (p1 := nI j) (p2 := p2) (p3 := code) (th := th) (N := 0) t0
    rw [← hn'] at z
    exact ⟨_, _, s2, _, _, _, _, z, Or.inr ⟨rfl, rfl, Or.inl t1⟩⟩
/-! the counted ones -/
def pick (N : Int64) : Nat → List (List Nat) → List (List Nat)
  | _, [] => []
  | k, q :: Q => if bt64 N k then q :: pick N (k + 1) Q else pick N (k + 1) Q
theorem pick_0 {N : Int64} {k : Nat} : pick N k [] = [] := rfl
theorem pick_t {N : Int64} {k : Nat} {q : List Nat} {Q : List (List Nat)} (h : bt64 N k = true) : pick N k (q :: Q) = q :: pick N (k + 1) Q := by
  show (if bt64 N k then _ else _) = _
  rw [if_pos h]
theorem pick_f {N : Int64} {k : Nat} {q : List Nat} {Q : List (List Nat)} (h : bt64 N k = false) : pick N k (q :: Q) = pick N (k + 1) Q := by
  show (if bt64 N k then _ else _) = _
  rw [if_neg (by rw [h]; decide)]
theorem pick_sub {N : Int64} : ∀ {Q : List (List Nat)} {k : Nat}, (pick N k Q).Sublist Q
  | [], _ => List.Sublist.refl _
  | q :: Q, k => by
    cases h : bt64 N k with
    | true => rw [pick_t h]; exact pick_sub.cons_cons q
    | false => rw [pick_f h]; exact pick_sub.cons q
theorem pick_mem {N : Int64} {x : List Nat} : ∀ {Q : List (List Nat)} {k : Nat}, x ∈ pick N k Q ↔ ∃ i : Nat, i < Q.length ∧ bt64 N (k + i) = true ∧ nth Q i = x
  | [], k => by
    rw [pick_0]
    exact ⟨fun h => absurd h List.not_mem_nil, fun ⟨i, h, _⟩ => absurd h (Nat.not_lt_zero _)⟩
  | q :: Q, k => by
    have ih := pick_mem (N := N) (x := x) (Q := Q) (k := k + 1)
    have up : (∃ i : Nat, i < Q.length ∧ bt64 N (k + 1 + i) = true ∧ nth Q i = x) → ∃ i : Nat, i < (q :: Q).length ∧ bt64 N (k + i) = true ∧ nth (q :: Q) i = x := fun ⟨i, h1, h2, h3⟩ => ⟨i + 1, by simp only [List.length_cons]; omega, by rw [show k + (i + 1) = k + 1 + i by omega]; exact h2, h3⟩
    cases h : bt64 N k with
    | true =>
      rw [pick_t h, List.mem_cons]
      constructor
      · rintro (e | e)
        · exact ⟨0, by simp, h, e.symm⟩
        · exact up (ih.mp e)
      · rintro ⟨i, h1, h2, h3⟩
        cases i with
        | zero => exact Or.inl h3.symm
        | succ i => exact Or.inr (ih.mpr ⟨i, by simp only [List.length_cons] at h1; omega, by rw [show k + 1 + i = k + (i + 1) by omega]; exact h2, h3⟩)
    | false =>
      rw [pick_f h]
      constructor
      · intro e; exact up (ih.mp e)
      · rintro ⟨i, h1, h2, h3⟩
        cases i with
        | zero => rw [Nat.add_zero, h] at h2; exact absurd h2 (by decide)
        | succ i => exact ih.mpr ⟨i, by simp only [List.length_cons] at h1; omega, by rw [show k + 1 + i = k + (i + 1) by omega]; exact h2, h3⟩
theorem lx_reach_41_ok {n : Nat} {fs fu fk fre frm frd : Nat → Int32} {terms rules on p0 p1 p2 th : Int32} {N : Int64} {s : WS} {c0 : Nat} (hc0 : c0 ≤ 50) (hm0 : frm 0 = nI c0) : ∀ (Q : List (List Nat)) (k c m : Nat), k + Q.length = c0 → Q.length < m →
    lx_reach_41 n fs fu fk terms rules on p0 p1 p2 m (nI c) (nI k) th s.fp s.top s.fsp s.fgp s.fgt s.fb s.fw s.wt s.fm s.pv s.ff s.tm s.fpl s.fru s.fr s.M fre frm frd N = some (nI (c + (pick N k Q).length), th, s.fp, s.top, s.fsp, s.fgp, s.fgt, s.fb, s.fw, s.wt, s.fm, s.pv, s.ff, s.tm, s.fpl, s.fru, s.fr, s.M, fre, frm, frd, N)
  | [], k, c, m + 1, hk, hm => by
    simp only [List.length_nil] at hk
    show bx_reach_41 n fs fu fk terms rules on p0 p1 p2 (lx_reach_41 n fs fu fk terms rules on p0 p1 p2 m) (nI c) (nI k) th s.fp s.top s.fsp s.fgp s.fgt s.fb s.fw s.wt s.fm s.pv s.ff s.tm s.fpl s.fru s.fr s.M fre frm frd N = _
    unfold bx_reach_41
    rw [xr_0, hm0, if_pos (by rw [nI_le_iff (by omega) (by omega)]; omega)]; rfl
  | q :: Q, k, c, m + 1, hk, hm => by
    simp only [List.length_cons] at hk hm
    show bx_reach_41 n fs fu fk terms rules on p0 p1 p2 (lx_reach_41 n fs fu fk terms rules on p0 p1 p2 m) (nI c) (nI k) th s.fp s.top s.fsp s.fgp s.fgt s.fb s.fw s.wt s.fm s.pv s.ff s.tm s.fpl s.fru s.fr s.M fre frm frd N = _
    unfold bx_reach_41
    rw [xr_0, hm0, if_neg (by rw [nI_le_iff (by omega) (by omega)]; omega), fx_isCounted_ok (by omega), xb1_s]
    cases h : bt64 N k with
    | true =>
      rw [if_pos rfl, if_neg (by decide), xl_eq, xl_eq, nI_1, nI_1, pick_t h, lx_reach_41_ok hc0 hm0 Q (k + 1) (c + 1) m (by omega) (by omega)]
      simp only [List.length_cons]
      rw [show c + 1 + (pick N (k + 1) Q).length = c + ((pick N (k + 1) Q).length + 1) by omega]
    | false =>
      rw [if_pos (by decide), xl_eq, xl_eq, nI_1, show nI c + 0 = nI c from Int32.add_zero _, pick_f h, lx_reach_41_ok hc0 hm0 Q (k + 1) c m (by omega) (by omega)]
