/-! ===== numbers and units of a clause ===== -/
def dgv (L : List Nat) : Nat → Nat → Nat → Nat
  | 0, _, x => x
  | d + 1, p, x => if isDg L p then dgv L d (p + 1) (gb L p - 48) else x
theorem dgv_t {L : List Nat} {d p x : Nat} (h : isDg L p = true) : dgv L (d + 1) p x = dgv L d (p + 1) (gb L p - 48) := by show (if isDg L p then _ else _) = _; rw [if_pos h]
theorem dgv_f {L : List Nat} {d p x : Nat} (h : isDg L p = false) : dgv L d p x = x := by
  cases d with
  | zero => rfl
  | succ d => show (if isDg L p then _ else _) = _; rw [if_neg (by rw [h]; decide)]
theorem lx_readsNumber_ok {n b no : Nat} {f fm9 : Nat → Int32} {L : List Nat} (h : TPE f L) (hb9 : b ≤ L.length) (hno : no < 10) : ∀ (d p m x : Nat), b ≤ p → p ≤ L.length → L.length ≤ p + d → x < 10 → d < m →
    lx_readsNumber_6 n f (nI L.length) (nI no) m (nI x) (nI p) (nI b) fm9 = some (if scn (isDg L) d p = b + 1 ∧ dgv L d p x ≤ 3 then 1 else 0, nI (scn (isDg L) d p), nI b, upd fm9 no (nI (dgv L d p x)))
  | d, p, m + 1, x, hbp, hp, hd, hx, hm => by
    have h4 := h.1
    have i1 := fx_isAt_ok (n := n) (p := p) (lo := 48) (hi := 57) h (by decide) (by decide) (by omega)
    have e9 : nI 48 = (48 : Int32) := rfl
    have e10 : nI 57 = (57 : Int32) := rfl
    rw [e9, e10] at i1
    show bx_readsNumber_6 n f (nI L.length) (nI no) (lx_readsNumber_6 n f (nI L.length) (nI no) m) (nI x) (nI p) (nI b) fm9 = _
    unfold bx_readsNumber_6
    rw [i1, xb1_s]
    cases q1 : isb L p 48 57 with
    | true =>
      have hl := isb_lt q1
      obtain ⟨d', rfl⟩ : ∃ d', d = d' + 1 := ⟨d - 1, by omega⟩
      have es : sb (gb L p) = nI (gb L p) := sb_lo ⟨gb L p, by omega⟩
      rw [if_neg (by decide), xr_n (by omega) (by decide), h.2.2 p hl.1, es, xl_eq, show (48 : Int32) = nI 48 from rfl, nI_sub hl.2.1, xl_eq, nI_1, scn_t (show isDg L p = true from q1), dgv_t (show isDg L p = true from q1)]
      exact lx_readsNumber_ok h hb9 hno d' (p + 1) m (gb L p - 48) (by omega) (by omega) (by omega) (by omega) (by omega)
    | false =>
      rw [if_pos (by decide), xw_n hno (by decide), xl_eq, nI_sub hbp, scn_f (show isDg L p = false from q1), dgv_f (show isDg L p = false from q1), show (1 : Int32) = nI 1 from rfl, show (3 : Int32) = nI 3 from rfl]
      by_cases z : p - b = 1
      · rw [if_pos (by rw [z])]
        by_cases y : 3 < x
        · rw [if_pos (by rw [nI_lt_iff (by decide) (by omega)]; exact y), if_neg (fun g => by omega)]
        · rw [if_neg (by rw [nI_lt_iff (by decide) (by omega)]; exact y), if_pos ⟨by omega, by omega⟩]
      · rw [if_neg (by rw [nI_inj (by omega) (by decide)]; exact z), if_neg (fun g => by omega)]
theorem fx_readsNumber_ok {n p no : Nat} {f fm9 : Nat → Int32} {L : List Nat} {b0 : Int32} (hn : 100000 ≤ n) (h : TPE f L) (hp : p ≤ L.length) (hno : no < 10) :
    ∃ fm' : Nat → Int32, fx_readsNumber n f (nI L.length) (nI p) b0 fm9 (nI no) = some (if (rnum L p).1 = none then 0 else 1, nI (rnum L p).2.1, nI (rnum L p).2.2, fm') ∧ (∀ i : Nat, i ≠ no → fm' i = fm9 i) ∧ ∀ v : Nat, (rnum L p).1 = some v → fm' no = nI v ∧ v ≤ 3 := by
  have h4 := h.1
  have hb1 := bk_le (L := L) hp
  unfold fx_readsNumber
  have lp := lx_readsNumber_ok (n := n) (fm9 := fm9) h hb1 hno 400 (bk L p) n 0 (Nat.le_refl _) hb1 (by omega) (by decide) (by omega)
  rw [show nI 0 = (0 : Int32) from rfl] at lp
  rw [fx_blanks_ok hn h hp, xb2_s, lp]
  have ed : scn (isDg L) 400 (bk L p) = dg L (bk L p) := rfl
  rw [ed]
  have fact : dg L (bk L p) = bk L p + 1 → dgv L 400 (bk L p) 0 = gb L (bk L p) - 48 ∧ 48 ≤ gb L (bk L p) ∧ gb L (bk L p) ≤ 57 := fun c => by
    have t1 : isDg L (bk L p) = true := scn_at (Nat.le_refl _) (show bk L p < dg L (bk L p) by omega)
    have t2 : isDg L (bk L p + 1) = false := by
      have := scn_end (P := isDg L) isDg_lt (d := 400) (p := bk L p) (by omega)
      rw [ed, c] at this; exact this
    have hl := isb_lt (show isb L (bk L p) 48 57 = true from t1)
    exact ⟨by rw [dgv_t t1, dgv_f t2], hl.2⟩
  by_cases c : dg L (bk L p) = bk L p + 1 ∧ gb L (bk L p) ≤ 51
  · obtain ⟨e2, e3, e4⟩ := fact c.1
    have hr : rnum L p = (some (gb L (bk L p) - 48), dg L (bk L p), bk L p) := by unfold rnum; rw [if_pos c]
    rw [hr, e2, if_pos (show dg L (bk L p) = bk L p + 1 ∧ gb L (bk L p) - 48 ≤ 3 from ⟨c.1, by omega⟩)]
    refine ⟨upd fm9 no (nI (gb L (bk L p) - 48)), by rw [if_neg (by simp)], fun i hi => upd_ne hi, fun v hv => ?_⟩
    have hv' : gb L (bk L p) - 48 = v := Option.some.inj hv
    rw [upd_eq, hv']
    exact ⟨rfl, by omega⟩
  · have hr : rnum L p = (none, dg L (bk L p), bk L p) := by unfold rnum; rw [if_neg c]
    have hc : ¬ (dg L (bk L p) = bk L p + 1 ∧ dgv L 400 (bk L p) 0 ≤ 3) := fun g => by
      obtain ⟨e2, e3, e4⟩ := fact g.1
      exact c ⟨g.1, by omega⟩
    rw [hr, if_neg hc]
    exact ⟨upd fm9 no (nI (dgv L 400 (bk L p) 0)), by rw [if_pos rfl], fun i hi => upd_ne hi, fun v hv => absurd hv (by simp)⟩
theorem fx_readsUnit_ok {n p : Nat} {f fn fnm fs9 fm9 fu9 fu0 : Nat → Int32} {L : List Nat} {ops : List OpE} {vs : List (List Nat)} {b0 : Int32} (hn : 100000 ≤ n) (h : TPE f L) (hp : p ≤ L.length) (hw : NWR ops vs fn fnm fs9 fm9 fu9) (hno : ops.length < 10) (hO : OPS ops vs) :
    ∃ fu' : Nat → Int32, fx_readsUnit n f (nI L.length) (nI p) b0 fn fnm fs9 fm9 fu0 (nI ops.length) (nI vs.length) = some (if (runit L ops vs p).1 = none then 0 else 1, nI (runit L ops vs p).2.1, nI (runit L ops vs p).2.2, fu') ∧ (∀ i : Nat, i ≠ ops.length → fu' i = fu0 i) ∧ ∀ u : Option Nat, (runit L ops vs p).1 = some u → fu' ops.length = oI u ∧ ∀ k : Nat, u = some k → k < ops.length ∧ (opN ops k).2.1 = 0 ∧ (opN ops k).2.2.1 = 0 := by
  have h4 := h.1
  have hb1 := bk_le (L := L) hp
  have hw1 := wd_le (L := L) hb1
  have hw2 := wd_ge (L := L) (p := bk L p)
  have hb2 := bk_le (L := L) hw1
  have hw3 := wd_le (L := L) hb2
  have hw4 := wd_ge (L := L) (p := bk L (wd L (bk L p)))
  have wu := fx_isWord_ok (n := n) wUnit hn h hw2 hw1 wd_let (by decide) (by decide)
  have wu' : fx_isWord n f (nI (wd L (bk L p))) (nI (bk L p)) 4 (ltr [117, 110, 105, 116]) = some (if sli L (bk L p) (wd L (bk L p)) = wUnit then 1 else 0) := wu
  have nn := fx_newNamed_ok (n := n) (nmL := nmF ops vs) hn h hw4 hw3 wd_let hw.1 hw.2.1 hw.2.2.1
  have e10 : (10 : Int32) = nI 10 := rfl
  unfold fx_readsUnit runit
  rw [xw_n hno (by decide), fx_word_ok hn h hp, xb3_s]
  by_cases c1 : wd L (bk L p) ≤ bk L p
  · simp only [if_pos c1]
    rw [if_pos trivial, if_neg (show ¬ (some (none : Option Nat)) = none by simp)]
    refine ⟨upd fu0 ops.length (-1), rfl, fun i hi => upd_ne hi, fun u hu => ?_⟩
    have : none = u := Option.some.inj hu
    subst this
    exact ⟨upd_eq _ _ _, fun k hk => absurd hk (by simp)⟩
  · simp only [if_neg c1]
    rw [if_neg (by decide), wu', xb1_s]
    have bad : ∀ (P1 P2 : Nat), ∃ fu' : Nat → Int32, some ((0 : Int32), nI P1, nI P2, upd fu0 ops.length (-1)) = some (if (none : Option (Option Nat)) = none then 0 else 1, nI P1, nI P2, fu') ∧ (∀ i : Nat, i ≠ ops.length → fu' i = fu0 i) ∧ ∀ u : Option Nat, (none : Option (Option Nat)) = some u → fu' ops.length = oI u ∧ ∀ k : Nat, u = some k → k < ops.length ∧ (opN ops k).2.1 = 0 ∧ (opN ops k).2.2.1 = 0 := fun P1 P2 =>
      ⟨upd fu0 ops.length (-1), by rw [if_pos rfl], fun i hi => upd_ne hi, fun u hu => absurd hu (by simp)⟩
    by_cases c2 : sli L (bk L p) (wd L (bk L p)) = wUnit
    · simp only [if_pos c2]
      rw [if_neg (by decide), fx_word_ok hn h hw1, xb3_s]
      by_cases c3 : wd L (bk L (wd L (bk L p))) ≤ bk L (wd L (bk L p))
      · simp only [if_pos c3]
        exact bad _ _
      · simp only [if_neg c3]
        rw [if_neg (by decide), nn, xb1_s]
        have c4 : naw (nmF ops vs) ops.length vs.length L (bk L (wd L (bk L p))) (wd L (bk L (wd L (bk L p)))) = newn ops vs (sli L (bk L (wd L (bk L p))) (wd L (bk L (wd L (bk L p))))) := rfl
        rw [c4]
        cases hq : newn ops vs (sli L (bk L (wd L (bk L p))) (wd L (bk L (wd L (bk L p))))) with
        | none =>
          dsimp only
          rw [if_pos (show oI none = -1 from rfl)]
          exact bad _ _
        | some k =>
          have hk15 := (nam_v hq).2.2
          have eo : oI (some k) = nI k := rfl
          dsimp only
          rw [eo, if_neg (m1_ne (by omega)), e10]
          by_cases k10 : 10 ≤ k
          · rw [if_pos (by rw [nI_le_iff (by decide) (by omega)]; exact k10)]
            simp only [if_neg (show ¬ (k < ops.length ∧ (opN ops k).2.1 = 0 ∧ (opN ops k).2.2.1 = 0) from fun g => by omega)]
            exact bad _ _
          · rw [if_neg (by rw [nI_le_iff (by decide) (by omega)]; exact k10)]
            by_cases kn : ops.length ≤ k
            · rw [if_pos (by rw [nI_le_iff (by omega) (by omega)]; exact kn)]
              simp only [if_neg (show ¬ (k < ops.length ∧ (opN ops k).2.1 = 0 ∧ (opN ops k).2.2.1 = 0) from fun g => by omega)]
              exact bad _ _
            · obtain ⟨a1, a2, a3⟩ := hw.2.2.2 k (by omega)
              obtain ⟨o1, o2, o3, o4⟩ := hO.1 k (by omega)
              rw [if_neg (by rw [nI_le_iff (by omega) (by omega)]; exact kn), xr_n (by omega) (by decide), a1]
              by_cases s0 : (opN ops k).2.1 = 0
              · have m3 := (o2 s0).1
                rw [if_pos (by rw [s0]; rfl), xr_n (by omega) (by decide), a2]
                by_cases m0 : (opN ops k).2.2.1 = 0
                · rw [if_pos (by rw [m0]; rfl), xw_n hno (by decide)]
                  simp only [if_pos (show (k < ops.length ∧ (opN ops k).2.1 = 0 ∧ (opN ops k).2.2.1 = 0) from ⟨by omega, s0, m0⟩)]
                  rw [if_neg (show ¬ (some (some k)) = none by simp)]
                  refine ⟨upd (upd fu0 ops.length (-1)) ops.length (nI k), rfl, fun i hi => by rw [upd_ne hi, upd_ne hi], fun u hu => ?_⟩
                  have e9 : some k = u := Option.some.inj hu
                  subst e9
                  refine ⟨upd_eq _ _ _, fun k9 hk9 => ?_⟩
                  have : k = k9 := Option.some.inj hk9
                  subst this
                  exact ⟨by omega, s0, m0⟩
                · rw [if_neg (by rw [show (0 : Int32) = nI 0 from rfl, nI_inj (by omega) (by decide)]; exact m0)]
                  simp only [if_neg (show ¬ (k < ops.length ∧ (opN ops k).2.1 = 0 ∧ (opN ops k).2.2.1 = 0) from fun g => m0 g.2.2)]
                  exact bad _ _
              · rw [if_neg (by rw [show (0 : Int32) = nI 0 from rfl, nI_inj (by omega) (by decide)]; exact s0)]
                simp only [if_neg (show ¬ (k < ops.length ∧ (opN ops k).2.1 = 0 ∧ (opN ops k).2.2.1 = 0) from fun g => s0 g.2.1)]
                exact bad _ _
    · simp only [if_neg c2]
      rw [if_pos trivial]
      exact bad _ _
