/-! ===== goesOn, whole ===== -/
/-- the goals that a sharing out gives -/
def gls2 (so : Nat → Nat) (un : Nat → Option Nat) (op : Nat) (A : List Nat) (H : List (List Nat)) : Nat → List (Nat × List Nat) → Nat → List Goal → List Goal
  | i, x :: ps, top, Q => gls2 so un op A H (i + 1) ps (top + (mkt so un op (gf i A H)).length) ((x.1, x.2, top, mkt so un op (gf i A H)) :: Q)
  | _, [], _, Q => Q
theorem gls2_all {so : Nat → Nat} {un : Nat → Option Nat} {op : Nat} {A : List Nat} {H : List (List Nat)} {P : List Nat → List Nat → Prop} : ∀ {ps : List (Nat × List Nat)} {i top : Nat} {Q : List Goal}, (∀ g ∈ gls2 so un op A H i ps top Q, P g.2.1 g.2.2.2) ↔ (∀ g ∈ Q, P g.2.1 g.2.2.2) ∧ ∀ j : Nat, j < ps.length → P (nth (ps.map Prod.snd) j) (mkt so un op (gf (i + j) A H))
  | [], _, _, _ => ⟨fun h => ⟨h, fun j hj => absurd hj (Nat.not_lt_zero j)⟩, fun h => h.1⟩
  | x :: ps, i, top, Q => by
    show (∀ g ∈ gls2 so un op A H (i + 1) ps _ ((x.1, x.2, top, mkt so un op (gf i A H)) :: Q), P g.2.1 g.2.2.2) ↔ _
    rw [gls2_all, List.forall_mem_cons]
    constructor
    · rintro ⟨⟨a, b⟩, c⟩
      refine ⟨b, fun j hj => ?_⟩
      cases j with
      | zero => exact a
      | succ j => have := c j (by simpa using hj); rw [show i + 1 + j = i + (j + 1) by omega] at this; exact this
    · rintro ⟨b, c⟩
      refine ⟨⟨c 0 (by simp), b⟩, fun j hj => ?_⟩
      have := c (j + 1) (by simpa using hj)
      rw [show i + (j + 1) = i + 1 + j by omega] at this; exact this
theorem gls2_old {so : Nat → Nat} {un : Nat → Option Nat} {op : Nat} {A : List Nat} {H : List (List Nat)} {g : Goal} : ∀ {ps : List (Nat × List Nat)} {i top : Nat} {Q : List Goal}, g ∈ Q → g ∈ gls2 so un op A H i ps top Q
  | [], _, _, _, h => h
  | x :: ps, i, top, Q, h => gls2_old (ps := ps) (List.mem_cons_of_mem _ h)
theorem gls2_new {so : Nat → Nat} {un : Nat → Option Nat} {op : Nat} {A : List Nat} {H : List (List Nat)} {y : Nat × List Nat} : ∀ {ps : List (Nat × List Nat)} {i top : Nat} {Q : List Goal}, y ∈ ps → ∃ g ∈ gls2 so un op A H i ps top Q, g.2.1 = y.2
  | [], _, _, _, h => absurd h List.not_mem_nil
  | x :: ps, i, top, Q, h => by
    show ∃ g ∈ gls2 so un op A H (i + 1) ps _ ((x.1, x.2, top, mkt so un op (gf i A H)) :: Q), g.2.1 = y.2
    rcases List.mem_cons.mp h with e | e
    · exact ⟨(x.1, x.2, top, mkt so un op (gf i A H)), gls2_old (List.mem_cons_self ..), by rw [e]⟩
    · exact gls2_new e
theorem ct_pos_gf {i : Nat} {A : List Nat} {H : List (List Nat)} (h : A.length = H.length) : gf i A H = [] ↔ ct i A = 0 := by
  rw [← gf_len (i := i) h, List.length_eq_zero_iff]
theorem gf_map_snd {i : Nat} {A : List Nat} {xs : List (Nat × List Nat)} : (gf i A (xs.map Prod.snd)).length ≤ A.length ∨ True := Or.inr trivial
theorem lx_goesOn_101_ok {slf : SLF} {n : Nat} {fs fu : Nat → Int32} {so : Nat → Nat} {un : Nat → Option Nat} {pv : Int32} {d : Nat} (hslf : SOK slf n fs fu so un pv d) (hn : 100000 ≤ n) (hsg : SG fs fu so un) (hsu : SU so un) {fp fb fw ff : Nat → Int32} {T n0 op base k h to W : Nat} {fm tm : Int32} {be : Nat → Option (List Nat)} {E : List Nat → Prop} {A : List Nat} {xs : List (Nat × List Nat)} {t : List Nat} {G : List Goal}
    (ho : op < 10 ∧ so op ≠ 3) (h2 : so op = 2) (ht : nok so un t) (htl : t.length ≤ 20) (hxt : xs.map Prod.snd = flat1 so un op t) (hto : to = base + k + h) (hWe : W = to + h) (hW : W + 70 * d ≤ 4000) (hk : k ≤ 20) (hA : la fw to A) (hx : la fw (base + k) (adr xs)) (ha : ∀ a ∈ A, a < 1000) (hl : A.length = xs.length) (hxh : xs.length = h) (hok : ∀ x ∈ xs, okp fp x ∧ x.1 + x.2.length ≤ T) (hbn : bnd so un fp fb T be) (he : EXS E fm ff tm)
    (hun : ∀ i : Nat, i < k → ct i A = 0 → un op ≠ none) (hG : G.length = n0) :
    ∀ (ps : List (Nat × List Nat)) (i top : Nat) (Q : List Goal) (f fgp fgt : Nat → Int32) (m : Nat), i + ps.length = k → la fw (base + i) (adr ps) → (∀ p ∈ ps, la fp p.1 p.2 ∧ nok so un p.2 ∧ c2 so p.2 ∧ p.2.length ≤ 20 ∧ p.1 + p.2.length ≤ T) → Q.length = n0 + i → (∀ g ∈ Q, gok so un f top g) → la fgp 0 (Q.map (fun g => g.1)).reverse → la fgt 0 (Q.map (fun g => g.2.2.1)).reverse → (∀ j : Nat, j < T → f j = fp j) → T ≤ top → top + 21 * ps.length + 500 * d ≤ 59000 → plen Q + (ps.map Prod.snd).flatten.length < d → plen Q + (ps.map Prod.snd).flatten.length ≤ 20 → cov pv be (gls2 so un op A (flat1 so un op t) i ps top Q) → ps.length < m →
      PO n0 fp T fgp fgt fb fw W (fun q => E q ∨ Sol so un pv (gls2 so un op A (flat1 so un op t) i ps top Q) be q) (lx_goesOn_101 slf n fs fu pv (nI n0) (nI op) (nI base) (nI k) (nI h) m (nI to) (nI T) (nI i) f (nI top) fgp fgt fb fw (nI W) fm ff tm)
  | [], i, top, Q, f, fgp, fgt, m + 1, hi, _, _, hQl, hQ, hgp, hgt, hf, hTt, hb', hp, hp2, hcv, _ => by
    simp only [List.length_nil, Nat.add_zero, List.map_nil, List.flatten_nil, Nat.mul_zero] at hi hp hp2 hb'
    subst hi
    have hbn2 : bnd so un f fb top be := bnd_same hf hTt (fun _ _ => rfl) hbn
    obtain ⟨fp', fgp', fgt', fb', fw', fm', ff', tm', r1, r2, r3, r4, r5, r6⟩ := hslf f fgp fgt fb fw top W fm ff tm Q be E hQ hgp hgt hbn2 hp hp2 hb' hW hcv he
    have eL : lx_goesOn_101 slf n fs fu pv (nI n0) (nI op) (nI base) (nI i) (nI h) (m + 1) (nI to) (nI T) (nI i) f (nI top) fgp fgt fb fw (nI W) fm ff tm = bx_goesOn_101 slf n fs fu pv (nI n0) (nI op) (nI base) (nI i) (nI h) (lx_goesOn_101 slf n fs fu pv (nI n0) (nI op) (nI base) (nI i) (nI h) m) (nI to) (nI T) (nI i) f (nI top) fgp fgt fb fw (nI W) fm ff tm := rfl
    rw [eL]
    unfold bx_goesOn_101
    rw [if_pos (Int32.le_refl _), xl_eq, nI_add, ← hQl, r1, xb10_s]
    exact ⟨fp', fgp', fgt', fb', fw', fm', ff', tm', rfl, fun j hj => by rw [r2 j (by omega), hf j hj], fun j hj => r3 j (by omega), r4, r5, r6⟩
  | p :: ps, i, top, Q, f, fgp, fgt, m + 1, hi, hpa, hps, hQl, hQ, hgp, hgt, hf, hTt, hb', hp, hp2, hcv, hm => by
    simp only [List.length_cons, List.map_cons, List.flatten_cons, List.length_append] at hi hp hp2 hb' hm
    obtain ⟨p1, p2, p3, p4, p5⟩ := hps p (List.mem_cons_self ..)
    have hAH : A.length = (flat1 so un op t).length := by rw [← hxt, List.length_map]; exact hl
    have hfl := flat1_len (so := so) (un := un) (op := op) ht.1.1
    have hcl := ct_le (i := i) (A := A)
    obtain ⟨w1, w2⟩ := row_ok (i := i) (A := A) hsu ho h2 ht htl (fun e => hun i (by omega) ((ct_pos_gf hAH).mp e))
    have hplen := plen_len hQ
    have hlr : (Q.map (fun g => g.1)).reverse.length = Q.length := by simp
    have hlr2 : (Q.map (fun g => g.2.2.1)).reverse.length = Q.length := by simp
    have hpp := wf_pos p2.1.1
    -- what comes next, once the row lies at the top
    have next : ∀ (f1 : Nat → Int32) (x9 : Int32), (∀ j : Nat, j < top → f1 j = f j) → la f1 top (mkt so un op (gf i A (flat1 so un op t))) →
        PO n0 fp T fgp fgt fb fw W (fun q => E q ∨ Sol so un pv (gls2 so un op A (flat1 so un op t) i (p :: ps) top Q) be q) (jx_goesOn_246 slf n fs fu pv (nI n0) (nI op) (nI base) (nI k) (nI h) (lx_goesOn_101 slf n fs fu pv (nI n0) (nI op) (nI base) (nI k) (nI h) m) (nI to) (nI T) (nI i) x9 (nI top) f1 (nI (top + (mkt so un op (gf i A (flat1 so un op t))).length)) fgp fgt fb fw (nI W) fm ff tm) := by
      intro f1 x9 hf1 hrow
      have lp : la f1 p.1 p.2 := la_congr (fun j hj => by rw [hf1 _ (by omega), hf _ (by omega)]) p1
      have hg : gok so un f1 (top + (mkt so un op (gf i A (flat1 so un op t))).length) (p.1, p.2, top, mkt so un op (gf i A (flat1 so un op t))) :=
        ⟨⟨lp, p2, p3, p4, by show p.1 + p.2.length ≤ _; omega⟩, hrow, w1, w2, Nat.le_refl _⟩
      have ih := lx_goesOn_101_ok (G := G) hslf hn hsg hsu ho h2 ht htl hxt hto hWe hW hk hA hx ha hl hxh hok hbn he hun hG ps (i + 1) (top + (mkt so un op (gf i A (flat1 so un op t))).length) ((p.1, p.2, top, mkt so un op (gf i A (flat1 so un op t))) :: Q) f1 (upd fgp Q.length (nI p.1)) (upd fgt Q.length (nI top)) m (by omega)
        (by rw [show base + (i + 1) = base + i + 1 by omega]; exact hpa.2) (fun q hq => hps q (List.mem_cons_of_mem _ hq)) (by rw [List.length_cons]; omega)
        (fun g hg' => by
          rcases List.mem_cons.mp hg' with e | e
          · rw [e]; exact hg
          · exact gok_same hf1 (by omega) (hQ g e))
        (by rw [List.map_cons, List.reverse_cons]; exact la_snoc (la_upd (Or.inr (by rw [hlr]; omega)) hgp) (by rw [hlr, Nat.zero_add]; exact upd_eq _ _ _))
        (by rw [List.map_cons, List.reverse_cons]; exact la_snoc (la_upd (Or.inr (by rw [hlr2]; omega)) hgt) (by rw [hlr2, Nat.zero_add]; exact upd_eq _ _ _))
        (fun j hj => by rw [hf1 j (by omega), hf j hj]) (by omega) (by omega) (by show p.2.length + plen Q + _ < d; omega) (by show p.2.length + plen Q + _ ≤ 20; omega) hcv (by omega)
      unfold jx_goesOn_246
      rw [xl_eq, nI_add, xl_eq, nI_add, xr_n (by omega) (by decide), hpa.1, ← hQl, fx_aims_ok (by omega), xb2_s, xl_eq, nI_1]
      exact PO_gp (fun j hj => ⟨upd_ne (by omega), upd_ne (by omega)⟩) ih
    have eL : lx_goesOn_101 slf n fs fu pv (nI n0) (nI op) (nI base) (nI k) (nI h) (m + 1) (nI to) (nI T) (nI i) f (nI top) fgp fgt fb fw (nI W) fm ff tm = bx_goesOn_101 slf n fs fu pv (nI n0) (nI op) (nI base) (nI k) (nI h) (lx_goesOn_101 slf n fs fu pv (nI n0) (nI op) (nI base) (nI k) (nI h) m) (nI to) (nI T) (nI i) f (nI top) fgp fgt fb fw (nI W) fm ff tm := rfl
    rw [eL]
    unfold bx_goesOn_101
    have hmt := fx_manyTo_ok (n := n) (fw := fw) (to := to) (i := i) hA ha (by omega) (by omega) hn
    rw [hl, hxh] at hmt
    rw [if_neg (by rw [nI_le_iff (by omega) (by omega)]; omega), hmt, xb1_s]
    have hokf : ∀ (f1 : Nat → Int32), (∀ j : Nat, j < T → f1 j = f j) → ∀ x ∈ xs, okp f1 x ∧ x.1 + x.2.length ≤ T := fun f1 hf1 x hx' => by
      obtain ⟨z1, z2⟩ := hok x hx'
      exact ⟨⟨la_congr (fun j hj => by rw [hf1 _ (by omega), hf _ (by omega)]) z1.1, z1.2⟩, z2⟩
    have hxf : (xs.map Prod.snd).flatten.length ≤ 20 := by rw [hxt]; omega
    by_cases q0 : ct i A = 0
    · rw [if_pos (by rw [q0]; rfl)]
      have hgf : gf i A (flat1 so un op t) = [] := (ct_pos_gf hAH).mpr q0
      cases hu : un op with
      | none => exact absurd hu (hun i (by omega) q0)
      | some u =>
        obtain ⟨u1, u2⟩ := (hsg op ho).2.2.2 u hu
        have em : mkt so un op (gf i A (flat1 so un op t)) = [cdo u 0] := by rw [hgf, mkt_nil h2 hu]
        rw [xr_n ho.1 (by decide), u1, show (0 : Int32) = nI 0 from rfl, fx_codeOf_ok u2 (by decide), xb1_s, xw_n (by omega) (by decide), xl_eq, nI_1]
        have := next (upd f top (nI (cdo u 0))) (nI (ct i A)) (fun j hj => upd_ne (by omega)) (by rw [em]; exact ⟨upd_eq _ _ _, trivial⟩)
        rw [em] at this
        exact this
    · rw [if_neg (by rw [show (0 : Int32) = nI 0 from rfl, nI_inj (by omega) (by decide)]; exact q0)]
      have hgl := gf_len (i := i) hAH
      by_cases q1 : ct i A ≤ 1
      · rw [if_pos (by rw [show (1 : Int32) = nI 1 from rfl, nI_le_iff (by omega) (by decide)]; exact q1), show (0 : Int32) = nI 0 from rfl]
        obtain ⟨y, hy⟩ : ∃ y, gf i A (flat1 so un op t) = [y] := by
          match hq : gf i A (flat1 so un op t), hgl with
          | [], e => simp at e; omega
          | [y], _ => exact ⟨y, rfl⟩
          | _ :: _ :: _, e => simp at e; omega
        have em : mkt so un op (gf i A (flat1 so un op t)) = (gf i A (flat1 so un op t)).flatten := by rw [hy, mkt_one h2]; simp
        rw [lx_goesOn_197_ok (T := T) hn (by omega) hto (by omega) A xs 0 f top n hA hx ha hl (by omega) (hokf f (fun _ _ => rfl)) hTt (by omega) (by omega), hxt, ← em]
        exact next _ _ (fun j hj => put_out (Or.inl hj)) put_la
      · rw [if_neg (by rw [show (1 : Int32) = nI 1 from rfl, nI_le_iff (by omega) (by decide)]; exact q1), fx_codeOf_ok ho.1 (by omega), xb1_s, xw_n (by omega) (by decide), xl_eq, nI_1, show (0 : Int32) = nI 0 from rfl]
        have em : mkt so un op (gf i A (flat1 so un op t)) = cdo op (ct i A) :: (gf i A (flat1 so un op t)).flatten := by rw [mkt_many (fun _ => by omega), hgl]
        rw [lx_goesOn_197_ok (T := T) hn (by omega) hto (by omega) A xs 0 (upd f top (nI (cdo op (ct i A)))) (top + 1) n hA hx ha hl (by omega) (hokf _ (fun j hj => upd_ne (by omega))) (by omega) (by omega) (by omega), hxt]
        have := next (put (upd f top (nI (cdo op (ct i A)))) (top + 1) (gf i A (flat1 so un op t)).flatten) (nI (ct i A)) (fun j hj => by rw [put_out (Or.inl (by omega)), upd_ne (by omega)]) (by rw [em]; exact ⟨by rw [put_out (Or.inl (by omega)), upd_eq], put_la⟩)
        rw [em, List.length_cons, show top + ((gf i A (flat1 so un op t)).flatten.length + 1) = top + 1 + (gf i A (flat1 so un op t)).flatten.length by omega] at this
        exact this
