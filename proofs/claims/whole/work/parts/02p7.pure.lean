/-! ===== stands, whole ===== -/
theorem jx_stands_80_ok {n : Nat} {fs fu fp f : Nat → Int32} {so : Nat → Nat} {un : Nat → Option Nat} {p1 top : Int32} {k5 : Int32 → Int32 → (Nat → Int32) → Int32 → (Nat → Int32) → SRes} {op a : Nat} {t : List Nat} {xs : List (Nat × List Nat)} (hsg : SG fs fu so un) (ho : op < 10 ∧ so op ≠ 3) (hn : 100000 ≤ n) (hl : la fp a t) (hw : wf 1 t) (hc : col t) (ha : a + t.length ≤ 60000) (hs : la f 0 (adr xs)) (hN : xs.length < 512) (hni : so op = 2 → isop op t = false) :
    ∃ f' : Nat → Int32, jx_stands_80 n fs fu (nI op) p1 k5 (nI xs.length) (nI a) fp top f = k5 (nI (xs ++ fpr so un op a t).length) (nI (a + t.length)) fp top f' ∧ la f' 0 (adr (xs ++ fpr so un op a t)) := by
  have hso := hsg op ho
  have hlx : (adr xs).length = xs.length := by simp [adr]
  have e2 : (nI (so op) = (2 : Int32)) ↔ so op = 2 := by rw [show (2 : Int32) = nI 2 from rfl, nI_inj (by omega) (by decide)]
  have hbh := fx_behind_ok hl hw hc ha hn
  have one : la (upd f xs.length (nI a)) 0 (adr (xs ++ [(a, t)])) := by
    rw [show adr (xs ++ [(a, t)]) = adr xs ++ [a] by simp [adr]]
    exact la_snoc (la_upd (Or.inr (by rw [hlx]; omega)) hs) (by rw [hlx, Nat.zero_add]; exact upd_eq _ _ _)
  have lone : (xs ++ [(a, t)]).length = xs.length + 1 := by simp
  unfold jx_stands_80 fpr
  rw [xr_n ho.1 (by decide), hso.1]
  by_cases q : so op = 2
  · rw [if_pos (e2.mpr q), if_pos q, if_neg (by rw [hni q]; decide), xr_n ho.1 (by decide)]
    cases hun : un op with
    | none =>
      rw [hso.2.2.1 hun, if_pos rfl, xw_n (by omega) (by decide), xl_eq, nI_1, hbh, xb1_s, if_neg (show ¬ isun un op t = true by unfold isun; rw [hun]; simp), lone]
      exact ⟨_, rfl, one⟩
    | some u =>
      obtain ⟨hu1, hu2⟩ := hso.2.2.2 u hun
      rw [hu1, if_neg (nI_m1 (by omega))]
      cases t with
      | nil => exact absurd (wf_pos hw) (by simp)
      | cons c l =>
        have hcc := cok_lt (col_cons.mp hc).1
        simp only [List.length_cons] at ha
        rw [xr_n (by omega) (by decide), hl.1, xr_n ho.1 (by decide), hu1, show (0 : Int32) = nI 0 from rfl, fx_codeOf_ok hu2 (by decide), xb1_s]
        have e3 : (nI c = nI (cdo u 0)) ↔ c = cdo u 0 := nI_inj (by omega) (by unfold cdo; omega)
        have e4 : isun un op (c :: l) = decide (c = cdo u 0) := by unfold isun; rw [hun]
        by_cases q2 : c = cdo u 0
        · rw [if_pos (e3.mpr q2), hbh, xb1_s, if_pos (by rw [e4]; exact decide_eq_true q2), List.append_nil]
          exact ⟨f, rfl, hs⟩
        · rw [if_neg (fun h9 => q2 (e3.mp h9)), xw_n (by omega) (by decide), xl_eq, nI_1, hbh, xb1_s, if_neg (by rw [e4]; simpa using q2), lone]
          exact ⟨_, rfl, one⟩
  · rw [if_neg (fun h9 => q (e2.mp h9)), if_neg q, xw_n (by omega) (by decide), xl_eq, nI_1, hbh, xb1_s, lone]
    exact ⟨_, rfl, one⟩
def fin5 (n : Nat) (fs fu : Nat → Int32) (p0 p1 x3 x4 : Int32) (fp : Nat → Int32) (top : Int32) (fsp : Nat → Int32) : SRes :=
  xr 10 fs p0 fun y => if y = (0 : Int32) then (jx_stands_156 n fs fu p0 p1 x3 x4 fp top fsp) else (xb1 (fx_sorts n fp fsp x3) fun g => jx_stands_156 n fs fu p0 p1 x3 x4 fp top g)
theorem isop_iff {op c : Nat} {l : List Nat} (ho : op < 10) (hc : c < 5632) : opI c = nI op ↔ isop op (c :: l) = true := by
  show _ ↔ (decide (512 ≤ c) && decide (c / 512 - 1 = op)) = true
  by_cases q : 512 ≤ c
  · rw [opI_op q, nI_inj (by omega) (by omega)]; simp [q]
  · rw [opI_var (by omega)]
    constructor
    · intro h; exact absurd h.symm (nI_m1 (by omega))
    · intro h; simp [q] at h
theorem lx_stands_5_ok {n : Nat} {fs fu fp : Nat → Int32} {so : Nat → Nat} {un : Nat → Option Nat} {p1 : Int32} {op T : Nat} (hsg : SG fs fu so un) (ho : op < 10 ∧ so op ≠ 3) (hn : 100000 ≤ n) (hT : T ≤ 60000) : ∀ (ts : List (List Nat)) (xs : List (Nat × List Nat)) (f : Nat → Int32) (a m : Nat),
    la fp a ts.flatten → wfs ts → col ts.flatten → a + ts.flatten.length = T → la f 0 (adr xs) → xs.length + ts.flatten.length < 512 → ts.length < m →
    ∃ f' : Nat → Int32, lx_stands_5 n fs fu (nI op) p1 m (nI xs.length) (nI a) fp (nI T) f = fin5 n fs fu (nI op) p1 (nI (xs ++ fprs so un op a ts).length) (nI T) fp (nI T) f' ∧ la f' 0 (adr (xs ++ fprs so un op a ts))
  | [], xs, f, a, m + 1, _, _, _, ha, hs, _, _ => by
    simp only [List.flatten_nil, List.length_nil, Nat.add_zero] at ha
    subst ha
    refine ⟨f, ?_, by simpa [fprs] using hs⟩
    show bx_stands_5 n fs fu (nI op) p1 (lx_stands_5 n fs fu (nI op) p1 m) _ _ _ _ _ = _
    unfold bx_stands_5
    rw [if_pos (Int32.le_refl _)]
    simp only [fprs, List.append_nil]; rfl
  | t :: ts, xs, f, a, m + 1, hl, hw, hc, ha, hs, hN, hm => by
    rw [List.flatten_cons] at hl hc ha hN
    rw [List.length_append] at ha hN
    simp only [List.length_cons] at hm
    have h1 := la_app.mp hl
    have h2 := col_app.mp hc
    have hq := hw t (List.mem_cons_self ..)
    have hqp := wf_pos hq
    have hw2 : wfs ts := fun z hz => hw z (List.mem_cons_of_mem _ hz)
    have hso := hsg op ho
    have e2 : (nI (so op) = (2 : Int32)) ↔ so op = 2 := by rw [show (2 : Int32) = nI 2 from rfl, nI_inj (by omega) (by decide)]
    have hfl := flat1_len (so := so) (un := un) (op := op) hq
    have hfp : (fpr so un op a t).length = (flat1 so un op t).length := by rw [← fpr_snd (so := so) (un := un) (op := op) (a := a), List.length_map]
    have next : ∀ f1 : Nat → Int32, la f1 0 (adr (xs ++ fpr so un op a t)) → ∃ f' : Nat → Int32, lx_stands_5 n fs fu (nI op) p1 m (nI (xs ++ fpr so un op a t).length) (nI (a + t.length)) fp (nI T) f1 = fin5 n fs fu (nI op) p1 (nI (xs ++ fprs so un op a (t :: ts)).length) (nI T) fp (nI T) f' ∧ la f' 0 (adr (xs ++ fprs so un op a (t :: ts))) := by
      intro f1 hf1
      have := lx_stands_5_ok (p1 := p1) hsg ho hn hT ts (xs ++ fpr so un op a t) f1 (a + t.length) m h1.2 hw2 h2.2 (by omega) hf1 (by rw [List.length_append]; omega) (by omega)
      rw [List.append_assoc] at this
      exact this
    have eL : lx_stands_5 n fs fu (nI op) p1 (m + 1) (nI xs.length) (nI a) fp (nI T) f = bx_stands_5 n fs fu (nI op) p1 (lx_stands_5 n fs fu (nI op) p1 m) (nI xs.length) (nI a) fp (nI T) f := rfl
    rw [eL]
    unfold bx_stands_5
    rw [if_neg (by rw [nI_le_iff (by omega) (by omega)]; omega), xr_n ho.1 (by decide), hso.1]
    have h80 : (so op = 2 → isop op t = false) → ∃ f' : Nat → Int32, jx_stands_80 n fs fu (nI op) p1 (lx_stands_5 n fs fu (nI op) p1 m) (nI xs.length) (nI a) fp (nI T) f = fin5 n fs fu (nI op) p1 (nI (xs ++ fprs so un op a (t :: ts)).length) (nI T) fp (nI T) f' ∧ la f' 0 (adr (xs ++ fprs so un op a (t :: ts))) := by
      intro hni
      obtain ⟨f1, g1, g2⟩ := jx_stands_80_ok (p1 := p1) (top := nI T) (k5 := lx_stands_5 n fs fu (nI op) p1 m) hsg ho hn h1.1 hq h2.1 (by omega) hs (by omega) hni
      obtain ⟨f', g3, g4⟩ := next f1 g2
      exact ⟨f', g1.trans g3, g4⟩
    by_cases q : so op = 2
    · rw [if_pos (e2.mpr q)]
      cases t with
      | nil => exact absurd hqp (by simp)
      | cons c l =>
        have hcc := cok_lt (col_cons.mp h2.1).1
        simp only [List.length_cons] at ha hN hqp
        rw [fx_operatorAt_ok h1.1.1 hcc (by omega), xb1_s]
        by_cases q2 : isop op (c :: l) = true
        · rw [if_pos ((isop_iff ho.1 hcc).mpr q2), fx_behind_ok h1.1 hq h2.1 (by simp only [List.length_cons]; omega) hn, xb1_s, xl_eq, nI_1]
          obtain ⟨k1, k2, k3⟩ := pts_of hq
          have hbh := fx_behind_ok h1.1 hq h2.1 (by simp only [List.length_cons]; omega) hn
          have efp : fpr so un op a (c :: l) = prs (a + 1) (pts (c :: l)) := by unfold fpr; rw [if_pos q, if_pos q2]
          have hpl : (pts (c :: l)).length ≤ l.length := by have := wf_len (wf_cons hq); omega
          obtain ⟨f1, g1, g2⟩ := lx_stands_48_ok (fs := fs) (fu := fu) (p0 := nI op) (p1 := p1) (top := nI T) (k5 := lx_stands_5 n fs fu (nI op) p1 m) hbh hn (pts (c :: l)) xs f (a + 1) n (by rw [k3]; exact h1.1.2) k1 (by rw [k3]; exact (col_cons.mp h2.1).2) (by rw [k3]; omega) hs (by omega) (by omega)
          rw [← efp] at g2
          obtain ⟨f', g3, g4⟩ := next f1 g2
          refine ⟨f', ?_, g4⟩
          rw [k3] at g1
          rw [show (xs ++ fpr so un op a (c :: l)).length = xs.length + (pts (c :: l)).length by rw [efp, List.length_append, prs_len]] at g3
          rw [List.length_cons, show a + (l.length + 1) = a + 1 + l.length by omega]
          rw [List.length_cons, show a + (l.length + 1) = a + 1 + l.length by omega] at g1 g3
          exact g1.trans g3
        · rw [if_neg (fun h9 => q2 ((isop_iff ho.1 hcc).mp h9))]
          exact h80 (fun _ => by simpa using q2)
    · rw [if_neg (fun h9 => q (e2.mp h9))]
      exact h80 (fun h9 => absurd h9 q)
theorem fx_stands_ok {n : Nat} {fs fu fp fsp : Nat → Int32} {so : Nat → Nat} {un : Nat → Option Nat} {op from_ : Nat} {ts : List (List Nat)} (hsg : SG fs fu so un) (ho : op < 10 ∧ so op ≠ 3) (hn : 100000 ≤ n) (hl : la fp from_ ts.flatten) (hw : wfs ts) (hc : col ts.flatten) (hN : ts.flatten.length < 512) (hT : from_ + 2 * ts.flatten.length < 60000) (hu : so op = 2 → flats so un op ts = [] → un op ≠ none) :
    ∃ f' fsp' : Nat → Int32, fx_stands n fs fu fp (nI (from_ + ts.flatten.length)) fsp (nI op) (nI from_) = some (nI from_, f', nI (from_ + (stand so un op ts).length), fsp') ∧ la f' from_ (stand so un op ts) ∧ ∀ i : Nat, i < from_ → f' i = fp i := by
  have hso := hsg op ho
  have htl : ts.length ≤ ts.flatten.length := wf_len (wf_flat hw)
  obtain ⟨f1, g1, g2⟩ := lx_stands_5_ok (p1 := nI from_) hsg ho hn (T := from_ + ts.flatten.length) (by omega) ts [] fsp from_ n hl hw hc rfl trivial (by simp only [List.length_nil]; omega) (by omega)
  simp only [List.nil_append, List.length_nil] at g1 g2
  have hfl := flats_len (so := so) (un := un) (op := op) hw
  have hsnd : (fprs so un op from_ ts).map Prod.snd = flats so un op ts := fprs_snd
  have hlen : (fprs so un op from_ ts).length = (flats so un op ts).length := by rw [← hsnd, List.length_map]
  have hok := fprs_ok (so := so) (un := un) (op := op) (T := from_ + ts.flatten.length) hl hw hc (Nat.le_refl _) (by omega)
  have e0 : (nI (so op) = (0 : Int32)) ↔ so op = 0 := by rw [show (0 : Int32) = nI 0 from rfl, nI_inj (by omega) (by decide)]
  unfold fx_stands stand
  rw [show (0 : Int32) = nI 0 from rfl, g1]
  unfold fin5
  rw [xr_n ho.1 (by decide), hso.1]
  by_cases q : so op = 0
  · rw [if_pos (e0.mpr q), if_pos q]
    obtain ⟨f', k1, k2, k3⟩ := jx_stands_156_ok (x4 := nI (from_ + ts.flatten.length)) (from_ := from_) hsg ho hn (show from_ ≤ from_ + ts.flatten.length by omega) g2 (by omega) hok (by rw [hsnd]; omega) (fun h9 _ => absurd h9 (by omega))
    rw [hsnd] at k1 k2
    exact ⟨f', f1, k1, k2, k3⟩
  · rw [if_neg (fun h9 => q (e0.mp h9)), if_neg q]
    obtain ⟨f2, s, s1, s2, s3, s4⟩ := fx_sorts_ok (n := n) (fun x hx => (hok x hx).1) g2 (by omega) hn
    rw [s1, xb1_s]
    have hsl := s3.length_eq
    have hfl2 : ((s.map Prod.snd).flatten).length = ((flats so un op ts).flatten).length := by
      rw [← hsnd]
      exact ((s3.map Prod.snd).flatten).length_eq
    rw [hsnd] at s4
    obtain ⟨f', k1, k2, k3⟩ := jx_stands_156_ok (x4 := nI (from_ + ts.flatten.length)) (from_ := from_) hsg ho hn (show from_ ≤ from_ + ts.flatten.length by omega) s2 (by omega) (fun x hx => hok x (s3.mem_iff.mp hx)) (by rw [hfl2]; omega) (fun h9 h8 => hu h9 (by rw [h8] at hsl; exact List.length_eq_zero_iff.mp (by simp at hsl; omega)))
    rw [s4, hsl] at k1
    rw [s4] at k2
    exact ⟨f', f2, k1, k2, k3⟩
