/-! ===== one step more of all that came last ===== -/
/-- what comes by one step -/
def stp (so : Nat → Nat) (un : Nat → Option Nat) (R : RulL) (on : Int32) (w x : List Nat) : Prop := ∃ s : StpE, isSt so un R on w.length w s ∧ s.2.2 = x
abbrev ERes := Option ((Nat → Int32) × Int32 × (Nat → Int32) × (Nat → Int32) × (Nat → Int32) × (Nat → Int32) × (Nat → Int32) × Int32 × Int32 × Int32 × (Nat → Int32) × Int32 × (Nat → Int32) × (Nat → Int32) × (Nat → Int32) × Int32 × (Nat → Int32) × (Nat → Int32) × (Nat → Int32))
abbrev K14 := Int32 → Int32 → (Nat → Int32) → Int32 → (Nat → Int32) → (Nat → Int32) → (Nat → Int32) → (Nat → Int32) → (Nat → Int32) → Int32 → Int32 → Int32 → (Nat → Int32) → Int32 → (Nat → Int32) → (Nat → Int32) → (Nat → Int32) → Int32 → (Nat → Int32) → (Nat → Int32) → (Nat → Int32) → ERes
/-- more than 50 rows -/
def TM50 (P : List Nat → Prop) : Prop := ∃ L : List (List Nat), L.Nodup ∧ 50 < L.length ∧ ∀ x ∈ L, P x
theorem TM50_mono {P Q : List Nat → Prop} (h : ∀ x : List Nat, P x → Q x) (ht : TM50 P) : TM50 Q := by
  obtain ⟨L, a, b, c⟩ := ht
  exact ⟨L, a, b, fun x hx => h x (c x hx)⟩
theorem not_TM50 {P : List Nat → Prop} {Q : List (List Nat)} (h : ∀ x : List Nat, x ∈ Q ↔ P x) (hl : Q.length ≤ 50) : ¬ TM50 P := by
  rintro ⟨L, a, b, c⟩
  have := nodup_le a (fun x hx => (h x).mpr (c x hx))
  omega
theorem lx_goesReach_55_ok {n : Nat} {fs fu fk : Nat → Int32} {so ma : Nat → Nat} {un : Nat → Option Nat} {nv l : Nat} {rules on x2 : Int32} {k14 : K14} {S : List StpE} {T k : Nat} {fsp fgp fgt fb fw ff fpl fru fr frd : Nat → Int32} {wt fm pv : Int32} (hn : 100000 ≤ n) (hl : l < 2) (hS : S.length ≤ 200) (hSL : SL fpl fru fr S) (htk : ∀ s ∈ S, tok so un ma nv s.2.2) (hT : T ≤ 50000) :
    ∀ (B A : List StpE) (m : Nat) (Q : List (List Nat)) (fp fre frm : Nat → Int32), S = A ++ B → RQ so un ma nv fre frm l Q → B.length + 1 < m →
      ∃ (fp' : Nat → Int32) (tm' : Int32) (fre' frm' : Nat → Int32), lx_goesReach_55 n fs fu fk rules on (nI l) k14 m x2 (nI k) (nI T) (nI A.length) fp (nI T) fsp fgp fgt fb fw wt fm pv ff 0 fpl fru fr (nI S.length) fre frm frd = k14 x2 (nI (k + 1)) fp' (nI T) fsp fgp fgt fb fw wt fm pv ff tm' fpl fru fr (nI S.length) fre' frm' frd ∧ RQo fre frm fre' frm' l ∧
        ((tm' = 0 ∧ ∃ N : List (List Nat), RQ so un ma nv fre' frm' l (Q ++ N) ∧ ∀ x : List Nat, x ∈ Q ++ N ↔ x ∈ Q ∨ ∃ s ∈ B, s.2.2 = x) ∨ (tm' = 1 ∧ TM50 (fun x => x ∈ Q ∨ ∃ s ∈ B, s.2.2 = x))) := by
  intro B
  induction B with
  | nil =>
    intro A m Q fp fre frm hA hQ hm
    cases m with
    | zero => omega
    | succ m =>
      refine ⟨fp, 0, fre, frm, ?_, RQo_refl, Or.inl ⟨rfl, [], by rw [List.append_nil]; exact hQ, fun x => by simp⟩⟩
      show bx_goesReach_55 n fs fu fk rules on (nI l) k14 (lx_goesReach_55 n fs fu fk rules on (nI l) k14 m) _ _ _ _ _ _ _ _ _ _ _ _ _ _ _ _ _ _ _ _ _ _ _ = _
      unfold bx_goesReach_55
      rw [hA, List.append_nil, if_pos (Int32.le_refl _), xl_eq, nI_1]
  | cons s B ih =>
    intro A m Q fp fre frm hA hQ hm
    simp only [List.length_cons] at hm
    cases m with
    | zero => omega
    | succ m =>
      have hlen : S.length = A.length + (B.length + 1) := by rw [hA]; simp
      have hs := htk s (by rw [hA]; exact List.mem_append_right _ (List.mem_cons_self ..))
      have hsl := tok_len hs
      have hSL' := hSL
      rw [hA] at hSL'
      obtain ⟨_, _, sg3⟩ := SL_get hSL'
      have sc := fx_stepComes_ok (n := n) (f := fp) (r := A.length) (t := T) sg3 hs.1.1.1 hs.1.1.2.1 (by omega) (by omega) hn
      obtain ⟨tm1, fre1, frm1, a1, a2, a3⟩ := fx_addsReach_ok (tm := 0) (fp := put fp T s.2.2) (a := T) hn hl hQ hs put_la (by omega)
      have st : lx_goesReach_55 n fs fu fk rules on (nI l) k14 (m + 1) x2 (nI k) (nI T) (nI A.length) fp (nI T) fsp fgp fgt fb fw wt fm pv ff 0 fpl fru fr (nI S.length) fre frm frd = lx_goesReach_55 n fs fu fk rules on (nI l) k14 m x2 (nI k) (nI T) (nI (A.length + 1)) (put fp T s.2.2) (nI T) fsp fgp fgt fb fw wt fm pv ff tm1 fpl fru fr (nI S.length) fre1 frm1 frd := by
        show bx_goesReach_55 n fs fu fk rules on (nI l) k14 (lx_goesReach_55 n fs fu fk rules on (nI l) k14 m) _ _ _ _ _ _ _ _ _ _ _ _ _ _ _ _ _ _ _ _ _ _ _ = _
        unfold bx_goesReach_55
        rw [if_neg (by rw [nI_le_iff (by omega) (by omega)]; omega), if_pos rfl, sc, xb3_s, a1, xb3_s, xl_eq, nI_1]
      rw [st]
      have hA2 : S = (A ++ [s]) ++ B := by rw [hA]; simp
      have hAl : (A ++ [s]).length = A.length + 1 := by simp
      have go : ∀ (Q1 : List (List Nat)), RQ so un ma nv fre1 frm1 l Q1 → (∃ N1 : List (List Nat), Q1 = Q ++ N1) → (∀ x : List Nat, x ∈ Q1 ↔ x ∈ Q ∨ s.2.2 = x) → tm1 = 0 →
          ∃ (fp' : Nat → Int32) (tm' : Int32) (fre' frm' : Nat → Int32), lx_goesReach_55 n fs fu fk rules on (nI l) k14 m x2 (nI k) (nI T) (nI (A.length + 1)) (put fp T s.2.2) (nI T) fsp fgp fgt fb fw wt fm pv ff tm1 fpl fru fr (nI S.length) fre1 frm1 frd = k14 x2 (nI (k + 1)) fp' (nI T) fsp fgp fgt fb fw wt fm pv ff tm' fpl fru fr (nI S.length) fre' frm' frd ∧ RQo fre frm fre' frm' l ∧
            ((tm' = 0 ∧ ∃ N : List (List Nat), RQ so un ma nv fre' frm' l (Q ++ N) ∧ ∀ x : List Nat, x ∈ Q ++ N ↔ x ∈ Q ∨ ∃ s' ∈ s :: B, s'.2.2 = x) ∨ (tm' = 1 ∧ TM50 (fun x => x ∈ Q ∨ ∃ s' ∈ s :: B, s'.2.2 = x))) := fun Q1 h1 h2 h3 h4 => by
        obtain ⟨N1, e1⟩ := h2
        obtain ⟨fp', tm', fre', frm', z1, z2, z3⟩ := ih (A ++ [s]) m Q1 (put fp T s.2.2) fre1 frm1 hA2 h1 (by omega)
        rw [hAl] at z1
        rw [h4]
        have mem : ∀ x : List Nat, (x ∈ Q1 ∨ ∃ s' ∈ B, s'.2.2 = x) ↔ (x ∈ Q ∨ ∃ s' ∈ s :: B, s'.2.2 = x) := fun x => by
          rw [h3 x]
          constructor
          · rintro ((h | h) | ⟨s', h, h'⟩)
            · exact Or.inl h
            · exact Or.inr ⟨s, List.mem_cons_self .., h⟩
            · exact Or.inr ⟨s', List.mem_cons_of_mem _ h, h'⟩
          · rintro (h | ⟨s', h, h'⟩)
            · exact Or.inl (Or.inl h)
            · rcases List.mem_cons.mp h with g | g
              · rw [g] at h'; exact Or.inl (Or.inr h')
              · exact Or.inr ⟨s', g, h'⟩
        refine ⟨fp', tm', fre', frm', z1, RQo_trans a2 z2, ?_⟩
        rcases z3 with ⟨q1, N, q2, q3⟩ | ⟨q1, q2⟩
        · rw [e1, List.append_assoc] at q2 q3
          exact Or.inl ⟨q1, N1 ++ N, q2, fun x => (q3 x).trans (by rw [← e1]; exact mem x)⟩
        · exact Or.inr ⟨q1, TM50_mono (fun x hx => (mem x).mp hx) q2⟩
      rcases a3 with ⟨b1, b2, b3⟩ | ⟨b1, b2, b3, b4⟩ | ⟨b1, b2, b3⟩
      · exact go Q b3 ⟨[], by simp⟩ (fun x => ⟨fun h => Or.inl h, fun h => by rcases h with h | h; exact h; rw [← h]; exact b1⟩) b2
      · exact go (Q ++ [s.2.2]) b4 ⟨_, rfl⟩ (fun x => by rw [List.mem_append, List.mem_singleton]; exact ⟨fun h => h.elim Or.inl (fun e => Or.inr e.symm), fun h => h.elim Or.inl (fun e => Or.inr e.symm)⟩) b3
      · refine ⟨put fp T s.2.2, 1, fre1, frm1, ?_, a2, Or.inr ⟨rfl, s.2.2 :: Q, List.nodup_cons.mpr ⟨b1, hQ.2.2.1⟩, by simp only [List.length_cons]; omega, fun x hx => ?_⟩⟩
        · rw [b3]
          cases m with
          | zero => omega
          | succ m =>
            show bx_goesReach_55 n fs fu fk rules on (nI l) k14 (lx_goesReach_55 n fs fu fk rules on (nI l) k14 m) _ _ _ _ _ _ _ _ _ _ _ _ _ _ _ _ _ _ _ _ _ _ _ = _
            unfold bx_goesReach_55
            by_cases z : nI S.length ≤ nI (A.length + 1)
            · rw [if_pos z, xl_eq, nI_1]
            · rw [if_neg z, if_neg (show ¬ (1 : Int32) = 0 by decide), xl_eq, nI_1]
        · rcases List.mem_cons.mp hx with g | g
          · exact Or.inr ⟨s, List.mem_cons_self .., g.symm⟩
          · exact Or.inl g
theorem lx_goesReach_14_stop {n m l q : Nat} {fs fu fk : Nat → Int32} {rules on x3 top wt fm pv M : Int32} {fp fsp fgp fgt fb fw ff fpl fru fr fre frm frd : Nat → Int32} (hl : l < 2) : lx_goesReach_14 n fs fu fk rules on (nI l) (m + 1) (nI q) x3 fp top fsp fgp fgt fb fw wt fm pv ff 1 fpl fru fr M fre frm frd = some (fp, top, fsp, fgp, fgt, fb, fw, wt, fm, pv, ff, 1, fpl, fru, fr, M, fre, frm, upd frd l (nI q)) := by
  show bx_goesReach_14 n fs fu fk rules on (nI l) (lx_goesReach_14 n fs fu fk rules on (nI l) m) _ _ _ _ _ _ _ _ _ _ _ _ _ _ _ _ _ _ _ _ _ = _
  unfold bx_goesReach_14
  by_cases z : nI q ≤ x3
  · rw [if_pos z, xw_n hl (by decide)]
  · rw [if_neg z, if_neg (show ¬ (1 : Int32) = 0 by decide), xw_n hl (by decide)]
theorem lx_goesReach_14_ok {n : Nat} {fs fu fk : Nat → Int32} {so ma : Nat → Nat} {un : Nat → Option Nat} {nv l : Nat} {on : Int32} {R : RulL} {Q : List (List Nat)} (hn : 100000 ≤ n) (hsg : SG fs fu so un) (hsv : SV so un ma nv) (hR : KR2 so un ma nv fk R) (hl : l < 2) :
    ∀ (d k m : Nat) (N : List (List Nat)) (fp fsp fgp fgt fb fw ff fpl fru fr fre frm frd : Nat → Int32) (top wt fm pv M : Int32), k + d = Q.length → RQ so un ma nv fre frm l (Q ++ N) → d + 1 < m →
      ∃ (fp' : Nat → Int32) (top' : Int32) (fsp' fgp' fgt' fb' fw' : Nat → Int32) (wt' fm' pv' : Int32) (ff' : Nat → Int32) (tm' : Int32) (fpl' fru' fr' : Nat → Int32) (M' : Int32) (fre' frm' : Nat → Int32), lx_goesReach_14 n fs fu fk (nI R.length) on (nI l) m (nI Q.length) (nI k) fp top fsp fgp fgt fb fw wt fm pv ff 0 fpl fru fr M fre frm frd = some (fp', top', fsp', fgp', fgt', fb', fw', wt', fm', pv', ff', tm', fpl', fru', fr', M', fre', frm', upd frd l (nI Q.length)) ∧ RQo fre frm fre' frm' l ∧
        ((tm' = 0 ∧ (∀ i : Nat, k ≤ i → i < Q.length → ¬ TMs so un R (ron on R.length) (nth Q i).length (nth Q i)) ∧ ∃ N' : List (List Nat), RQ so un ma nv fre' frm' l (Q ++ N') ∧ ∀ x : List Nat, x ∈ Q ++ N' ↔ x ∈ Q ++ N ∨ ∃ i : Nat, k ≤ i ∧ i < Q.length ∧ stp so un R (ron on R.length) (nth Q i) x) ∨
         (tm' = 1 ∧ ((∃ i : Nat, k ≤ i ∧ i < Q.length ∧ TMs so un R (ron on R.length) (nth Q i).length (nth Q i)) ∨ TM50 (fun x => x ∈ Q ++ N ∨ ∃ i : Nat, k ≤ i ∧ i < Q.length ∧ stp so un R (ron on R.length) (nth Q i) x)))) := by
  intro d
  induction d with
  | zero =>
    intro k m N fp fsp fgp fgt fb fw ff fpl fru fr fre frm frd top wt fm pv M hk hQ hm
    cases m with
    | zero => omega
    | succ m =>
      refine ⟨fp, top, fsp, fgp, fgt, fb, fw, wt, fm, pv, ff, 0, fpl, fru, fr, M, fre, frm, ?_, RQo_refl, Or.inl ⟨rfl, fun i h1 h2 => by omega, N, hQ, fun x => ⟨fun h => Or.inl h, fun h => ?_⟩⟩⟩
      · show bx_goesReach_14 n fs fu fk (nI R.length) on (nI l) (lx_goesReach_14 n fs fu fk (nI R.length) on (nI l) m) _ _ _ _ _ _ _ _ _ _ _ _ _ _ _ _ _ _ _ _ _ = _
        unfold bx_goesReach_14
        rw [show k = Q.length by omega, if_pos (Int32.le_refl _), xw_n hl (by decide)]
      · rcases h with h | ⟨i, h1, h2, _⟩
        · exact h
        · omega
  | succ d ih =>
    intro k m N fp fsp fgp fgt fb fw ff fpl fru fr fre frm frd top wt fm pv M hk hQ hm
    cases m with
    | zero => omega
    | succ m =>
      have hQN := hQ.1
      rw [List.length_append] at hQN
      have hkQ : k < (Q ++ N).length := by rw [List.length_append]; omega
      obtain ⟨k1, k2, k3, k4⟩ := RQ_get hQ hkQ
      have en : nth (Q ++ N) k = nth Q k := nth_app1 (by omega)
      have rc := reachComes_ok (fp := fp) (top := 0) hn hl hQ hkQ (by decide)
      rw [en] at k1 k2 k3 rc
      rw [Nat.zero_add] at rc
      obtain ⟨f1, sp1, gp1, gt1, b1, w1, wt1, fm1, pv1, ff1, tm1, pl1, ru1, fr1, M1, g1, g2, g3⟩ := fx_laysSteps_ok (fsp := fsp) (fgp := fgp) (fgt := fgt) (fb := fb) (fw := fw) (ff := ff) (fpl := fpl) (fru := fru) (fr := fr) (wt := wt) (fm := fm) (pv := pv) (M := M) (on := ron on R.length) (top := false) (T := (nth Q k).length) (wa := 0) hn hsg (SV_SU hsv) k1.1 k1.2.1 (by omega) hR.1 (by omega) (put_la (f := fp) (a := 0) (l := nth Q k))
      have g3' : LSO so un R (ron on R.length) (nth Q k).length (nth Q k) tm1 pl1 ru1 fr1 M1 := g3
      have st : lx_goesReach_14 n fs fu fk (nI R.length) on (nI l) (m + 1) (nI Q.length) (nI k) fp top fsp fgp fgt fb fw wt fm pv ff 0 fpl fru fr M fre frm frd = lx_goesReach_55 n fs fu fk (nI R.length) on (nI l) (lx_goesReach_14 n fs fu fk (nI R.length) on (nI l) m) n (nI Q.length) (nI k) (nI (nth Q k).length) 0 f1 (nI (nth Q k).length) sp1 gp1 gt1 b1 w1 wt1 fm1 pv1 ff1 tm1 pl1 ru1 fr1 M1 fre frm frd := by
        show bx_goesReach_14 n fs fu fk (nI R.length) on (nI l) (lx_goesReach_14 n fs fu fk (nI R.length) on (nI l) m) _ _ _ _ _ _ _ _ _ _ _ _ _ _ _ _ _ _ _ _ _ = _
        unfold bx_goesReach_14
        have e8 : ob false = (0 : Int32) := rfl
        have e9 : nI 0 = (0 : Int32) := rfl
        rw [e8, e9] at g1
        rw [e9] at rc
        rw [if_neg (by rw [nI_le_iff (by omega) (by omega)]; omega), if_pos rfl, rc, xb3_s, fx_rulesOn_ok, xb1_s, g1, xb16_s]
      rw [st]
      rcases g3' with ⟨t0, t1, S, s1, s2, s3, s4, s5, s6⟩ | ⟨t0, t1⟩
      · have hStL : StL so un R (ron on R.length) (nth Q k).length (nth Q k) S := ⟨s1, s2, s3, s6, t1⟩
        have htk := StL_tok hsv hR k1 (Nat.le_refl _) hStL
        subst t0 s5
        obtain ⟨f2, tm2, fre2, frm2, a1, a2, a3⟩ := lx_goesReach_55_ok (fs := fs) (fu := fu) (fk := fk) (rules := nI R.length) (on := on) (x2 := nI Q.length) (k14 := lx_goesReach_14 n fs fu fk (nI R.length) on (nI l) m) (T := (nth Q k).length) (k := k) (fsp := sp1) (fgp := gp1) (fgt := gt1) (fb := b1) (fw := w1) (ff := ff1) (frd := frd) (wt := wt1) (fm := fm1) (pv := pv1) hn hl s3 s4 (fun s hs => (htk s hs).1) (by omega) S [] n (Q ++ N) f1 fre frm rfl hQ (by omega)
        have a1' : lx_goesReach_55 n fs fu fk (nI R.length) on (nI l) (lx_goesReach_14 n fs fu fk (nI R.length) on (nI l) m) n (nI Q.length) (nI k) (nI (nth Q k).length) 0 f1 (nI (nth Q k).length) sp1 gp1 gt1 b1 w1 wt1 fm1 pv1 ff1 0 pl1 ru1 fr1 (nI S.length) fre frm frd = _ := a1
        rw [a1']
        have step : ∀ x : List Nat, (∃ s ∈ S, s.2.2 = x) ↔ stp so un R (ron on R.length) (nth Q k) x := fun x => by
          constructor
          · rintro ⟨s, h1, h2⟩; exact ⟨s, (s6 s).mp h1, h2⟩
          · rintro ⟨s, h1, h2⟩; exact ⟨s, (s6 s).mpr h1, h2⟩
        rcases a3 with ⟨q1, N1, q2, q3⟩ | ⟨q1, q2⟩
        · subst q1
          rw [List.append_assoc] at q2 q3
          obtain ⟨fp', top', fsp', fgp', fgt', fb', fw', wt', fm', pv', ff', tm', fpl', fru', fr', M', fre', frm', z1, z2, z3⟩ := ih (k + 1) m (N ++ N1) f2 sp1 gp1 gt1 b1 w1 ff1 pl1 ru1 fr1 fre2 frm2 frd (nI (nth Q k).length) wt1 fm1 pv1 (nI S.length) (by omega) q2 (by omega)
          have mem : ∀ x : List Nat, (x ∈ Q ++ (N ++ N1) ∨ ∃ i : Nat, k + 1 ≤ i ∧ i < Q.length ∧ stp so un R (ron on R.length) (nth Q i) x) ↔ (x ∈ Q ++ N ∨ ∃ i : Nat, k ≤ i ∧ i < Q.length ∧ stp so un R (ron on R.length) (nth Q i) x) := fun x => by
            rw [q3 x, step x]
            constructor
            · rintro ((h | h) | ⟨i, h1, h2, h3⟩)
              · exact Or.inl h
              · exact Or.inr ⟨k, Nat.le_refl _, by omega, h⟩
              · exact Or.inr ⟨i, by omega, h2, h3⟩
            · rintro (h | ⟨i, h1, h2, h3⟩)
              · exact Or.inl (Or.inl h)
              · by_cases e : i = k
                · rw [e] at h3; exact Or.inl (Or.inr h3)
                · exact Or.inr ⟨i, by omega, h2, h3⟩
          refine ⟨fp', top', fsp', fgp', fgt', fb', fw', wt', fm', pv', ff', tm', fpl', fru', fr', M', fre', frm', z1, RQo_trans a2 z2, ?_⟩
          rcases z3 with ⟨y1, y2, N', y3, y4⟩ | ⟨y1, y2⟩
          · refine Or.inl ⟨y1, fun i h1 h2 => ?_, N', y3, fun x => (y4 x).trans (mem x)⟩
            by_cases e : i = k
            · rw [e]; exact t1
            · exact y2 i (by omega) h2
          · refine Or.inr ⟨y1, ?_⟩
            rcases y2 with ⟨i, h1, h2, h3⟩ | h
            · exact Or.inl ⟨i, by omega, h2, h3⟩
            · exact Or.inr (TM50_mono (fun x hx => (mem x).mp hx) h)
        · subst q1
          obtain ⟨m', rfl⟩ : ∃ m', m = m' + 1 := ⟨m - 1, by omega⟩
          rw [lx_goesReach_14_stop hl]
          refine ⟨_, _, _, _, _, _, _, _, _, _, _, _, _, _, _, _, _, _, rfl, a2, Or.inr ⟨rfl, Or.inr (TM50_mono (fun x hx => ?_) q2)⟩⟩
          rcases hx with h | h
          · exact Or.inl h
          · exact Or.inr ⟨k, Nat.le_refl _, by omega, (step x).mp h⟩
      · subst t0
        obtain ⟨n', hn'⟩ : ∃ n', n = n' + 1 := ⟨n - 1, by omega⟩
        obtain ⟨m', rfl⟩ : ∃ m', m = m' + 1 := ⟨m - 1, by omega⟩
        have st2 : ∀ n9 : Nat, lx_goesReach_55 n fs fu fk (nI R.length) on (nI l) (lx_goesReach_14 n fs fu fk (nI R.length) on (nI l) (m' + 1)) (n9 + 1) (nI Q.length) (nI k) (nI (nth Q k).length) 0 f1 (nI (nth Q k).length) sp1 gp1 gt1 b1 w1 wt1 fm1 pv1 ff1 1 pl1 ru1 fr1 M1 fre frm frd = lx_goesReach_14 n fs fu fk (nI R.length) on (nI l) (m' + 1) (nI Q.length) (nI (k + 1)) f1 (nI (nth Q k).length) sp1 gp1 gt1 b1 w1 wt1 fm1 pv1 ff1 1 pl1 ru1 fr1 M1 fre frm frd := fun n9 => by
          show bx_goesReach_55 n fs fu fk (nI R.length) on (nI l) _ (lx_goesReach_55 n fs fu fk (nI R.length) on (nI l) _ n9) _ _ _ _ _ _ _ _ _ _ _ _ _ _ _ _ _ _ _ _ _ _ _ = _
          unfold bx_goesReach_55
          by_cases z : M1 ≤ (0 : Int32)
          · rw [if_pos z, xl_eq, nI_1]
          · rw [if_neg z, if_neg (show ¬ (1 : Int32) = 0 by decide), xl_eq, nI_1]
        have st3 := st2 n'
        rw [← hn'] at st3
        rw [st3, lx_goesReach_14_stop hl]
        exact ⟨_, _, _, _, _, _, _, _, _, _, _, _, _, _, _, _, _, _, rfl, RQo_refl, Or.inr ⟨rfl, Or.inl ⟨k, Nat.le_refl _, by omega, t1⟩⟩⟩
/-! ===== what is reached by so many steps ===== -/
def rch (so : Nat → Nat) (un : Nat → Option Nat) (R : RulL) (on : Int32) (t : List Nat) : Nat → List Nat → Prop
  | 0, x => x = t
  | k + 1, x => rch so un R on t k x ∨ ∃ w : List Nat, rch so un R on t k w ∧ stp so un R on w x
theorem rch_mono {so : Nat → Nat} {un : Nat → Option Nat} {R : RulL} {on : Int32} {t x : List Nat} {i : Nat} : ∀ {j : Nat}, i ≤ j → rch so un R on t i x → rch so un R on t j x
  | 0, h, hx => by have : i = 0 := by omega
                   rw [this] at hx; exact hx
  | j + 1, h, hx => by
    by_cases q : i = j + 1
    · rw [q] at hx; exact hx
    · exact Or.inl (rch_mono (by omega) hx)
/-- it is too much -/
def TMr (so : Nat → Nat) (un : Nat → Option Nat) (R : RulL) (on : Int32) (t : List Nat) (j : Nat) : Prop := (∃ (i : Nat) (w : List Nat), i < j ∧ rch so un R on t i w ∧ TMs so un R on w.length w) ∨ TM50 (rch so un R on t j)
/-- a list holds what is reached by j steps; the first dn of it were asked -/
def LV (so : Nat → Nat) (un : Nat → Option Nat) (ma : Nat → Nat) (nv : Nat) (R : RulL) (on : Int32) (t : List Nat) (j : Nat) (fre frm frd : Nat → Int32) (l : Nat) (Q : List (List Nat)) (dn : Nat) : Prop :=
  RQ so un ma nv fre frm l Q ∧ (∀ x : List Nat, x ∈ Q ↔ rch so un R on t j x) ∧ dn ≤ Q.length ∧ frd l = nI dn ∧ (∀ i : Nat, i < dn → ¬ TMs so un R on (nth Q i).length (nth Q i) ∧ ∀ x : List Nat, stp so un R on (nth Q i) x → x ∈ Q) ∧ ∀ (i : Nat) (w : List Nat), i < j → rch so un R on t i w → ¬ TMs so un R on w.length w
theorem LV_not {so : Nat → Nat} {un : Nat → Option Nat} {ma : Nat → Nat} {nv : Nat} {R : RulL} {on : Int32} {t : List Nat} {j l dn : Nat} {fre frm frd : Nat → Int32} {Q : List (List Nat)} (h : LV so un ma nv R on t j fre frm frd l Q dn) : ¬ TMr so un R on t j := by
  rintro (⟨i, w, h1, h2, h3⟩ | h1)
  · exact h.2.2.2.2.2 i w h1 h2 h3
  · exact not_TM50 h.2.1 h.1.1 h1
theorem fx_goesReach_ok {n : Nat} {fs fu fk fp fsp fgp fgt fb fw ff fpl fru fr fre frm frd : Nat → Int32} {so ma : Nat → Nat} {un : Nat → Option Nat} {nv l j dn : Nat} {top on wt fm pv M : Int32} {R : RulL} {t : List Nat} {Q : List (List Nat)} (hn : 100000 ≤ n) (hsg : SG fs fu so un) (hsv : SV so un ma nv) (hR : KR2 so un ma nv fk R) (hl : l < 2) (h : LV so un ma nv R (ron on R.length) t j fre frm frd l Q dn) :
    ∃ (fp' : Nat → Int32) (top' : Int32) (fsp' fgp' fgt' fb' fw' : Nat → Int32) (wt' fm' pv' : Int32) (ff' : Nat → Int32) (tm' : Int32) (fpl' fru' fr' : Nat → Int32) (M' : Int32) (fre' frm' frd' : Nat → Int32), fx_goesReach n fs fu fp top fsp fk (nI R.length) on fgp fgt fb fw wt fm pv ff 0 fpl fru fr M fre frm frd (nI l) = some (fp', top', fsp', fgp', fgt', fb', fw', wt', fm', pv', ff', tm', fpl', fru', fr', M', fre', frm', frd') ∧ RQo fre frm fre' frm' l ∧ (∀ o : Nat, o ≠ l → o < 2 → frd' o = frd o) ∧
      ((tm' = 0 ∧ ∃ Q' : List (List Nat), LV so un ma nv R (ron on R.length) t (j + 1) fre' frm' frd' l Q' Q.length) ∨ (tm' = 1 ∧ TMr so un R (ron on R.length) t (j + 1))) := by
  obtain ⟨h1, h2, h3, h4, h5, h6⟩ := h
  have hQ := h1.1
  obtain ⟨fp', top', fsp', fgp', fgt', fb', fw', wt', fm', pv', ff', tm', fpl', fru', fr', M', fre', frm', z1, z2, z3⟩ := lx_goesReach_14_ok (on := on) (Q := Q) hn hsg hsv hR hl (Q.length - dn) dn n [] fp fsp fgp fgt fb fw ff fpl fru fr fre frm frd top wt fm pv M (by omega) (by rw [List.append_nil]; exact h1) (by omega)
  have e : fx_goesReach n fs fu fp top fsp fk (nI R.length) on fgp fgt fb fw wt fm pv ff 0 fpl fru fr M fre frm frd (nI l) = some (fp', top', fsp', fgp', fgt', fb', fw', wt', fm', pv', ff', tm', fpl', fru', fr', M', fre', frm', upd frd l (nI Q.length)) := by
    unfold fx_goesReach
    rw [xr_n hl (by decide), h1.2.2.2.1, xr_n hl (by decide), h4]
    exact z1
  have hstep : ∀ (i : Nat) (x : List Nat), i < Q.length → stp so un R (ron on R.length) (nth Q i) x → rch so un R (ron on R.length) t (j + 1) x := fun i x hi hx => Or.inr ⟨nth Q i, (h2 _).mp (nth_mem hi), hx⟩
  refine ⟨fp', top', fsp', fgp', fgt', fb', fw', wt', fm', pv', ff', tm', fpl', fru', fr', M', fre', frm', _, e, z2, fun o ho _ => upd_ne ho, ?_⟩
  rcases z3 with ⟨y1, y2, N', y3, y4⟩ | ⟨y1, y2⟩
  · have nt : ∀ i : Nat, i < Q.length → ¬ TMs so un R (ron on R.length) (nth Q i).length (nth Q i) := fun i hi => by
      by_cases q : i < dn
      · exact (h5 i q).1
      · exact y2 i (by omega) hi
    have all : ∀ (i : Nat) (x : List Nat), i < Q.length → stp so un R (ron on R.length) (nth Q i) x → x ∈ Q ++ N' := fun i x hi hx => by
      rw [y4 x, List.append_nil]
      by_cases q : i < dn
      · exact Or.inl ((h5 i q).2 x hx)
      · exact Or.inr ⟨i, by omega, hi, hx⟩
    refine Or.inl ⟨y1, Q ++ N', y3, fun x => ?_, by rw [List.length_append]; omega, upd_eq _ _ _, fun i hi => ?_, fun i w hi hw => ?_⟩
    · constructor
      · intro hx
        rcases (y4 x).mp hx with q | ⟨i, _, q2, q3⟩
        · rw [List.append_nil] at q
          exact Or.inl ((h2 x).mp q)
        · exact hstep i x q2 q3
      · rintro (q | ⟨w, q1, q2⟩)
        · exact List.mem_append_left _ ((h2 x).mpr q)
        · obtain ⟨i, i1, i2⟩ := mem_nth ((h2 w).mpr q1)
          rw [← i2] at q2
          exact all i x i1 q2
    · rw [nth_app1 hi]
      exact ⟨nt i hi, fun x hx => all i x hi hx⟩
    · by_cases q : i = j
      · rw [q] at hw
        obtain ⟨i', i1, i2⟩ := mem_nth ((h2 w).mpr hw)
        rw [← i2]; exact nt i' i1
      · exact h6 i w (by omega) hw
  · refine Or.inr ⟨y1, ?_⟩
    rcases y2 with ⟨i, _, q2, q3⟩ | q
    · exact Or.inl ⟨j, nth Q i, by omega, (h2 _).mp (nth_mem q2), q3⟩
    · refine Or.inr (TM50_mono (fun x hx => ?_) q)
      rcases hx with hx | ⟨i, _, q2, q3⟩
      · rw [List.append_nil] at hx
        exact Or.inl ((h2 x).mp hx)
      · exact hstep i x q2 q3
/-- nothing is asked any more once it is too much -/
theorem fx_goesReach_one {n : Nat} {fs fu fk fp fsp fgp fgt fb fw ff fpl fru fr fre frm frd : Nat → Int32} {l q d : Nat} {top on wt fm pv M rules : Int32} (hn : 100000 ≤ n) (hl : l < 2) (h1 : frm l = nI q) : fx_goesReach n fs fu fp top fsp fk rules on fgp fgt fb fw wt fm pv ff 1 fpl fru fr M fre frm frd (nI l) = some (fp, top, fsp, fgp, fgt, fb, fw, wt, fm, pv, ff, 1, fpl, fru, fr, M, fre, frm, upd frd l (nI q)) := by
  unfold fx_goesReach
  obtain ⟨n', rfl⟩ : ∃ n', n = n' + 1 := ⟨n - 1, by omega⟩
  rw [xr_n hl (by decide), h1, xr_n hl (by decide)]
  exact lx_goesReach_14_stop hl
