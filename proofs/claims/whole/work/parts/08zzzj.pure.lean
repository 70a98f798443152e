/-! ===== rule, turn: the class ===== -/
theorem sign61 {L : List Nat} {q : Nat} {h : Nat → Nat → Int32} (hs : SCN h L q) : (isb L q 61 61 = true ∧ h 0 3 = 3 ∧ h 0 5 = 61) ∨ (isb L q 61 61 = false ∧ ¬ (h 0 3 = 3 ∧ h 0 5 = 61)) := by
  have e := fx_isSign_c (n := 0) (c := 61) hs (by omega)
  unfold fx_X3_isSign at e
  cases y : isb L q 61 61 with
  | true =>
    obtain ⟨y1, y2⟩ := isb_one.mp y
    obtain ⟨t1, t2, t3⟩ := tks_sign (Or.inr (Or.inr (Or.inr (Or.inr rfl)))) y1 y2
    refine Or.inl ⟨rfl, ?_, ?_⟩
    · rw [hs.2.2.2.2.2.1, t1]; rfl
    · rw [hs.2.2.2.2.2.2.2, t2]; rfl
  | false =>
    refine Or.inr ⟨rfl, ?_⟩
    rintro ⟨a, b⟩
    rw [y, if_pos a, if_pos (by rw [b]; rfl)] at e
    exact absurd e (by decide)
theorem fx_rule_c {n : Nat} {xx h v ga rd rs : Nat → Nat → Int32} {w : Nat → Nat → Int64} {ops : List OpE} {vs : List (List Nat)} {L : List Nat} {R : RulL} {las0 : Nat → Bool} {N0 : List (List Nat)} {on : Int32} (hn : 100000 ≤ n) (hg : SGW ga ops vs) (hpt : PTK (soF ops) (maF ops) (unF ops) vs.length L (ptm (soF ops) (maF ops) (unF ops) (nmF ops vs) ops.length vs.length L)) (ht : TPC h L) (h0 : h 0 0 = nI L.length) (hT : TB v w las0 N0) (hR8 : R.length ≤ 8) (hR : RWS 16 rs (sdl R)) :
    ∃ (x r : Int32) (xx' h' v' : Nat → Nat → Int32) (w' : Nat → Nat → Int64) (rd' rs' : Nat → Nat → Int32) (R' : RulL) (on' : Int32), fx_X9_rule n xx h v w ga rd rs = some (x, r, xx', h', v', w', rd', rs') ∧ h' 0 0 = nI 0 ∧ TPC h' [] ∧ RWS 16 rs' (sdl R') ∧ (∃ (las : Nat → Bool) (N : List (List Nat)), TB v' w' las N) ∧ ((R' = R ∧ xx' 0 0 = xx 0 0) ∨ (R'.length = R.length + 1 ∧ xx' 0 0 = xx 0 0 ||| ((1 : Int32) <<< (nI R.length &&& 31)))) ∧
      RUL (soF ops) L (ptm (soF ops) (maF ops) (unF ops) (nmF ops vs) ops.length vs.length L 401) R R' on on' (xx' 0 1) x r := by
  have he := ENV_of hg
  obtain ⟨h1, a1, a2, a3⟩ := fx_open_c (n := n) hn ht h0
  obtain ⟨v1, b1, b2, b3⟩ := fx_clear8_c (n := n) hn hT
  have b2' := TB_las (las' := lasW (ga 0 2)) b2
  have hL4 := ht.1
  have rr := fx_read1_c (n := n) (p := 0) (rd := rd) (h := h1) (v := v1) (w := w) (N := []) hn he (SGW_ma hg) hg.2.2.1 hg.2.2.2.2.1 hpt (Nat.zero_le _) a3 a2 b2' b3 (Nat.zero_le _)
  have pt0 := hpt 401 0 (Nat.zero_le _) (by omega)
  unfold fx_X9_rule
  rw [a1, xb1_s, b1, xb1_s]
  generalize eg : ptm (soF ops) (maF ops) (unF ops) (nmF ops vs) ops.length vs.length L = g at *
  rcases rr with ⟨c1, rd2, h2, v2, w2, N2, c2, c3, c4, c5⟩ | ⟨t, c1, r, rd2, h2, v2, w2, N2, c2, c3, c4, c5, c6, c7, c8, c9⟩
  · rw [c2, xb5_s, if_pos rfl]
    unfold jx_X9_rule_57
    rw [fx_checkText_0, xb2_s, if_neg (by decide)]
    exact ⟨_, _, _, _, _, _, _, _, R, on, rfl, c4, TPC_nil, hR, ⟨_, _, c5⟩, Or.inl ⟨rfl, mu0_ne (by decide)⟩, Or.inl ⟨c1, rfl, by rw [mu0_eq]; exact c3.2.2.2.2.1, rfl, rfl, rfl⟩⟩
  · rw [c2, xb5_s, if_neg (VAL_ne2 c3 c6.1)]
    have p1L := pt0.2.1
    have eis : isG L (g 401 0).2.1 61 = isb L (bk L (g 401 0).2.1) 61 61 := rfl
    have second : ∀ (th r' fa : Int32) (R' : RulL) (on' : Int32), ((isG L (g 401 0).2.1 61 = false ∧ th = 1 ∧ fa = nI (bk L (g 401 0).2.1) ∧ R' = R ∧ on' = on ∧ r' = 0) ∨
     (isG L (g 401 0).2.1 61 = true ∧
      (((g 401 (bk L (g 401 0).2.1 + 1)).1 = none ∧ th = 1 ∧ fa = nI (g 401 (bk L (g 401 0).2.1 + 1)).2.2 ∧ R' = R ∧ on' = on ∧ r' = 0) ∨
       (∃ t' : List Nat, (g 401 (bk L (g 401 0).2.1 + 1)).1 = some t' ∧
         ((bk L (g 401 (bk L (g 401 0).2.1 + 1)).2.1 ≠ L.length ∧ th = 1 ∧ fa = nI (bk L (g 401 (bk L (g 401 0).2.1 + 1)).2.1) ∧ R' = R ∧ on' = on ∧ r' = 0) ∨
          (bk L (g 401 (bk L (g 401 0).2.1 + 1)).2.1 = L.length ∧ fa = -1 ∧
            (((great (soF ops) t = true ∨ great (soF ops) t' = true ∨ hdc t < 512 ∨ ¬ vsb t t' ∨ R.length = 8) ∧ th = 2 ∧ R' = R ∧ on' = on ∧ r' = 0) ∨
             (great (soF ops) t = false ∧ great (soF ops) t' = false ∧ 512 ≤ hdc t ∧ vsb t t' ∧ R.length < 8 ∧ th = 0 ∧ R' = R ++ [(t, t')] ∧ r' = nI R.length ∧ on' = if R.length = 0 then 1 else on ||| ((1 : Int32) <<< (nI R.length &&& 31)))))))))) → RUL (soF ops) L (g 401) R R' on on' fa th r' := fun th r' fa R' on' q => Or.inr ⟨t, c1, q⟩
    have cL : col t := (pt0.2.2 t c1).1.1.2.1
    generalize hp1 : (g 401 0).2.1 = p1 at *
    rcases sign61 c4 with ⟨y, y3, y5⟩ | ⟨y, y3⟩
    · rw [y3, if_pos rfl, y5, if_pos rfl]
      unfold jx_X9_rule_57
      obtain ⟨yy1, yy2⟩ := isb_one.mp y
      obtain ⟨t1, t2, t3⟩ := tks_sign (Or.inr (Or.inr (Or.inr (Or.inr rfl)))) yy1 yy2
      obtain ⟨h3, d1, d2, d3⟩ := fx_advance_c (n := n) hn c4
      rw [t3] at d3
      have q3 := bk_ge (L := L) (p := bk L p1 + 1)
      have rr2 := fx_read1_c (n := n) (p := bk L p1 + 1) (rd := rd2) (h := h3) (v := v2) (w := w2) (N := N2) hn he (SGW_ma hg) hg.2.2.1 hg.2.2.2.2.1 (by rw [eg]; exact hpt) (by omega) d3 (d2.2.1.trans c5) c6 c7 (by omega)
      rw [eg] at rr2
      have pt1 := hpt 401 (bk L p1 + 1) (by omega) (by omega)
      rw [fx_checkText_1, xb2_s, if_pos rfl, d1, xb1_s]
      have yG : isG L p1 61 = true := by rw [eis]; exact y
      rcases rr2 with ⟨e1, rd4, h4, v4, w4, N4, e2, e3, e4, e5⟩ | ⟨t', e1, r', rd4, h4, v4, w4, N4, e2, e3, e4, e5, e6, e7, e8, e9⟩
      · rw [e2, xb5_s, if_pos rfl]
        unfold jx_X9_rule_97
        rw [fx_checkText_0, xb2_s, if_neg (by decide)]
        exact ⟨_, _, _, _, _, _, _, _, R, on, rfl, e4, TPC_nil, hR, ⟨_, _, e5⟩, Or.inl ⟨rfl, by rw [mu0_ne (by decide), mu0_ne (by decide)]⟩, second _ _ _ _ _ (Or.inr ⟨yG, Or.inl ⟨e1, rfl, by rw [mu0_eq]; exact e3.2.2.2.2.1, rfl, rfl, rfl⟩⟩)⟩
      · rw [e2, xb5_s, if_neg (VAL_ne2 e3 e6.1), e4.2.2.2.2.2.1]
        have cR : col t' := (pt1.2.2 t' e1).1.1.2.1
        have hq4 := e4.2.1
        generalize hp2 : (g 401 (bk L p1 + 1)).2.1 = p2 at *
        by_cases z : bk L p2 = L.length
        · rw [tks_0.mpr (by omega), if_pos (show nI 0 = 0 by decide)]
          unfold jx_X9_rule_97
          rw [fx_checkText_1, xb2_s, if_pos rfl]
          have bad : (great (soF ops) t = true ∨ great (soF ops) t' = true ∨ hdc t < 512 ∨ ¬ vsb t t' ∨ R.length = 8) → ∃ (x r0 : Int32) (xx' h' v' : Nat → Nat → Int32) (w' : Nat → Nat → Int64) (rd' rs' : Nat → Nat → Int32) (R' : RulL) (on' : Int32), (some ((2 : Int32), (0 : Int32), mu (mu xx 0 1 (-1)) 0 1 (-1), h4, v4, w4, rd4, rs) : Option (Int32 × Int32 × (Nat → Nat → Int32) × (Nat → Nat → Int32) × (Nat → Nat → Int32) × (Nat → Nat → Int64) × (Nat → Nat → Int32) × (Nat → Nat → Int32))) = some (x, r0, xx', h', v', w', rd', rs') ∧ h' 0 0 = nI 0 ∧ TPC h' [] ∧ RWS 16 rs' (sdl R') ∧ (∃ (las : Nat → Bool) (N : List (List Nat)), TB v' w' las N) ∧ ((R' = R ∧ xx' 0 0 = xx 0 0) ∨ (R'.length = R.length + 1 ∧ xx' 0 0 = xx 0 0 ||| ((1 : Int32) <<< (nI R.length &&& 31)))) ∧ RUL (soF ops) L (g 401) R R' on on' (xx' 0 1) x r0 := fun q =>
            ⟨_, _, _, _, _, _, _, _, R, on, rfl, e5, TPC_nil, hR, ⟨_, _, e6⟩, Or.inl ⟨rfl, by rw [mu0_ne (by decide), mu0_ne (by decide)]⟩, second _ _ _ _ _ (Or.inr ⟨yG, Or.inr ⟨t', e1, Or.inr ⟨z, mu0_eq, Or.inl ⟨q, rfl, rfl, rfl, rfl⟩⟩⟩⟩)⟩
          obtain ⟨E, hE⟩ := e9
          have c3' := VAL_ext (E := E) c3
          rw [← hE] at c3'
          have lN := e6.1
          rcases c3' with ⟨g1, g2⟩ | ⟨g1, i, i1, i2, i3⟩
          · rw [g2, if_pos (by decide)]
            exact bad (Or.inl g1)
          · rw [i3, if_neg (show ¬ nI i < 0 by rw [show (0 : Int32) = nI 0 from rfl, nI_lt_iff (by omega) (by decide)]; omega)]
            rcases e3 with ⟨f1, f2⟩ | ⟨f1, j, j1, j2, j3⟩
            · rw [f2, if_pos (by decide)]
              exact bad (Or.inr (Or.inl f1))
            · rw [j3, if_neg (show ¬ nI j < 0 by rw [show (0 : Int32) = nI 0 from rfl, nI_lt_iff (by omega) (by decide)]; omega), fx_codeOf_c e6 i1, xb1_s, i2]
              have ck : cck (hd0 t) := by
                have nd := (TB_get e6 i1).1
                rw [i2] at nd
                have := wf_pos nd.1
                cases t with
                | nil => exact absurd this (by decide)
                | cons c l => exact nd.2.1 c (List.mem_cons_self ..)
              by_cases k1 : hd0 t < 512
              · rw [if_neg (fun q => (le8 ck).mp q k1)]
                exact bad (Or.inr (Or.inr (Or.inl k1)))
              · rw [if_pos ((le8 ck).mpr k1), fx_maskOf_c e6 j1, xb1_s, fx_maskOf_c e6 i1, xb1_s, i2, j2, xl_eq, xl_eq]
                by_cases k2 : vsb t t'
                · rw [if_pos ((vrF_sub cL cR).mpr k2), fx_rules_c hR sdl_len, xb1_s]
                  by_cases k3 : R.length < 8
                  · rw [if_pos (show nI R.length < 8 by rw [show (8 : Int32) = nI 8 from rfl, nI_lt_iff (by omega) (by decide)]; exact k3), xb1_s]
                    have lsd := sdl_len (R := R)
                    obtain ⟨v5, rs5, m1, m2, m3, m4⟩ := fx_write_c (n := n) (held := 0) (x := i) hn (by decide) (by decide) hR (by omega) e6 i1 e7
                    obtain ⟨v6, rs6, o1, o2, o3, o4⟩ := fx_write_c (n := n) (held := 0) (x := j) hn (by decide) (by decide) m2 (by rw [List.length_append]; simp only [List.length_cons, List.length_nil]; omega) (TB_FRS e6 m3) j1 m4
                    rw [i2, j2] at o2
                    rw [m1, xb2_s, o1, xb2_s, xl_eq, xl_eq, xl_eq]
                    refine ⟨_, _, _, _, _, _, _, _, R ++ [(t, t')], (if R.length = 0 then 1 else on ||| ((1 : Int32) <<< (nI R.length &&& 31))), rfl, e5, TPC_nil, by rw [sdl_app]; simpa using o2, ⟨_, _, TB_FRS (TB_FRS e6 m3) o3⟩, Or.inr ⟨by simp, by rw [mu0_eq, mu0_ne (by decide), mu0_ne (by decide)]⟩, second _ _ _ _ _ (Or.inr ⟨yG, Or.inr ⟨t', e1, Or.inr ⟨z, by rw [mu0_ne (by decide), mu0_eq], Or.inr ⟨g1, f1, Nat.not_lt.mp k1, k2, k3, rfl, rfl, rfl, rfl⟩⟩⟩⟩)⟩
                  · rw [if_neg (show ¬ nI R.length < 8 by rw [show (8 : Int32) = nI 8 from rfl, nI_lt_iff (by omega) (by decide)]; exact k3)]
                    exact bad (Or.inr (Or.inr (Or.inr (Or.inr (by omega)))))
                · rw [if_neg (fun q => k2 ((vrF_sub cL cR).mp q))]
                  exact bad (Or.inr (Or.inr (Or.inr (Or.inl k2))))
        · rw [if_neg (show ¬ nI (tks L (bk L p2)) = 0 from fun g => z (by have := tks_0.mp ((nI_inj (by have := tks_le (L := L) (q := bk L p2); omega) (by decide)).mp g); omega))]
          unfold jx_X9_rule_97
          rw [fx_checkText_0, xb2_s, if_neg (by decide)]
          exact ⟨_, _, _, _, _, _, _, _, R, on, rfl, e5, TPC_nil, hR, ⟨_, _, e6⟩, Or.inl ⟨rfl, by rw [mu0_ne (by decide), mu0_ne (by decide)]⟩, second _ _ _ _ _ (Or.inr ⟨yG, Or.inr ⟨t', e1, Or.inl ⟨z, rfl, by rw [mu0_eq]; exact e4.2.2.2.2.1, rfl, rfl, rfl⟩⟩⟩)⟩
    · have bad2 : ∃ (x r0 : Int32) (xx' h' v' : Nat → Nat → Int32) (w' : Nat → Nat → Int64) (rd' rs' : Nat → Nat → Int32) (R' : RulL) (on' : Int32), jx_X9_rule_57 n ga r 0 xx h2 v2 w2 rd2 rs = some (x, r0, xx', h', v', w', rd', rs') ∧ h' 0 0 = nI 0 ∧ TPC h' [] ∧ RWS 16 rs' (sdl R') ∧ (∃ (las : Nat → Bool) (N : List (List Nat)), TB v' w' las N) ∧ ((R' = R ∧ xx' 0 0 = xx 0 0) ∨ (R'.length = R.length + 1 ∧ xx' 0 0 = xx 0 0 ||| ((1 : Int32) <<< (nI R.length &&& 31)))) ∧ RUL (soF ops) L (g 401) R R' on on' (xx' 0 1) x r0 := by
        unfold jx_X9_rule_57
        rw [fx_checkText_0, xb2_s, if_neg (by decide)]
        exact ⟨_, _, _, _, _, _, _, _, R, on, rfl, c5, TPC_nil, hR, ⟨_, _, c6⟩, Or.inl ⟨rfl, mu0_ne (by decide)⟩, second _ _ _ _ _ (Or.inl ⟨by rw [eis]; exact y, rfl, by rw [mu0_eq]; exact c4.2.2.2.2.1, rfl, rfl, rfl⟩)⟩
      by_cases q : h2 0 3 = 3
      · rw [if_pos q, if_neg (fun z => y3 ⟨q, z⟩)]
        exact bad2
      · rw [if_neg q]
        exact bad2
