/-! ===== rule ===== -/
theorem KT_put {so : Nat → Nat} {un : Nat → Option Nat} {ma : Nat → Nat} {nv k : Nat} {fk : Nat → Int32} {Tm : List (List Nat)} {x : List Nat} (h : KT so un ma nv fk Tm) (hk : 630 ≤ k) : KT so un ma nv (put fk k x) Tm := by
  refine ⟨h.1, h.2.1, h.2.2.1, fun i hi => ?_⟩
  obtain ⟨k1, k2, k3, k4⟩ := KT_get h hi
  exact la_put (Or.inl (by omega)) k2
theorem rul_app1 {R : RulL} {x : List Nat × List Nat} {i : Nat} (h : i < R.length) : rul (R ++ [x]) i = rul R i := by
  unfold rul
  rw [List.getD_eq_getElem?_getD, List.getD_eq_getElem?_getD, List.getElem?_append_left h]
theorem rul_app2 {R : RulL} {x : List Nat × List Nat} : rul (R ++ [x]) R.length = x := by
  unfold rul
  rw [List.getD_eq_getElem?_getD, List.getElem?_append_right (Nat.le_refl _), Nat.sub_self]; rfl
theorem KR2_add {so ma : Nat → Nat} {un : Nat → Option Nat} {nv : Nat} {fk : Nat → Int32} {R : RulL} {x y : List Nat} (hsv : SV so un ma nv) (h : KR2 so un ma nv fk R) (h8 : R.length < 8) (hx : tok so un ma nv x) (hy : tok so un ma nv y) (h5 : 512 ≤ hdc x) (hv : vsb x y) : KR2 so un ma nv (put (put fk (21 * (30 + 2 * R.length)) x) (21 * (31 + 2 * R.length)) y) (R ++ [(x, y)]) := by
  have hxl := tok_len hx
  have hyl := tok_len hy
  refine ⟨⟨by rw [List.length_append, List.length_singleton]; omega, fun z hz => ?_, fun i hi => ?_⟩, fun z hz => ?_⟩
  · rcases List.mem_append.mp hz with g | g
    · exact h.1.2.1 z g
    · rw [List.mem_singleton.mp g]
      exact ⟨hx.1, hxl, sS_c2 hsv hx.2.2, h5, hy.1, hyl, hv⟩
  · rw [List.length_append, List.length_singleton] at hi
    by_cases q : i < R.length
    · rw [rul_app1 q]
      obtain ⟨a1, a2⟩ := h.1.2.2 i q
      have m := h.2 _ (rul_mem q)
      have l1 := tok_len m.1
      have l2 := tok_len m.2
      exact ⟨la_put (Or.inl (by omega)) (la_put (Or.inl (by omega)) a1), la_put (Or.inl (by omega)) (la_put (Or.inl (by omega)) a2)⟩
    · have e : i = R.length := by omega
      rw [e, rul_app2]
      exact ⟨la_put (Or.inl (by show 21 * (30 + 2 * R.length) + x.length ≤ _; omega)) put_la, put_la⟩
  · rcases List.mem_append.mp hz with g | g
    · exact h.2 z g
    · rw [List.mem_singleton.mp g]; exact ⟨hx, hy⟩
theorem fx_rule_ok {n : Nat} {f nm nmm fs fm9 fu fk fp fsp : Nat → Int32} {so ma : Nat → Nat} {un : Nat → Option Nat} {no nv : Nat} {nmL : Nat → List Nat} {L : List Nat} {Tm : List (List Nat)} {R : RulL} {th size point begin_ fault top on : Int32} (hn : 100000 ≤ n) (hs : SIG nm nmm fs fm9 fu so ma un no nv nmL) (hL : TPE f L) (hT : KT so un ma nv fk Tm) (hR : KR2 so un ma nv fk R) :
    ∃ (r th' size' point' begin' fault' : Int32) (fp' : Nat → Int32) (top' : Int32) (fsp' fk' : Nat → Int32) (R' : RulL) (on' : Int32), fx_rule n th f (nI L.length) size point begin_ fault nm nmm fs fm9 fu (nI no) (nI nv) fp top fsp fk (nI R.length) on = some (r, th', 0, size', point', begin', fault', fp', top', fsp', fk', nI R'.length, on') ∧ KT so un ma nv fk' Tm ∧ KR2 so un ma nv fk' R' ∧ RUL so L (ptm so ma un nmL no nv L 401) R R' on on' fault' th' r := by
  have hL4 := hL.1
  have hR8 := hR.1.1
  have e0 : nI 0 = (0 : Int32) := rfl
  have e61 : nI 61 = (61 : Int32) := rfl
  have rd := fx_readsTerm_ok hn hs hL 401
  obtain ⟨r1, fp1, top1, fsp1, g1, g2⟩ := rd 0 0 begin_ fp fsp (by omega) (by omega) (by omega)
  generalize ptm so ma un nmL no nv L 401 = g at rd g1 g2 ⊢
  obtain ⟨q1, q2, q3, q4, q5⟩ := g2
  rw [e0] at g1
  have hsg := hs.1
  have hsv := hs.2.1
  unfold fx_rule fx_begins
  rw [xb6_s, g1, xb6_s]
  rcases q5 with ⟨z1, z2⟩ | ⟨t, z1, z2, z3, z4, z5, z6, z7⟩
  · rw [z2, if_pos rfl]
    unfold fx_wrong
    rw [xb3_s]
    exact ⟨_, _, _, _, _, _, _, _, _, _, R, on, rfl, hT, hR, Or.inl ⟨z1, rfl, rfl, rfl, rfl, rfl⟩⟩
  · have tt := fx_takes_ok (n := n) (p := (g 0).2.1) (c := 61) (b := nI (g 0).2.2) hn hL q2 (by decide)
    rw [e61] at tt
    rw [z2, if_neg (by decide), tt, xb3_s]
    by_cases hG : isG L (g 0).2.1 61 = true
    case neg =>
      have hGf : isG L (g 0).2.1 61 = false := by cases h9 : isG L (g 0).2.1 61 <;> simp_all
      simp only [if_neg hG]
      rw [if_pos trivial]
      unfold fx_wrong
      rw [xb3_s]
      exact ⟨_, _, _, _, _, _, _, _, _, _, R, on, rfl, hT, hR, Or.inr ⟨t, z1, Or.inl ⟨hGf, rfl, rfl, rfl, rfl, rfl⟩⟩⟩
    case pos =>
      have hlt := (isb_lt (show isb L (bk L (g 0).2.1) 61 61 = true from hG)).1
      have hbg := bk_ge (L := L) (p := (g 0).2.1)
      obtain ⟨r2, fp2, top2, fsp2, g3, g4⟩ := rd (bk L (g 0).2.1 + 1) t.length (nI (bk L (g 0).2.1)) fp1 fsp1 (by omega) (by omega) (by omega)
      simp only [if_pos hG]
      rw [if_neg (by decide), z3, Nat.zero_add, g3, xb6_s]
      obtain ⟨w1, w2, w3, w4, w5⟩ := g4
      rcases w5 with ⟨y1, y2⟩ | ⟨t', y1, y2, y3, y4, y5, y6, y7⟩
      · rw [y2, if_pos rfl]
        unfold fx_wrong
        rw [xb3_s]
        exact ⟨_, _, _, _, _, _, _, _, _, _, R, on, rfl, hT, hR, Or.inr ⟨t, z1, Or.inr ⟨hG, Or.inl ⟨y1, rfl, rfl, rfl, rfl, rfl⟩⟩⟩⟩
      · have ov := fx_isOver_ok (n := n) (p := (g (bk L (g 0).2.1 + 1)).2.1) (b := nI (g (bk L (g 0).2.1 + 1)).2.2) hn hL w2
        rw [y2, if_neg (by decide), ov, xb3_s]
        by_cases ho : bk L (g (bk L (g 0).2.1 + 1)).2.1 = L.length
        case neg =>
          rw [if_neg ho, if_pos rfl]
          unfold fx_wrong
          rw [xb3_s]
          exact ⟨_, _, _, _, _, _, _, _, _, _, R, on, rfl, hT, hR, Or.inr ⟨t, z1, Or.inr ⟨hG, Or.inr ⟨t', y1, Or.inl ⟨ho, rfl, rfl, rfl, rfl, rfl⟩⟩⟩⟩⟩
        case pos =>
          have z4' : la fp2 0 t := la_congr (fun i hi => w4 _ (by omega)) z4
          have ig := fx_isGreat_ok (n := n) hsg z4' z5.1.1 ⟨z5.1.2.1, z5.1.2.2⟩ (by omega) hn
          have ig2 := fx_isGreat_ok (n := n) hsg y4 y5.1.1 ⟨y5.1.2.1, y5.1.2.2⟩ (by omega) hn
          have v1 := fx_variablesAt_is (n := n) z4' z5.1.1 z5.1.2.1 (by omega) hn
          have v2 := fx_variablesAt_is (n := n) y4 y5.1.1 y5.1.2.1 (by omega) hn
          rw [e0] at ig v1
          rw [if_pos ho, if_neg (by decide), ig, xb1_s]
          have no2 : (great so t = true ∨ great so t' = true ∨ hdc t < 512 ∨ ¬ vsb t t' ∨ R.length = 8) → ∃ (r th' size' point' begin' fault' : Int32) (fp' : Nat → Int32) (top' : Int32) (fsp' fk' : Nat → Int32) (R' : RulL) (on' : Int32), jx_rule_108 n f nm nmm fs fm9 fu (nI no) (nI nv) (nI t.length) 1 0 0 (nI L.length) (nI (bk L (g (bk L (g 0).2.1 + 1)).2.1)) (nI (bk L (g (bk L (g 0).2.1 + 1)).2.1)) (-1) fp2 top2 fsp2 fk (nI R.length) on = some (r, th', 0, size', point', begin', fault', fp', top', fsp', fk', nI R'.length, on') ∧ KT so un ma nv fk' Tm ∧ KR2 so un ma nv fk' R' ∧ (fault' = -1 ∧ th' = 2 ∧ R' = R ∧ on' = on ∧ r = 0) := fun _ => by
            unfold jx_rule_108
            rw [fx_throwsIf_1, xb2_s, if_neg (by decide)]
            exact ⟨_, _, _, _, _, _, _, _, _, _, R, on, rfl, hT, hR, rfl, rfl, rfl, rfl, rfl⟩
          have no3 : (great so t = true ∨ great so t' = true ∨ hdc t < 512 ∨ ¬ vsb t t' ∨ R.length = 8) → ∃ (r th' size' point' begin' fault' : Int32) (fp' : Nat → Int32) (top' : Int32) (fsp' fk' : Nat → Int32) (R' : RulL) (on' : Int32), jx_rule_108 n f nm nmm fs fm9 fu (nI no) (nI nv) (nI t.length) 1 0 0 (nI L.length) (nI (bk L (g (bk L (g 0).2.1 + 1)).2.1)) (nI (bk L (g (bk L (g 0).2.1 + 1)).2.1)) (-1) fp2 top2 fsp2 fk (nI R.length) on = some (r, th', 0, size', point', begin', fault', fp', top', fsp', fk', nI R'.length, on') ∧ KT so un ma nv fk' Tm ∧ KR2 so un ma nv fk' R' ∧ RUL so L g R R' on on' fault' th' r := fun hc => by
            obtain ⟨r, th', b1, b2, b3, b4, b5, b6, b7, b8, b9, b10, c1, c2, c3, c4, c5⟩ := no2 hc
            exact ⟨r, th', b1, b2, b3, b4, b5, b6, b7, b8, b9, b10, c1, c2, c3, Or.inr ⟨t, z1, Or.inr ⟨hG, Or.inr ⟨t', y1, Or.inr ⟨ho, c4, Or.inl ⟨hc, c5⟩⟩⟩⟩⟩⟩
          by_cases hg : great so t = true
          case pos =>
            rw [if_pos hg, if_neg (by decide)]
            exact no3 (Or.inl hg)
          case neg =>
            have hgf : great so t = false := by cases h9 : great so t <;> simp_all
            rw [if_neg hg, if_pos rfl, ig2, xb1_s]
            by_cases hg2 : great so t' = true
            case pos =>
              rw [if_pos hg2, if_neg (by decide)]
              exact no3 (Or.inr (Or.inl hg2))
            case neg =>
              have hgf2 : great so t' = false := by cases h9 : great so t' <;> simp_all
              have hx : tok so un ma nv t := ⟨z5, hgf, z6⟩
              have hy : tok so un ma nv t' := ⟨y5, hgf2, y6⟩
              have hxl := tok_len hx
              have hyl := tok_len hy
              have hh : fp2 0 = nI (hdc t) ∧ hdc t < 5632 := by
                cases t with
                | nil => exact absurd (wf_pos z5.1.1) (by simp)
                | cons c l => exact ⟨z4'.1, cok_lt (col_cons.mp z5.1.2.1).1⟩
              have x0 : ∀ (k9 : Int32 → Option (Int32 × Int32 × Int32 × Int32 × Int32 × Int32 × Int32 × (Nat → Int32) × Int32 × (Nat → Int32) × (Nat → Int32) × Int32 × Int32)), xr 60000 fp2 0 k9 = k9 (fp2 0) := fun k9 => by
                have := xr_n (f := fp2) (i := 0) (n := 60000) (k := k9) (by decide) (by decide)
                exact this
              rw [if_neg hg2, if_pos rfl, x0, hh.1, show (512 : Int32) = nI 512 from rfl]
              by_cases h5 : hdc t < 512
              case pos =>
                rw [if_pos (by rw [nI_lt_iff (by omega) (by decide)]; exact h5)]
                exact no3 (Or.inr (Or.inr (Or.inl h5)))
              case neg =>
                rw [if_neg (by rw [nI_lt_iff (by omega) (by decide)]; exact h5), v2, xb1_s, v1, xb1_s, xl_eq, xl_eq]
                have vs := vrF_sub (l := t) (r := t') z5.1.2.1 y5.1.2.1
                by_cases hv : vsb t t'
                case neg =>
                  rw [if_neg (fun q => hv (vs.mp q))]
                  exact no3 (Or.inr (Or.inr (Or.inr (Or.inl hv))))
                case pos =>
                  rw [if_pos (vs.mpr hv)]
                  by_cases h8 : R.length = 8
                  case pos =>
                    rw [if_pos (by rw [h8]; rfl)]
                    exact no3 (Or.inr (Or.inr (Or.inr (Or.inr h8))))
                  case neg =>
                    rw [if_neg (by rw [show (8 : Int32) = nI 8 from rfl, nI_inj (by omega) (by decide)]; exact h8)]
                    have k1 := fx_keeps_ok (n := n) (fk := fk) (r := 30 + 2 * R.length) z4' hx.1.1.1 hx.1.1.2.1 (by omega) (by omega) hn
                    have k2 := fx_keeps_ok (n := n) (fk := put fk (21 * (30 + 2 * R.length)) t) (r := 31 + 2 * R.length) y4 hy.1.1.1 hy.1.1.2.1 (by omega) (by omega) hn
                    rw [e0] at k1
                    have kt : KT so un ma nv (put (put fk (21 * (30 + 2 * R.length)) t) (21 * (31 + 2 * R.length)) t') Tm := KT_put (KT_put hT (by omega)) (by omega)
                    have kr := KR2_add hsv hR (by omega) hx hy (by omega) hv
                    have fin : ∀ on9 : Int32, (on9 = if R.length = 0 then 1 else on ||| ((1 : Int32) <<< (nI R.length &&& 31))) → ∃ (r th' size' point' begin' fault' : Int32) (fp' : Nat → Int32) (top' : Int32) (fsp' fk' : Nat → Int32) (R' : RulL) (on' : Int32), some (nI R.length, (0 : Int32), (0 : Int32), nI L.length, nI (bk L (g (bk L (g 0).2.1 + 1)).2.1), nI (bk L (g (bk L (g 0).2.1 + 1)).2.1), (-1 : Int32), fp2, top2, fsp2, (put (put fk (21 * (30 + 2 * R.length)) t) (21 * (31 + 2 * R.length)) t'), nI (R.length + 1), on9) = some (r, th', 0, size', point', begin', fault', fp', top', fsp', fk', nI R'.length, on') ∧ KT so un ma nv fk' Tm ∧ KR2 so un ma nv fk' R' ∧ RUL so L g R R' on on' fault' th' r := fun on9 h9 =>
                      ⟨_, _, _, _, _, _, _, _, _, _, R ++ [(t, t')], on9, by rw [List.length_append, List.length_singleton], kt, kr, Or.inr ⟨t, z1, Or.inr ⟨hG, Or.inr ⟨t', y1, Or.inr ⟨ho, rfl, Or.inr ⟨hgf, hgf2, by omega, hv, by omega, rfl, rfl, rfl, h9⟩⟩⟩⟩⟩⟩
                    unfold jx_rule_108
                    rw [fx_throwsIf_0, xb2_s, if_pos rfl, fx_rowOfRule_l (by omega), xb1_s, k1, xb1_s, fx_rowOfRule_r (by omega), xb1_s, k2, xb1_s]
                    by_cases hr0 : R.length = 0
                    · rw [if_pos (by rw [hr0]; rfl), xl_eq, nI_1, xl_eq, i1, nI_sub (by omega), show R.length + 1 - 1 = R.length by omega]
                      exact fin 1 (by rw [if_pos hr0])
                    · rw [if_neg (by rw [show (0 : Int32) = nI 0 from rfl, nI_inj (by omega) (by decide)]; exact hr0), xl_eq, xl_eq, xl_eq, nI_1, xl_eq, i1, nI_sub (by omega), show R.length + 1 - 1 = R.length by omega]
                      exact fin _ (by rw [if_neg hr0]; rfl)
