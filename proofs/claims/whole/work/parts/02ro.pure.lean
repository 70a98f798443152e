/-! ===== term, rule ===== -/
/-- what term does: the terms told then, the fault, what is thrown, the answer -/
def TRM (so : Nat → Nat) (L : List Nat) (o : PR) (Tm Tm' : List (List Nat)) (fault th r : Int32) : Prop :=
  (o.1 = none ∧ th = 1 ∧ fault = nI o.2.2 ∧ Tm' = Tm ∧ r = 0) ∨
  ((∃ t : List Nat, o.1 = some t) ∧ bk L o.2.1 ≠ L.length ∧ th = 1 ∧ fault = nI (bk L o.2.1) ∧ Tm' = Tm ∧ r = 0) ∨
  (∃ t : List Nat, o.1 = some t ∧ bk L o.2.1 = L.length ∧ fault = -1 ∧
    (((great so t = true ∨ (t ∉ Tm ∧ Tm.length = 30)) ∧ th = 2 ∧ Tm' = Tm ∧ r = 0) ∨
     (great so t = false ∧ (∃ j : Nat, j < Tm.length ∧ nth Tm j = t ∧ r = nI j) ∧ th = 0 ∧ Tm' = Tm) ∨
     (great so t = false ∧ t ∉ Tm ∧ Tm.length < 30 ∧ r = nI Tm.length ∧ th = 0 ∧ Tm' = Tm ++ [t])))
theorem KR2_put {so ma : Nat → Nat} {un : Nat → Option Nat} {nv k : Nat} {fk : Nat → Int32} {R : RulL} {x : List Nat} (h : KR2 so un ma nv fk R) (hk : k < 30) (hx : x.length ≤ 20) : KR2 so un ma nv (put fk (21 * k) x) R := ⟨KR_put h.1 hk hx, h.2⟩
theorem m1_ne {k : Nat} (h : k < 1000) : ¬ nI k = (-1 : Int32) := by
  intro e
  have h2 := congrArg Int32.toInt e
  rw [nI_toInt (by omega)] at h2
  have e9 : (-1 : Int32).toInt = -1 := rfl
  omega
theorem fx_term_ok {n : Nat} {f nm nmm fs fm9 fu fk fp fsp : Nat → Int32} {so ma : Nat → Nat} {un : Nat → Option Nat} {no nv : Nat} {nmL : Nat → List Nat} {L : List Nat} {Tm : List (List Nat)} {R : RulL} {th size point begin_ fault top : Int32} (hn : 100000 ≤ n) (hs : SIG nm nmm fs fm9 fu so ma un no nv nmL) (hL : TPE f L) (hT : KT so un ma nv fk Tm) (hR : KR2 so un ma nv fk R) :
    ∃ (r th' size' point' begin' fault' : Int32) (fp' : Nat → Int32) (top' : Int32) (fsp' fk' : Nat → Int32) (Tm' : List (List Nat)), fx_term n th f (nI L.length) size point begin_ fault nm nmm fs fm9 fu (nI no) (nI nv) fp top fsp fk (nI Tm.length) = some (r, th', 0, size', point', begin', fault', fp', top', fsp', fk', nI Tm'.length) ∧ KT so un ma nv fk' Tm' ∧ KR2 so un ma nv fk' R ∧ TRM so L (ptm so ma un nmL no nv L 401 0) Tm Tm' fault' th' r := by
  have hL4 := hL.1
  have hT30 := hT.1
  have e0 : nI 0 = (0 : Int32) := rfl
  obtain ⟨r1, fp1, top1, fsp1, g1, g2⟩ := fx_readsTerm_ok hn hs hL 401 0 0 begin_ fp fsp (by omega) (by omega) (by omega)
  generalize ptm so ma un nmL no nv L 401 0 = o at g1 g2 ⊢
  obtain ⟨o1, p1, b1⟩ := o
  obtain ⟨q1, q2, q3, q4, q5⟩ := g2
  dsimp only at q1 q2 q3 q5 g1 ⊢
  rw [e0] at g1
  have hsg := hs.1
  unfold fx_term fx_begins
  rw [xb6_s, g1, xb6_s]
  rcases q5 with ⟨z1, z2⟩ | ⟨t, z1, z2, z3, z4, z5, z6, z7⟩
  · subst z1
    rw [z2, if_pos rfl]
    unfold fx_wrong
    rw [xb3_s]
    exact ⟨_, _, _, _, _, _, _, _, _, _, Tm, rfl, hT, hR, Or.inl ⟨rfl, rfl, rfl, rfl, rfl⟩⟩
  · subst z1
    have ov := fx_isOver_ok (n := n) (p := p1) (b := nI b1) hn hL q2
    rw [z2, if_neg (by decide), ov, xb3_s]
    by_cases ho : bk L p1 = L.length
    · rw [if_pos ho, if_neg (by decide)]
      have ig := fx_isGreat_ok (n := n) hsg z4 z5.1.1 ⟨z5.1.2.1, z5.1.2.2⟩ (by omega) hn
      rw [e0] at ig
      rw [ig, xb1_s]
      by_cases hg : great so t = true
      · rw [if_pos hg, if_neg (by decide)]
        unfold jx_term_40
        rw [if_pos rfl, fx_throwsIf_1, xb2_s, if_neg (by decide)]
        exact ⟨_, _, _, _, _, _, _, _, _, _, Tm, rfl, hT, hR, Or.inr (Or.inr ⟨t, rfl, ho, rfl, Or.inl ⟨Or.inl hg, rfl, rfl, rfl⟩⟩)⟩
      · have hgf : great so t = false := by cases h9 : great so t <;> simp_all
        have hx : tok so un ma nv t := ⟨z5, hgf, z6⟩
        have hxl := tok_len hx
        have td := fx_told_ok (fp := fp1) (T := t.length) hn hT hx (Nat.le_refl _) (by omega) z4
        rw [if_neg hg, if_pos rfl, z3, Nat.zero_add]
        obtain ⟨f9, td⟩ := td
        rcases td with ⟨j, j1, j2, j3⟩ | ⟨j1, j2, j3⟩ | ⟨j1, j2, j3⟩
        · rw [j3, xb5_s]
          unfold jx_term_40
          rw [if_neg (m1_ne (by omega)), fx_throwsIf_0, xb2_s, if_pos rfl]
          exact ⟨_, _, _, _, _, _, _, _, _, _, Tm, rfl, hT, hR, Or.inr (Or.inr ⟨t, rfl, ho, rfl, Or.inr (Or.inl ⟨hgf, ⟨j, j1, j2, rfl⟩, rfl, rfl⟩)⟩)⟩
        · rw [j3, xb5_s]
          unfold jx_term_40
          rw [if_pos rfl, fx_throwsIf_1, xb2_s, if_neg (by decide)]
          exact ⟨_, _, _, _, _, _, _, _, _, _, Tm, rfl, hT, hR, Or.inr (Or.inr ⟨t, rfl, ho, rfl, Or.inl ⟨Or.inr ⟨j1, j2⟩, rfl, rfl, rfl⟩⟩)⟩
        · rw [j3, xb5_s]
          unfold jx_term_40
          rw [if_neg (m1_ne (by omega)), fx_throwsIf_0, xb2_s, if_pos rfl]
          refine ⟨_, _, _, _, _, _, _, _, _, _, Tm ++ [t], by rw [List.length_append, List.length_singleton], KT_add hT hx j1 j2, KR2_put hR (by omega) hxl, Or.inr (Or.inr ⟨t, rfl, ho, rfl, Or.inr (Or.inr ⟨hgf, j1, j2, rfl, rfl, rfl⟩)⟩)⟩
    · rw [if_neg ho, if_pos rfl]
      unfold fx_wrong
      rw [xb3_s]
      exact ⟨_, _, _, _, _, _, _, _, _, _, Tm, rfl, hT, hR, Or.inr (Or.inl ⟨⟨t, rfl⟩, ho, rfl, rfl, rfl, rfl⟩)⟩
/-- no variable in right that is not in left -/
def vsb (l r : List Nat) : Prop := ∀ c ∈ r, c < 512 → c ∈ l
/-- what rule does -/
def RUL (so : Nat → Nat) (L : List Nat) (g : Nat → PR) (R R' : RulL) (on on' fault th r : Int32) : Prop :=
  ((g 0).1 = none ∧ th = 1 ∧ fault = nI (g 0).2.2 ∧ R' = R ∧ on' = on ∧ r = 0) ∨
  (∃ t : List Nat, (g 0).1 = some t ∧
    ((isG L (g 0).2.1 61 = false ∧ th = 1 ∧ fault = nI (bk L (g 0).2.1) ∧ R' = R ∧ on' = on ∧ r = 0) ∨
     (isG L (g 0).2.1 61 = true ∧
      (((g (bk L (g 0).2.1 + 1)).1 = none ∧ th = 1 ∧ fault = nI (g (bk L (g 0).2.1 + 1)).2.2 ∧ R' = R ∧ on' = on ∧ r = 0) ∨
       (∃ t' : List Nat, (g (bk L (g 0).2.1 + 1)).1 = some t' ∧
         ((bk L (g (bk L (g 0).2.1 + 1)).2.1 ≠ L.length ∧ th = 1 ∧ fault = nI (bk L (g (bk L (g 0).2.1 + 1)).2.1) ∧ R' = R ∧ on' = on ∧ r = 0) ∨
          (bk L (g (bk L (g 0).2.1 + 1)).2.1 = L.length ∧ fault = -1 ∧
            (((great so t = true ∨ great so t' = true ∨ hdc t < 512 ∨ ¬ vsb t t' ∨ R.length = 8) ∧ th = 2 ∧ R' = R ∧ on' = on ∧ r = 0) ∨
             (great so t = false ∧ great so t' = false ∧ 512 ≤ hdc t ∧ vsb t t' ∧ R.length < 8 ∧ th = 0 ∧ R' = R ++ [(t, t')] ∧ r = nI R.length ∧ on' = if R.length = 0 then 1 else on ||| ((1 : Int32) <<< (nI R.length &&& 31)))))))))))
theorem and_not_zero {a b : Int32} : (a &&& (b ^^^ -1)) = 0 ↔ ∀ v : Nat, v < 32 → hb a v = true → hb b v = true := by
  have e1 : (-1 : Int32).toBitVec = BitVec.allOnes 32 := rfl
  constructor
  · intro h v hv ha
    have h2 := congrArg (fun x => x.toBitVec.getLsbD v) h
    simp only [Int32.toBitVec_and, Int32.toBitVec_xor, BitVec.getLsbD_and, BitVec.getLsbD_xor, e1, BitVec.getLsbD_allOnes] at h2
    unfold hb at ha ⊢
    rw [ha] at h2
    have e0 : (0 : Int32).toBitVec.getLsbD v = false := by rw [show (0 : Int32).toBitVec = 0#32 from rfl, BitVec.getLsbD_zero]
    rw [e0] at h2
    cases hb9 : b.toBitVec.getLsbD v with
    | true => rfl
    | false => rw [hb9] at h2; simp [hv] at h2
  · intro h
    apply Int32.toBitVec_inj.mp
    apply BitVec.eq_of_getLsbD_eq
    intro v hv
    rw [Int32.toBitVec_and, Int32.toBitVec_xor, BitVec.getLsbD_and, BitVec.getLsbD_xor, e1, BitVec.getLsbD_allOnes, show (0 : Int32).toBitVec = 0#32 from rfl, BitVec.getLsbD_zero]
    cases ha : a.toBitVec.getLsbD v with
    | false => simp
    | true =>
      have h3 : b.toBitVec.getLsbD v = true := h v hv ha
      rw [h3]; simp [hv]
theorem vrF_bit : ∀ {l : List Nat} {a : Int32} {v : Nat}, col l → v < 32 → (hb (vrF l a) v = true ↔ hb a v = true ∨ v ∈ l ∧ v < 5)
  | [], a, v, _, _ => ⟨fun h => Or.inl h, fun h => h.elim id (fun g => absurd g.1 List.not_mem_nil)⟩
  | c :: l, a, v, hc, hv => by
    have ih := fun s9 => vrF_bit (l := l) (a := s9) (v := v) (col_cons.mp hc).2 hv
    show hb (vrF l (if c < 512 then a ||| ((1 : Int32) <<< (nI c &&& 31)) else a)) v = true ↔ _
    by_cases q : c < 512
    · have hc5 : c < 5 := by rcases (col_cons.mp hc).1 with g | g <;> omega
      rw [if_pos q, ih, List.mem_cons]
      have key : ∀ c : Fin 5, ∀ v : Fin 32, hb ((1 : Int32) <<< (nI c.val &&& 31)) v.val = decide (v.val = c.val) := by decide +kernel
      have k2 := key ⟨c, hc5⟩ ⟨v, hv⟩
      have h2 := hold_or (x := a) (y := 1 <<< (nI c &&& 31)) rfl v
      have h3 : hb (a ||| ((1 : Int32) <<< (nI c &&& 31))) v = true ↔ hb a v = true ∨ v = c := by
        refine h2.trans (or_congr Iff.rfl ?_)
        show hb ((1 : Int32) <<< (nI c &&& 31)) v = true ↔ v = c
        rw [k2, decide_eq_true_eq]
      rw [h3]
      constructor
      · rintro ((h | h) | ⟨h, h5⟩)
        · exact Or.inl h
        · exact Or.inr ⟨Or.inl h, by omega⟩
        · exact Or.inr ⟨Or.inr h, h5⟩
      · rintro (h | ⟨h | h, h5⟩)
        · exact Or.inl (Or.inl h)
        · exact Or.inl (Or.inr h)
        · exact Or.inr ⟨h, h5⟩
    · rw [if_neg q, ih, List.mem_cons]
      constructor
      · rintro (h | ⟨h, h5⟩)
        · exact Or.inl h
        · exact Or.inr ⟨Or.inr h, h5⟩
      · rintro (h | ⟨h | h, h5⟩)
        · exact Or.inl h
        · omega
        · exact Or.inr ⟨h, h5⟩
theorem vrF_sub {l r : List Nat} (hl : col l) (hr : col r) : (vrF r 0 &&& (vrF l 0 ^^^ -1)) = 0 ↔ vsb l r := by
  rw [and_not_zero]
  have z : ∀ v : Nat, ¬ hb 0 v = true := fun v => by
    unfold hb
    rw [show (0 : Int32).toBitVec = 0#32 from rfl, BitVec.getLsbD_zero]; decide
  constructor
  · intro h c hc h5
    have hc5 : c < 5 := by rcases hr c hc with g | g <;> omega
    rcases (vrF_bit hl (show c < 32 by omega)).mp (h c (by omega) ((vrF_bit hr (by omega)).mpr (Or.inr ⟨hc, hc5⟩))) with g | g
    · exact absurd g (z c)
    · exact g.1
  · intro h v hv hv9
    rcases (vrF_bit hr hv).mp hv9 with g | g
    · exact absurd g (z v)
    · exact (vrF_bit hl hv).mpr (Or.inr ⟨h v g.1 (by omega), g.2⟩)
