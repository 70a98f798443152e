/-! ===== terms read ===== -/
abbrev PR := Option (List Nat) × Nat × Nat
/-- the parts of a term, one by one -/
def plp (so : Nat → Nat) (un : Nat → Option Nat) (L : List Nat) (f : Nat → PR) (k least most : Nat) : Nat → Nat → List (List Nat) → Nat → PR
  | 0, _, _, p => (none, p, p)
  | m + 1, x, acc, p => match f p with
    | (none, p1, b1) => (none, p1, b1)
    | (some t, p1, b1) =>
      if x < least then (if x = most then (none, p1, b1) else if isG L p1 44 then plp so un L f k least most m (x + 1) (acc ++ [t]) (bk L p1 + 1) else (none, bk L p1, bk L p1))
      else if isG L p1 41 then (some (stand so un k (acc ++ [t])), bk L p1 + 1, bk L p1)
      else if x = most then (none, bk L p1, bk L p1)
      else if isG L (bk L p1) 44 then plp so un L f k least most m (x + 1) (acc ++ [t]) (bk L (bk L p1) + 1) else (none, bk L (bk L p1), bk L (bk L p1))
def ptm (so ma : Nat → Nat) (un : Nat → Option Nat) (nmL : Nat → List Nat) (no nv : Nat) (L : List Nat) : Nat → Nat → PR
  | 0, p => (none, p, p)
  | d + 1, p =>
    if wd L (bk L p) ≤ bk L p then (none, wd L (bk L p), bk L p) else
    match naw nmL no nv L (bk L p) (wd L (bk L p)) with
    | none => (none, wd L (bk L p), bk L p)
    | some k => if 10 ≤ k then (some [k - 10], wd L (bk L p), bk L p)
      else if so k = 0 ∧ ma k = 0 then (some [cdo k 0], wd L (bk L p), bk L p)
      else if isG L (wd L (bk L p)) 40 then plp so un L (ptm so ma un nmL no nv L d) k (ma k) (if so k = 2 then 9 else ma k) 10 1 [] (bk L (wd L (bk L p)) + 1)
      else (none, bk L (wd L (bk L p)), bk L (wd L (bk L p)))
/-- a term was read, or was not -/
def RTO (so ma : Nat → Nat) (un : Nat → Option Nat) (nv : Nat) (L : List Nat) (fp : Nat → Int32) (T p q : Nat) (o : PR) (r : Int32) (fp' : Nat → Int32) (top' : Int32) : Prop :=
  p ≤ o.2.1 ∧ o.2.1 ≤ L.length ∧ o.2.2 ≤ L.length ∧ (∀ i : Nat, i < T → fp' i = fp i) ∧ ((o.1 = none ∧ r = 0) ∨ ∃ t : List Nat, o.1 = some t ∧ r = 1 ∧ top' = nI (T + t.length) ∧ la fp' T t ∧ nok so un t ∧ sS so ma nv t ∧ t.length + q ≤ o.2.1)
abbrev RTy := Nat → (Nat → Int32) → Int32 → Int32 → Int32 → (Nat → Int32) → (Nat → Int32) → (Nat → Int32) → (Nat → Int32) → (Nat → Int32) → Int32 → Int32 → (Nat → Int32) → Int32 → (Nat → Int32) → Option (Int32 × Int32 × Int32 × (Nat → Int32) × Int32 × (Nat → Int32))
/-- a function reads terms where so many bytes are left -/
def RTF (slf : RTy) (g : Nat → PR) (n : Nat) (f nm nmm fs fm9 fu : Nat → Int32) (so ma : Nat → Nat) (un : Nat → Option Nat) (no nv : Nat) (L : List Nat) (d : Nat) : Prop :=
  ∀ (p T : Nat) (b0 : Int32) (fp fsp : Nat → Int32), p ≤ L.length → L.length + 1 ≤ p + d → T + L.length ≤ p + 2000 →
    ∃ (r : Int32) (fp' : Nat → Int32) (top' : Int32) (fsp' : Nat → Int32), slf n f (nI L.length) (nI p) b0 nm nmm fs fm9 fu (nI no) (nI nv) fp (nI T) fsp = some (r, nI (g p).2.1, nI (g p).2.2, fp', top', fsp') ∧ RTO so ma un nv L fp T p p (g p) r fp' top'
/-- operators' numbers of parts -/
def MA (so ma : Nat → Nat) (no : Nat) (fm9 : Nat → Int32) : Prop := ∀ q : Nat, q < no → fm9 q = nI (ma q) ∧ (so q = 2 → ma q = 2)
theorem lx_readsTerm_ok {slf : RTy} {g : Nat → PR} {n d T0 k ps : Nat} {f nm nmm fs fm9 fu : Nat → Int32} {so ma : Nat → Nat} {un : Nat → Option Nat} {no nv : Nat} {L : List Nat} {least most : Nat} (hn : 100000 ≤ n) (hsg : SG fs fu so un) (hsv : SV so un ma nv) (hL : TPE f L) (hg : RTF slf g n f nm nmm fs fm9 fu so ma un no nv L d) (hk : k < 10 ∧ so k ≠ 3) (hlm : least ≤ most) (hm9 : most ≤ 9) (hl1 : 1 ≤ least) (hlma : so k ≠ 2 → least = ma k ∧ most = ma k) (hps : 1 ≤ ps) (hT : T0 + L.length ≤ ps + 2000) (hd : L.length + 1 ≤ ps + d) :
    ∀ (u x m p : Nat) (acc : List (List Nat)) (b0 : Int32) (fp fsp : Nat → Int32), x + u = 11 → most < x + m → x ≤ most → acc.length + 1 = x → p ≤ L.length → la fp T0 acc.flatten → noks so un acc → (∀ t ∈ acc, sS so ma nv t) → acc.flatten.length + ps ≤ p →
      ∃ (r : Int32) (fp' : Nat → Int32) (top' : Int32) (fsp' : Nat → Int32), lx_readsTerm_145 slf n f (nI L.length) nm nmm fs fm9 fu (nI no) (nI nv) m (nI k) (nI T0) (nI least) (nI most) (nI x) (nI p) b0 fp (nI (T0 + acc.flatten.length)) fsp = some (r, nI (plp so un L g k least most u x acc p).2.1, nI (plp so un L g k least most u x acc p).2.2, fp', top', fsp') ∧ RTO so ma un nv L fp T0 p (ps - 1) (plp so un L g k least most u x acc p) r fp' top' := by
  have hL4 := hL.1
  intro u
  induction u with
  | zero => intro x m p acc b0 fp fsp hu hm hx; omega
  | succ u ih =>
    intro x m p acc b0 fp fsp hu hm hx hacc hp hla hno hS hfl
    cases m with
    | zero => omega
    | succ m =>
      obtain ⟨r1, fp1, top1, fsp1, g1, g2⟩ := hg p (T0 + acc.flatten.length) b0 fp fsp hp (by omega) (by omega)
      have st : lx_readsTerm_145 slf n f (nI L.length) nm nmm fs fm9 fu (nI no) (nI nv) (m + 1) (nI k) (nI T0) (nI least) (nI most) (nI x) (nI p) b0 fp (nI (T0 + acc.flatten.length)) fsp = bx_readsTerm_145 slf n f (nI L.length) nm nmm fs fm9 fu (nI no) (nI nv) (lx_readsTerm_145 slf n f (nI L.length) nm nmm fs fm9 fu (nI no) (nI nv) m) (nI k) (nI T0) (nI least) (nI most) (nI x) (nI p) b0 fp (nI (T0 + acc.flatten.length)) fsp := rfl
      rw [st]
      unfold bx_readsTerm_145
      rw [g1, xb6_s]
      have hpl : plp so un L g k least most (u + 1) x acc p = (match g p with
        | (none, p1, b1) => (none, p1, b1)
        | (some t, p1, b1) =>
          if x < least then (if x = most then (none, p1, b1) else if isG L p1 44 then plp so un L g k least most u (x + 1) (acc ++ [t]) (bk L p1 + 1) else (none, bk L p1, bk L p1))
          else if isG L p1 41 then (some (stand so un k (acc ++ [t])), bk L p1 + 1, bk L p1)
          else if x = most then (none, bk L p1, bk L p1)
          else if isG L (bk L p1) 44 then plp so un L g k least most u (x + 1) (acc ++ [t]) (bk L (bk L p1) + 1) else (none, bk L (bk L p1), bk L (bk L p1))) := rfl
      rw [hpl]
      obtain ⟨q1, q2, q3, q4, q5⟩ := g2
      generalize g p = o at q1 q2 q3 q5 g1 ⊢
      obtain ⟨o1, p1, b1⟩ := o
      dsimp only at q1 q2 q3 q5 ⊢
      have e0 : nI 44 = (44 : Int32) := rfl
      have e1 : nI 41 = (41 : Int32) := rfl
      rcases q5 with ⟨z1, z2⟩ | ⟨t, z1, z2, z3, z4, z5, z6, z7⟩
      · rw [z2, if_pos rfl]
        subst z1
        exact ⟨_, _, _, _, rfl, by (try dsimp only); exact q1, by (try dsimp only); exact q2, by (try dsimp only); exact q3, fun i hi => q4 i (by omega), Or.inl ⟨rfl, rfl⟩⟩
      · subst z1
        rw [z2, if_neg (by decide), z3]
        dsimp only
        have efl : (acc ++ [t]).flatten = acc.flatten ++ t := by simp
        have eln : (acc ++ [t]).flatten.length = acc.flatten.length + t.length := by rw [efl, List.length_append]
        have eal : (acc ++ [t]).length = acc.length + 1 := by simp
        have hla2 : la fp1 T0 (acc ++ [t]).flatten := by
          rw [efl]
          exact la_app.mpr ⟨la_congr (fun i hi => q4 _ (by omega)) hla, z4⟩
        have hno2 : noks so un (acc ++ [t]) := fun w hw => by
          rcases List.mem_append.mp hw with y | y
          · exact hno w y
          · rw [List.mem_singleton.mp y]; exact z5
        have hS2 : ∀ w ∈ acc ++ [t], sS so ma nv w := fun w hw => by
          rcases List.mem_append.mp hw with y | y
          · exact hS w y
          · rw [List.mem_singleton.mp y]; exact z6
        have hbk := bk_le (L := L) (p := p1) q2
        have hbg := bk_ge (L := L) (p := p1)
        have hbk2 := bk_le (L := L) (p := bk L p1) hbk
        have hbg2 := bk_ge (L := L) (p := bk L p1)
        have tk44 : ∀ (pp : Nat) (b9 : Int32), pp ≤ L.length → p1 ≤ pp → x ≠ most → ∃ (r : Int32) (fp' : Nat → Int32) (top' : Int32) (fsp' : Nat → Int32), (xb3 (fx_takes n f (nI L.length) (nI pp) b9 ((44 : Int32))) fun r_27 m_point_28 m_begin_29 => if r_27 = (0 : Int32) then (some ((0 : Int32), m_point_28, m_begin_29, fp1, nI (T0 + acc.flatten.length + t.length), fsp1)) else (xl (nI x + (1)) fun x5_34 => lx_readsTerm_145 slf n f (nI L.length) nm nmm fs fm9 fu (nI no) (nI nv) m (nI k) (nI T0) (nI least) (nI most) x5_34 m_point_28 m_begin_29 fp1 (nI (T0 + acc.flatten.length + t.length)) fsp1)) = some (r, nI (if isG L pp 44 then plp so un L g k least most u (x + 1) (acc ++ [t]) (bk L pp + 1) else (none, bk L pp, bk L pp)).2.1, nI (if isG L pp 44 then plp so un L g k least most u (x + 1) (acc ++ [t]) (bk L pp + 1) else (none, bk L pp, bk L pp)).2.2, fp', top', fsp') ∧ RTO so ma un nv L fp T0 p (ps - 1) (if isG L pp 44 then plp so un L g k least most u (x + 1) (acc ++ [t]) (bk L pp + 1) else (none, bk L pp, bk L pp)) r fp' top' := fun pp b9 hpp hp1 hxm => by
          have tt := fx_takes_ok (n := n) (p := pp) (c := 44) (b := b9) hn hL hpp (by decide)
          have h1 := bk_le (L := L) (p := pp) hpp
          have h2 := bk_ge (L := L) (p := pp)
          rw [e0] at tt
          rw [tt, xb3_s]
          by_cases hG : isG L pp 44 = true
          case neg =>
            simp only [if_neg hG]
            rw [if_pos (by decide)]
            exact ⟨_, _, _, _, rfl, by (try dsimp only); omega, by (try dsimp only); omega, by (try dsimp only); omega, fun i hi => q4 i (by omega), Or.inl ⟨rfl, rfl⟩⟩
          case pos =>
            have hlt := (isb_lt (show isb L (bk L pp) 44 44 = true from hG)).1
            simp only [if_pos hG]
            rw [if_neg (by decide), xl_eq, nI_1, Nat.add_assoc, ← eln]
            obtain ⟨r, fp', top', fsp', y1, y2⟩ := ih (x + 1) m (bk L pp + 1) (acc ++ [t]) (nI (bk L pp)) fp1 fsp1 (by omega) (by omega) (by omega) (by omega) (by omega) hla2 hno2 hS2 (by omega)
            refine ⟨r, fp', top', fsp', y1, ?_⟩
            obtain ⟨w1, w2, w3, w4, w5⟩ := y2
            exact ⟨by omega, w2, w3, fun i hi => (w4 i hi).trans (q4 i (by omega)), w5⟩
        by_cases xl9 : x < least
        · rw [if_pos (by rw [nI_lt_iff (by omega) (by omega)]; exact xl9), if_neg (by rw [nI_inj (by omega) (by omega)]; omega), if_pos xl9, if_neg (by omega)]
          exact tk44 p1 (nI b1) q2 (Nat.le_refl _) (by omega)
        · have tt := fx_takes_ok (n := n) (p := p1) (c := 41) (b := nI b1) hn hL q2 (by decide)
          rw [e1] at tt
          rw [if_neg (by rw [nI_lt_iff (by omega) (by omega)]; exact xl9), if_neg xl9, tt, xb3_s]
          by_cases hG : isG L p1 41 = true
          case neg =>
            simp only [if_neg hG]
            rw [if_pos (by decide)]
            by_cases xm : x = most
            · rw [if_pos (by rw [xm]), if_pos xm]
              exact ⟨_, _, _, _, rfl, by (try dsimp only); omega, by (try dsimp only); omega, by (try dsimp only); omega, fun i hi => q4 i (by omega), Or.inl ⟨rfl, rfl⟩⟩
            · rw [if_neg (by rw [nI_inj (by omega) (by omega)]; exact xm), if_neg xm]
              exact tk44 (bk L p1) (nI (bk L p1)) hbk hbg xm
          case pos =>
            have hlt := (isb_lt (show isb L (bk L p1) 41 41 = true from hG)).1
            obtain ⟨f2, fsp2, s1, s2, s3⟩ := fx_stands_ok2 (fsp := fsp1) (op := k) hsg hk hn hla2 (noks_okts hno2) (fun _ => by simp) (by omega) (by omega)
            obtain ⟨n1, n2⟩ := stand_nok (SV_SU hsv) hk hno2 (fun e9 => absurd e9 (by simp)) (by omega)
            have n3 := stand_S (op := k) hsv hk (okts_wfs (noks_okts hno2)) hS2 (fun h2 => by have := hlma h2; omega) (by omega)
            simp only [if_pos hG]
            rw [if_neg (by decide), Nat.add_assoc, ← eln, s1, xb4_s, if_pos rfl]
            refine ⟨_, _, _, _, rfl, by (try dsimp only); omega, by (try dsimp only); omega, by (try dsimp only); omega, fun i hi => (s3 i hi).trans (q4 i (by omega)), Or.inr ⟨_, rfl, rfl, rfl, s2, n1, n3, by (try dsimp only); omega⟩⟩
