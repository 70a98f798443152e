/-! ===== spell, what is shown ===== -/
/-- names as words of at most six letters -/
def NML (so : Nat → Nat) (nv : Nat) (nmL : Nat → List Nat) : Prop := ∀ i : Nat, ((i < 10 ∧ so i ≠ 3) ∨ (10 ≤ i ∧ i < 10 + nv)) → (nmL i).length ≤ 6 ∧ ∀ b ∈ nmL i, 97 ≤ b ∧ b ≤ 122
theorem fx_nameOf_c {n no nv c : Nat} {ga : Nat → Nat → Int32} {so ma : Nat → Nat} {un : Nat → Option Nat} {nmL : Nat → List Nat} (h : SGC ga so ma un no nv nmL) (hso : ∀ q : Nat, so q ≠ 3 → q < no) (hc : cS so ma nv c) (hk : cck c) : fx_X5_nameOf n ga (nI (cc c)) = some (nI (wnu (nmL (hx c)))) := by
  obtain ⟨h1, h2, h3, h4, h5, h6⟩ := h
  unfold fx_X5_nameOf hx
  rcases hc with hc | ⟨c1, c2, c3, c4⟩
  · rw [cc_v (by omega), if_neg (by rw [show (8 : Int32) = nI 8 from rfl, nI_le_iff (by decide) (by omega)]; omega), if_neg (by rw [show (0 : Int32) = nI 0 from rfl, nI_lt_iff (by omega) (by decide)]; omega), if_neg (by rw [show (5 : Int32) = nI 5 from rfl, nI_le_iff (by decide) (by omega)]; omega), xr_n (by omega) (by decide), h6 c hc, if_pos (by omega)]
  · have ho := hso _ c3
    have e1 : opI c = nI (c / 512 - 1) := by
      unfold opI; rw [show (1 : Int32) = nI 1 from rfl, nI_sub (by omega)]
    rw [if_pos ((le8 hk).mpr (by omega)), fx_operatorIn_c hk, xb1_s, e1, if_neg (by rw [show (0 : Int32) = nI 0 from rfl, nI_lt_iff (by omega) (by decide)]; omega), if_neg (by rw [show (10 : Int32) = nI 10 from rfl, nI_le_iff (by decide) (by omega)]; omega), xr_n (by omega) (by decide), (h5 _ ho).1, if_neg (by omega)]
/-- what is laid behind a term without parts -/
def cls : List Nat → List Nat
  | [] => []
  | a :: st => if 1 < a then [44] else 41 :: cls st
theorem cls_s {a : Nat} {st : List Nat} (h : 1 < a) : cls (a :: st) = [44] := if_pos h
theorem cls_1 {st : List Nat} : cls (1 :: st) = 41 :: cls st := rfl
theorem cls_len : ∀ (st : List Nat), (cls st).length + (lvs st).length ≤ st.length + 1
  | [] => by decide
  | a :: st => by
    by_cases h : 1 < a
    · rw [cls_s h, lvs_s h]; simp only [List.length_cons, List.length_nil]; omega
    · have := cls_len st
      show (if 1 < a then [44] else 41 :: cls st).length + (if 1 < a then (a - 1) :: st else lvs st).length ≤ _
      rw [if_neg h, if_neg h]; simp only [List.length_cons]; omega
theorem lx_closeAll_c {n : Nat} {p0 : Int32} : ∀ (st : List Nat) (m : Nat) (sw : Nat → Nat → Int32) (B : List Nat), st.length ≤ 20 → STK (sw 2) st → st.length < m → SWT sw B → B.length + st.length < 256 →
    ∃ sw' : Nat → Nat → Int32, lx_X4_closeAll_2 n p0 m (nI st.length) sw = some (nI (lvs st).length, sw') ∧ STK (sw' 2) (lvs st) ∧ SWT sw' (B ++ cls st)
  | [], m + 1, sw, B, _, _, _, hs, _ => by
    refine ⟨sw, ?_, trivial, by show SWT sw (B ++ []); rw [List.append_nil]; exact hs⟩
    show bx_X4_closeAll_2 n p0 (lx_X4_closeAll_2 n p0 m) (nI 0) sw = _
    unfold bx_X4_closeAll_2
    rw [if_pos (show nI 0 ≤ (0 : Int32) by decide)]; rfl
  | a :: st, m + 1, sw, B, h20, h, hm, hs, hB => by
    simp only [List.length_cons] at h20 hm hB
    obtain ⟨h1, h2, h3, h4⟩ := h
    have hs1 : SWT (mu sw 2 (st.length + 1) (nI (a - 1))) B := ⟨by rw [mu_ne (by decide)]; exact hs.1, by rw [mu_ne (by decide)]; exact hs.2⟩
    have st1 : lx_X4_closeAll_2 n p0 (m + 1) (nI (st.length + 1)) sw = if nI (a - 1) ≤ (0 : Int32) then (xb1 (fx_X4_putByte n (mu sw 2 (st.length + 1) (nI (a - 1))) 41) fun v => lx_X4_closeAll_2 n p0 m (nI st.length) v) else (xb1 (fx_X4_putByte n (mu sw 2 (st.length + 1) (nI (a - 1))) 44) fun v => some (nI (st.length + 1), v)) := by
      show bx_X4_closeAll_2 n p0 (lx_X4_closeAll_2 n p0 m) (nI (st.length + 1)) sw = _
      unfold bx_X4_closeAll_2
      rw [if_neg (by rw [show (0 : Int32) = nI 0 from rfl, nI_le_iff (by omega) (by decide)]; omega), if_neg (by rw [show (20 : Int32) = nI 20 from rfl, nI_lt_iff (by decide) (by omega)]; omega), xr_n (by omega) (by decide), h1, xl_eq, show (1 : Int32) = nI 1 from rfl, nI_sub h2, xwp_n (by omega) (by decide), xr_n (by omega) (by decide), mu_eq, upd_eq]
      simp only [xl_eq, show nI (st.length + 1) + -nI 1 = nI st.length from nI_m1s]
    show ∃ sw' : Nat → Nat → Int32, lx_X4_closeAll_2 n p0 (m + 1) (nI (st.length + 1)) sw = _ ∧ _
    rw [st1]
    by_cases z : 1 < a
    · obtain ⟨sw1, p1, p2, p3⟩ := fx_putByte_c (n := n) (b := 44) hs1 (by omega)
      rw [if_neg (by rw [show (0 : Int32) = nI 0 from rfl, nI_le_iff (by omega) (by decide)]; omega), lvs_s z, cls_s z, show (44 : Int32) = nI 44 from rfl, p1, xb1_s]
      refine ⟨_, rfl, ?_, p2⟩
      rw [p3]
      refine ⟨by rw [mu_eq, upd_eq], by omega, by omega, ?_⟩
      rw [mu_eq]
      exact STK_upd h4 (by omega)
    · have e : a = 1 := by omega
      subst e
      obtain ⟨sw1, p1, p2, p3⟩ := fx_putByte_c (n := n) (b := 41) hs1 (by omega)
      rw [if_pos (by decide), show (41 : Int32) = nI 41 from rfl, p1, xb1_s]
      obtain ⟨sw', g1, g2, g3⟩ := lx_closeAll_c (p0 := p0) st m sw1 (B ++ [41]) (by omega) (by rw [p3, mu_eq]; exact STK_upd h4 (by omega)) (by omega) p2 (by rw [List.length_append]; simp only [List.length_cons, List.length_nil]; omega)
      refine ⟨sw', g1, g2, ?_⟩
      rw [cls_1]
      rw [List.append_assoc] at g3
      exact g3
/-- a term, and its parts, in spell -/
theorem lx_spell_c {n no nv N : Nat} {ga ra : Nat → Nat → Int32} {so ma : Nat → Nat} {un : Nat → Option Nat} {nmL : Nat → List Nat} {x : List Nat} (hn : 100000 ≤ n) (hg : SGC ga so ma un no nv nmL) (hso : ∀ q : Nat, so q ≠ 3 → q < no) (hnl : NML so nv nmL) (h5 : nv ≤ 5) (hV : RWS 1 ra [x]) (hN : N = x.length) (h20 : N ≤ 20) (hck : cckl x) (hS : sS so ma nv x) :
    ∀ (e : Nat) (t : List Nat), t.length ≤ e → wf 1 t → ∀ (st r B : List Nat) (k m : Nat) (sw : Nat → Nat → Int32), x.drop k = t ++ r → STK (sw 2) st → st.length ≤ k → SWT sw B → B.length + st.length ≤ 8 * k →
      ∃ sw' : Nat → Nat → Int32, lx_X4_spell_18 n ga ra (m + t.length) (nI st.length) (nI N) (nI k) sw = lx_X4_spell_18 n ga ra m (nI (lvs st).length) (nI N) (nI (k + t.length)) sw' ∧ STK (sw' 2) (lvs st) ∧ SWT sw' (B ++ (spl nmL e t ++ cls st)) ∧ (B ++ (spl nmL e t ++ cls st)).length + (lvs st).length ≤ 8 * (k + t.length) := by
  intro e
  induction e with
  | zero =>
    intro t ht hw
    cases t with
    | nil => exact absurd hw.symm (by decide)
    | cons c l => simp only [List.length_cons] at ht; omega
  | succ e ih =>
    intro t ht hw st r B k m sw hd hs hk hB hlen
    cases t with
    | nil => exact absurd hw.symm (by decide)
    | cons c l =>
      obtain ⟨p1, p2, p3⟩ := pts_of hw
      obtain ⟨d1, d2, d3⟩ := gb_drop (show x.drop k = c :: (l ++ r) from hd)
      have hcx : c ∈ x := by rw [← d2]; exact gb_mem d1
      have hcc : cck c := hck c hcx
      have hcs : cS so ma nv c := hS c hcx
      have ar7 : ar c ≤ 7 := ar_cck hcc
      obtain ⟨w6, wl⟩ := hnl (hx c) (hx_ok hcs h5)
      simp only [List.length_cons] at ht ⊢
      have e0 : nth [x] 0 = x := rfl
      have ca := fx_cellAt_c (n := n) (rn := 1) (v := ra) (A := [x]) (i := 0) (k := k) (by decide) hV (by simp) (by rw [e0]; exact d1)
      rw [e0, d2, show nI 0 = (0 : Int32) from rfl] at ca
      obtain ⟨sw1, a1, a2, a3⟩ := fx_putName_c (n := n) hn wl w6 hB (by omega)
      have hd0 : bx_X4_spell_18 n ga ra = bx_X4_spell_18 n ga ra := rfl
      have cl := cls_len st
      by_cases z : ar c = 0
      · have l0 : l = [] := by
          have : (pts (c :: l)) = [] := List.eq_nil_of_length_eq_zero (by rw [p2, z])
          rw [← p3, this]; rfl
        obtain ⟨sw', g1, g2, g3⟩ := lx_closeAll_c (n := n) (p0 := nI st.length) st n sw1 (B ++ nmL (hx c)) (by omega) (by rw [a3]; exact hs) (by omega) a2 (by rw [List.length_append]; omega)
        have es : spl nmL (e + 1) (c :: l) = nmL (hx c) := by
          rw [spl_s, if_pos z, List.append_nil]
        rw [es, l0]
        refine ⟨sw', ?_, g2, by rw [← List.append_assoc]; exact g3, by simp only [List.length_append, List.length_nil]; omega⟩
        show bx_X4_spell_18 n ga ra (lx_X4_spell_18 n ga ra m) (nI st.length) (nI N) (nI k) sw = _
        unfold bx_X4_spell_18 fx_X4_closeAll
        rw [if_neg (by rw [nI_le_iff (by omega) (by omega)]; omega), ca, xb1_s, fx_nameOf_c hg hso hcs hcc, xb1_s, a1, xb1_s, fx_partsIn_c hcc, xb1_s, z, if_pos (by decide), g1, xb2_s, xl_eq, nI_1, List.length_nil, Nat.zero_add]
      · obtain ⟨sw2, b1, b2, b3⟩ := fx_putByte_c (n := n) (b := 40) a2 (by rw [List.length_append]; omega)
        have st1 : lx_X4_spell_18 n ga ra (m + (l.length + 1)) (nI st.length) (nI N) (nI k) sw = lx_X4_spell_18 n ga ra (m + l.length) (nI (ar c :: st).length) (nI N) (nI (k + 1)) (mu sw2 2 (st.length + 1) (nI (ar c))) := by
          show bx_X4_spell_18 n ga ra (lx_X4_spell_18 n ga ra (m + l.length)) (nI st.length) (nI N) (nI k) sw = _
          unfold bx_X4_spell_18
          rw [if_neg (by rw [nI_le_iff (by omega) (by omega)]; omega), ca, xb1_s, fx_nameOf_c hg hso hcs hcc, xb1_s, a1, xb1_s, fx_partsIn_c hcc, xb1_s, if_neg (by rw [show (0 : Int32) = nI 0 from rfl, nI_le_iff (by omega) (by decide)]; omega), if_neg (by rw [show (20 : Int32) = nI 20 from rfl, nI_le_iff (by decide) (by omega)]; omega), show (40 : Int32) = nI 40 from rfl, b1, xb1_s, xl_eq, nI_1, xwp_n (by omega) (by decide), xl_eq, nI_1]
          rfl
        rw [st1]
        have hs1 : STK ((mu sw2 2 (st.length + 1) (nI (ar c))) 2) (ar c :: st) := by
          rw [mu_eq, b3, a3]
          exact ⟨by rw [upd_eq], by omega, ar7, STK_upd hs (by omega)⟩
        have hB1 : SWT (mu sw2 2 (st.length + 1) (nI (ar c))) (B ++ nmL (hx c) ++ [40]) := ⟨by rw [mu_ne (by decide)]; exact b2.1, by rw [mu_ne (by decide)]; exact b2.2⟩
        -- the parts; the first byte of their texts is laid
        have key : ∀ (ps : List (List Nat)), ps ≠ [] → ps.length ≤ 7 → (∀ q ∈ ps, q.length ≤ e ∧ wf 1 q) → ∀ (B : List Nat) (j k m : Nat) (sw : Nat → Nat → Int32) (r : List Nat), x.drop k = ps.flatten ++ r → STK (sw 2) (ps.length :: st) → st.length + 1 ≤ k → SWT sw (B ++ [if j = 0 then 40 else 44]) → (B ++ [if j = 0 then 40 else 44]).length + (st.length + 1) ≤ 8 * k →
            ∃ sw' : Nat → Nat → Int32, lx_X4_spell_18 n ga ra (m + ps.flatten.length) (nI (ps.length :: st).length) (nI N) (nI k) sw = lx_X4_spell_18 n ga ra m (nI (lvs st).length) (nI N) (nI (k + ps.flatten.length)) sw' ∧ STK (sw' 2) (lvs st) ∧ SWT sw' (B ++ (tlt (spl nmL e) j ps ++ [41] ++ cls st)) ∧ (B ++ (tlt (spl nmL e) j ps ++ [41] ++ cls st)).length + (lvs st).length ≤ 8 * (k + ps.flatten.length) := by
          intro ps
          induction ps with
          | nil => exact fun h => absurd rfl h
          | cons q qs ihq =>
            intro _ hl7 hq B j k m sw r hd hs hk hB hlen
            obtain ⟨q1, q2⟩ := hq q (List.mem_cons_self ..)
            rw [List.flatten_cons, List.append_assoc] at hd
            obtain ⟨sw1, a1, a2, a3, a4⟩ := ih q q1 q2 ((q :: qs).length :: st) (qs.flatten ++ r) (B ++ [if j = 0 then 40 else 44]) k (m + qs.flatten.length) sw hd hs (by simp only [List.length_cons]; omega) hB (by simp only [List.length_cons]; omega)
            have hd1 := drop_sp hd
            have em : m + (q :: qs).flatten.length = m + qs.flatten.length + q.length := by rw [List.flatten_cons, List.length_append]; omega
            have ek : k + (q :: qs).flatten.length = k + q.length + qs.flatten.length := by rw [List.flatten_cons, List.length_append]; omega
            have qpos := wf_pos q2
            rw [em, ek, a1]
            cases qs with
            | nil =>
              have ec : cls ([q].length :: st) = 41 :: cls st := rfl
              have ev : lvs ([q].length :: st) = lvs st := rfl
              rw [ec] at a3 a4
              rw [ev] at a2 a4
              have eB : B ++ (tlt (spl nmL e) j [q] ++ [41] ++ cls st) = B ++ [if j = 0 then 40 else 44] ++ (spl nmL e q ++ 41 :: cls st) := by
                simp [tlt]
              rw [eB]
              exact ⟨sw1, rfl, a2, a3, a4⟩
            | cons q' qs' =>
              have el : lvs ((q :: q' :: qs').length :: st) = (q' :: qs').length :: st := by
                simp only [List.length_cons]
                rw [lvs_s (by omega)]; rfl
              have ec : cls ((q :: q' :: qs').length :: st) = [44] := by
                simp only [List.length_cons]
                rw [cls_s (by omega)]
              rw [el] at a1 a2 a4 ⊢
              rw [ec] at a3 a4
              have eB1 : B ++ [if j = 0 then 40 else 44] ++ (spl nmL e q ++ [44]) = (B ++ ((if j = 0 then 40 else 44) :: spl nmL e q)) ++ [if j + 1 = 0 then 40 else 44] := by
                rw [if_neg (show ¬ j + 1 = 0 by omega)]; simp
              rw [eB1] at a3 a4
              obtain ⟨sw2, b1, b2, b3, b4⟩ := ihq (by simp) (by simp only [List.length_cons] at hl7 ⊢; omega) (fun z hz => hq z (List.mem_cons_of_mem _ hz)) (B ++ ((if j = 0 then 40 else 44) :: spl nmL e q)) (j + 1) (k + q.length) m sw1 r hd1 a2 (by omega) a3 (by simp only [List.length_cons] at a4 ⊢; omega)
              have eB2 : B ++ (tlt (spl nmL e) j (q :: q' :: qs') ++ [41] ++ cls st) = B ++ ((if j = 0 then 40 else 44) :: spl nmL e q) ++ (tlt (spl nmL e) (j + 1) (q' :: qs') ++ [41] ++ cls st) := by
                simp [tlt]
              rw [eB2]
              exact ⟨sw2, b1, b2, b3, b4⟩
        have hd' : x.drop (k + 1) = (pts (c :: l)).flatten ++ r := by rw [p3]; exact d3
        obtain ⟨sw', g1, g2, g3, g4⟩ := key (pts (c :: l)) (fun q => by rw [q] at p2; exact z p2.symm) (by omega) (fun q hq => ⟨by have := pts_short hw hq; omega, p1 q hq⟩) (B ++ nmL (hx c)) 0 (k + 1) m (mu sw2 2 (st.length + 1) (nI (ar c))) r hd' (by rw [p2]; exact hs1) (by omega) hB1 (by rw [if_pos rfl]; simp only [List.length_append, List.length_cons, List.length_nil]; omega)
        rw [p3] at g1 g4
        rw [p2] at g1
        have es : B ++ (spl nmL (e + 1) (c :: l) ++ cls st) = B ++ nmL (hx c) ++ (tlt (spl nmL e) 0 (pts (c :: l)) ++ [41] ++ cls st) := by
          rw [spl_s, if_neg z]; simp
        rw [es]
        exact ⟨sw', by rw [g1, show k + 1 + l.length = k + (l.length + 1) by omega], g2, g3, by rw [show k + (l.length + 1) = k + 1 + l.length by omega]; exact g4⟩
theorem fx_spell_c {n no nv : Nat} {ga ra sw : Nat → Nat → Int32} {so ma : Nat → Nat} {un : Nat → Option Nat} {nmL : Nat → List Nat} {x : List Nat} (hn : 100000 ≤ n) (hg : SGC ga so ma un no nv nmL) (hso : ∀ q : Nat, so q ≠ 3 → q < no) (hnl : NML so nv nmL) (h5 : nv ≤ 5) (hV : RWS 1 ra [x]) (hw : wf 1 x) (hS : sS so ma nv x) :
    ∃ sw' : Nat → Nat → Int32, fx_X4_spell n sw ga ra = some sw' ∧ SWT sw' (txt nmL x) ∧ (txt nmL x).length ≤ 160 := by
  obtain ⟨_, r2, r3, _⟩ := hV.2.2 0 (by simp)
  have e0 : nth [x] 0 = x := rfl
  rw [e0] at r2 r3
  obtain ⟨sw', g1, g2, g3, g4⟩ := lx_spell_c (n := n) hn hg hso hnl h5 hV rfl r2 r3 hS 21 x (by omega) hw [] [] [] 0 (n - x.length) (mu sw 0 0 0) (by rw [List.append_nil]; rfl) trivial (Nat.le_refl _) ⟨by rw [mu_eq, upd_eq]; rfl, trivial⟩ (by decide)
  have et : [] ++ (spl nmL 21 x ++ cls []) = txt nmL x := by show [] ++ (spl nmL 21 x ++ []) = spl nmL 21 x; simp
  rw [et] at g3 g4
  refine ⟨sw', ?_, g3, by omega⟩
  unfold fx_X4_spell
  have hl := fx_lengthOf_c (n := n) (rn := 1) (i := 0) (by decide) hV (by simp)
  rw [e0, show nI 0 = (0 : Int32) from rfl] at hl
  rw [xl_eq, hl, xb1_s]
  rw [show n - x.length + x.length = n by omega] at g1
  have g1' : lx_X4_spell_18 n ga ra n 0 (nI x.length) 0 (mu sw 0 0 0) = _ := g1
  rw [g1']
  obtain ⟨m', em⟩ : ∃ m', n - x.length = m' + 1 := ⟨n - x.length - 1, by omega⟩
  rw [em]
  show bx_X4_spell_18 n ga ra (lx_X4_spell_18 n ga ra m') _ _ _ sw' = _
  unfold bx_X4_spell_18
  rw [Nat.zero_add, if_pos (Int32.le_refl _)]
/-- what is shown, as the class has it -/
def SHC (sw rw : Nat → Nat → Int32) (so ma : Nat → Nat) (un : Nat → Option Nat) (nv : Nat) (nmL : Nat → List Nat) : Option (List Nat) → Prop
  | none => RWS 1 rw [] ∧ sw 0 0 = nI 0
  | some t => tok so un ma nv t ∧ RWS 1 rw [t] ∧ SWT sw (txt nmL t) ∧ (txt nmL t).length ≤ 160
theorem fx_take_c {n no nv rn i : Nat} {ga rw sw vb : Nat → Nat → Int32} {so ma : Nat → Nat} {un : Nat → Option Nat} {nmL : Nat → List Nat} {A : List (List Nat)} (hn : 100000 ≤ n) (hg : SGC ga so ma un no nv nmL) (hso : ∀ q : Nat, so q ≠ 3 → q < no) (hnl : NML so nv nmL) (h5 : nv ≤ 5) (hr : rn ≤ 1000) (hB : RWS rn vb A) (hi : i < A.length) (ht : tok so un ma nv (nth A i)) :
    ∃ sw' rw' : Nat → Nat → Int32, fx_X4_take n sw ga rw rn vb (nI i) = some (nI (txt nmL (nth A i)).length, sw', rw') ∧ SHC sw' rw' so ma un nv nmL (some (nth A i)) := by
  obtain ⟨v1, a1, a2⟩ := fx_clear_c (n := n) (rn := 1) (v := rw)
  obtain ⟨v2, b1, b2⟩ := fx_copy_c (n := n) (bn := rn) (vb := vb) (B := A) (i := i) hn (by decide) hr a2 (by decide) hB hi
  obtain ⟨sw', c1, c2, c3⟩ := fx_spell_c (sw := sw) hn hg hso hnl h5 b2 ht.1.1.1 ht.2.2
  refine ⟨sw', v2, ?_, ht, b2, c2, c3⟩
  unfold fx_X4_take
  rw [a1, xb1_s, b1, xb1_s, c1, xb1_s, c2.1]
theorem fx_clear4_c {n : Nat} {rw sw : Nat → Nat → Int32} {so ma : Nat → Nat} {un : Nat → Option Nat} {nv : Nat} {nmL : Nat → List Nat} : ∃ sw' rw' : Nat → Nat → Int32, fx_X4_clear n sw rw = some (sw', rw') ∧ SHC sw' rw' so ma un nv nmL none := by
  obtain ⟨v1, a1, a2⟩ := fx_clear_c (n := n) (rn := 1) (v := rw)
  refine ⟨mu sw 0 0 0, v1, ?_, a2, by rw [mu_eq, upd_eq]; rfl⟩
  unfold fx_X4_clear
  rw [a1, xb1_s, xl_eq]
/-- the text that is shown -/
def shT (nmL : Nat → List Nat) : Option (List Nat) → List Nat
  | none => []
  | some t => txt nmL t
theorem fx_byteAt_c {n : Nat} {k : Int32} {rw sw : Nat → Nat → Int32} {so ma : Nat → Nat} {un : Nat → Option Nat} {nv : Nat} {nmL : Nat → List Nat} {sh : Option (List Nat)} (h : SHC sw rw so ma un nv nmL sh) : (∃ i : Nat, i < (shT nmL sh).length ∧ k = nI i ∧ fx_X4_byteAt n sw k = some (nI (gb (shT nmL sh) i))) ∨ (¬ isn k (shT nmL sh).length ∧ fx_X4_byteAt n sw k = some (-1)) := by
  have key : sw 0 0 = nI (shT nmL sh).length ∧ (shT nmL sh).length ≤ 160 ∧ la (sw 1) 0 (shT nmL sh) := by
    cases sh with
    | none => exact ⟨h.2, Nat.zero_le _, trivial⟩
    | some t => exact ⟨h.2.2.1.1, h.2.2.2, h.2.2.1.2⟩
  obtain ⟨k1, k2, k3⟩ := key
  unfold fx_X4_byteAt
  by_cases hk : isn k (shT nmL sh).length
  · obtain ⟨i, i1, i2⟩ := isn_of (by omega) hk
    refine Or.inl ⟨i, i1, i2, ?_⟩
    rw [i2, k1, if_neg (by rw [show (0 : Int32) = nI 0 from rfl, nI_lt_iff (by omega) (by decide)]; omega), if_neg (by rw [nI_le_iff (by omega) (by omega)]; omega), if_neg (by rw [show (256 : Int32) = nI 256 from rfl, nI_le_iff (by decide) (by omega)]; omega), xr_n (by omega) (by decide)]
    have := la_gb k3 i1
    rw [Nat.zero_add] at this
    rw [this]
  · refine Or.inr ⟨hk, ?_⟩
    by_cases z : k < 0
    · rw [if_pos z]
    · rw [if_neg z, k1, if_pos]
      unfold isn at hk
      refine Int32.not_lt.mp (fun q => hk ⟨?_, ?_⟩)
      · have : ¬ k.toInt < (0 : Int32).toInt := fun g => z (Int32.lt_iff_toInt_lt.mpr g)
        have e : (0 : Int32).toInt = 0 := rfl
        omega
      · have := Int32.lt_iff_toInt_lt.mp q
        rw [nI_toInt (by omega)] at this
        exact this
