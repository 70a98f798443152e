/-! ===== the matcher: record ===== -/
theorem fnt_app1 {A B : List Sbs} {j : Nat} (h : j < A.length) : fnt (A ++ B) j = fnt A j := by
  unfold fnt
  rw [List.getD_eq_getElem?_getD, List.getD_eq_getElem?_getD, List.getElem?_append_left h]
theorem fnt_app2 {A B : List Sbs} {j : Nat} : fnt (A ++ B) (A.length + j) = fnt B j := by
  unfold fnt
  rw [List.getD_eq_getElem?_getD, List.getD_eq_getElem?_getD, List.getElem?_append_right (by omega), Nat.add_sub_cancel_left]
theorem fnt_mem {Fs : List Sbs} {pv : Int32} {x : List Nat} (h : x ∈ Fs.map (key pv)) : ∃ j : Nat, j < Fs.length ∧ x = key pv (fnt Fs j) := by
  obtain ⟨i, hi, e⟩ := List.mem_iff_getElem.mp h
  rw [List.length_map] at hi
  refine ⟨i, hi, ?_⟩
  rw [← fnt_map hi, ← e]
  unfold nth
  rw [List.getD_eq_getElem?_getD, List.getElem?_eq_getElem (by rw [List.length_map]; exact hi)]; rfl
theorem FR_key {u vt : Nat → Nat → Int32} {w : Nat → Nat → Int64} {las : Nat → Bool} {N : List (List Nat)} {pv : Int32} {s : Nat} {g : Sbs} (hT : TB vt w las N) (r : FR u N pv s g) : (key pv g).length = 105 := by
  have := keyF_len (pv := pv) (sg := g) (fun v hv q => by
    rcases r v hv with ⟨_, y, b, c, _⟩ | ⟨a, _⟩
    · have h1 := (TB_get hT b).1.2.2.2.1
      rw [c] at h1; exact h1
    · rw [a] at q; exact nomatch q) 5 0 (by omega)
  exact this
/-- the row that record writes -/
def RW (u : Nat → Nat → Int32) (N : List (List Nat)) (pv : Int32) (L : Nat) (sg : Sbs) (v : Nat) : Prop :=
  (hb pv v = true ∧ ∃ y : Nat, y < N.length ∧ nth N y = sg v ∧ u 12 (5 * L + v) = nI y) ∨ (hb pv v = false ∧ u 12 (5 * L + v) = -1)
theorem lx_rec19_c {n L : Nat} {u vt : Nat → Nat → Int32} {N : List (List Nat)} {be : Nat → Option (List Nat)} {pv : Int32} (hL : L ≤ 300) (hB : BDG u N be) (hpv : ∀ v : Nat, v < 5 → hb pv v = hb (u 0 4) v) :
    ∀ (k v m : Nat) (u1 : Nat → Nat → Int32), v + k = 5 → k < m → (∀ a : Nat, a ≠ 12 → u1 a = u a) → (∀ i : Nat, i < 5 * L → u1 12 i = u 12 i) → (∀ j : Nat, j < v → RW u1 N pv L (sgB be) j) →
      ∃ u2 : Nat → Nat → Int32, lx_X0_record_19 n vt m (nI L) (nI v) u1 = lx_X0_record_68 n vt n (nI L) 0 (u 0 5) u2 ∧ (∀ a : Nat, a ≠ 12 → u2 a = u a) ∧ (∀ i : Nat, i < 5 * L → u2 12 i = u 12 i) ∧ (∀ j : Nat, j < 5 → RW u2 N pv L (sgB be) j)
  | 0, v, m + 1, u1, hv, _, h1, h2, h3 => by
    have ev : v = 5 := by omega
    subst ev
    refine ⟨u1, ?_, h1, h2, h3⟩
    show bx_X0_record_19 n vt (lx_X0_record_19 n vt m) (nI L) (nI 5) u1 = _
    unfold bx_X0_record_19
    rw [if_pos (by decide), h1 0 (by decide)]
  | k + 1, v, m + 1, u1, hv, hm, h1, h2, h3 => by
    have e5 : (5 : Int32) = nI 5 := rfl
    have hsh : lx_X0_record_19 n vt (m + 1) (nI L) (nI v) u1 = bx_X0_record_19 n vt (lx_X0_record_19 n vt m) (nI L) (nI v) u1 := rfl
    have hstep : ∀ (x : Int32) , RW (mu u1 12 (5 * L + v) x) N pv L (sgB be) v → ∃ u2 : Nat → Nat → Int32, lx_X0_record_19 n vt m (nI L) (nI (v + 1)) (mu u1 12 (5 * L + v) x) = lx_X0_record_68 n vt n (nI L) 0 (u 0 5) u2 ∧ (∀ a : Nat, a ≠ 12 → u2 a = u a) ∧ (∀ i : Nat, i < 5 * L → u2 12 i = u 12 i) ∧ (∀ j : Nat, j < 5 → RW u2 N pv L (sgB be) j) := fun x hx => by
      refine lx_rec19_c hL hB hpv k (v + 1) m _ (by omega) (by omega) (fun a ha => by rw [mu_ne ha]; exact h1 a ha) (fun i hi => by rw [mu_eq, upd_ne (by omega)]; exact h2 i hi) (fun j hj => ?_)
      by_cases q : j = v
      · rw [q]; exact hx
      · have := h3 j (by omega)
        unfold RW at this ⊢
        rw [mu_eq, upd_ne (by omega)]
        exact this
    rw [hsh]
    unfold bx_X0_record_19
    rw [if_neg (by rw [e5, nI_le_iff (by decide) (by omega)]; omega), xl_eq, e5, nI_mul (by omega) (by omega) (by decide), xl_eq, nI_add, xl_eq, xl_eq, show L * 5 + v = 5 * L + v by omega, h1 0 (by decide), h1 5 (by decide)]
    rcases hB v (by omega) with ⟨a, b⟩ | ⟨r, y, a, b, c, d, e⟩
    · rw [if_pos ((hb_0 (by omega)).mpr b), xwp_n (by omega) (by decide), xl_eq, nI_1]
      exact hstep _ (Or.inr ⟨by rw [hpv v (by omega)]; exact b, by rw [mu_eq, upd_eq]⟩)
    · rw [if_neg (fun z => by
        have := (hb_0 (s := u 0 4) (v := v) (by omega)).mp z
        rw [b] at this; exact nomatch this), xr_n (by omega) (by decide), xwp_n (by omega) (by decide), xl_eq, nI_1, e]
      exact hstep _ (Or.inl ⟨by rw [hpv v (by omega)]; exact b, y, c, by unfold sgB; rw [a]; exact d, by rw [mu_eq, upd_eq]⟩)
theorem mcp_eq {M : Nat → Nat → Int32} {a sp dp n : Nat} {f : Nat → Int32} : mcp M a f sp dp n a = va_cpy f (M a) sp dp n := by
  show cond (Nat.beq a a) _ _ = _
  rw [Nat.beq_refl]; rfl
theorem mcp_ne {M : Nat → Nat → Int32} {a b sp dp n : Nat} {f : Nat → Int32} (h : b ≠ a) : mcp M a f sp dp n b = M b := by
  show cond (Nat.beq b a) _ _ = _
  have : Nat.beq b a = false := by
    cases q : Nat.beq b a with
    | false => rfl
    | true => exact absurd (Nat.eq_of_beq_eq_true q) h
  rw [this]; rfl
theorem FND_row {u u' : Nat → Nat → Int32} {N : List (List Nat)} {pv : Int32} {s : Nat} {g : Sbs} (h : FR u N pv s g) (e : ∀ v : Nat, v < 5 → u' 12 (5 * s + v) = u 12 (5 * s + v)) : FR u' N pv s g := fun v hv => by
  rw [e v hv]; exact h v hv
/-- record: there already, put in its place, or one too many -/
theorem fx_record_c {n : Nat} {u vt : Nat → Nat → Int32} {w : Nat → Nat → Int64} {las : Nat → Bool} {N : List (List Nat)} {be : Nat → Option (List Nat)} {pv : Int32} {Fs : List Sbs} (hn : 100000 ≤ n) (hT : TB vt w las N) (hB : BDG u N be) (hpv : ∀ v : Nat, v < 5 → hb pv v = hb (u 0 4) v) (hF : FND u N pv Fs) :
    ∃ u' : Nat → Nat → Int32, fx_X0_record n u vt = some u' ∧ (∀ a : Nat, a ≠ 0 → a ≠ 12 → a ≠ 13 → u' a = u a) ∧ (∀ i : Nat, i ≠ 5 → u' 0 i = u 0 i) ∧
      (((∃ j : Nat, j < Fs.length ∧ key pv (fnt Fs j) = key pv (sgB be)) ∧ FND u' N pv Fs) ∨
       (∃ A B : List Sbs, Fs = A ++ B ∧ FND u' N pv (A ++ sgB be :: B)) ∨
       (Fs.length = 300 ∧ u' 0 5 = 301 ∧ ∀ j : Nat, j < Fs.length → key pv (fnt Fs j) ≠ key pv (sgB be))) := by
  obtain ⟨f1, f2, f3, f4⟩ := hF
  obtain ⟨u2, g1, g2, g3, g4⟩ := lx_rec19_c (n := n) (vt := vt) (L := Fs.length) f2 hB hpv 5 0 n u rfl (by omega) (fun _ _ => rfl) (fun _ _ => rfl) (fun j hj => absurd hj (Nat.not_lt_zero j))
  have hF2 : FND u2 N pv Fs := ⟨by rw [g2 0 (by decide)]; exact f1, f2, f3, fun j hj => by
    obtain ⟨s, a, b, c⟩ := f4 j hj
    exact ⟨s, a, by rw [g2 13 (by decide)]; exact b, FND_row c (fun v hv => g3 _ (by omega))⟩⟩
  have hr : FR u2 N pv Fs.length (sgB be) := g4
  have hks := FR_key hT hr
  have hkl : ∀ j : Nat, j < Fs.length → (key pv (fnt Fs j)).length = (key pv (sgB be)).length := fun j hj => by
    obtain ⟨s, _, _, c⟩ := f4 j hj
    rw [FR_key hT c, hks]
  have e0 : fx_X0_record n u vt = lx_X0_record_68 n vt n (nI Fs.length) (nI 0) (nI Fs.length) u2 := by
    unfold fx_X0_record
    rw [f1, if_neg (by rw [show (0 : Int32) = nI 0 from rfl, nI_lt_iff (by omega) (by decide)]; omega), if_pos (by rw [show (300 : Int32) = nI 300 from rfl, nI_le_iff (by omega) (by decide)]; exact f2)]
    rw [f1] at g1
    exact g1
  rw [e0]
  rcases lx_rec68_c hn hT hF2 hr hkl Fs.length 0 Fs.length n (by omega) (by omega) (Nat.zero_le _) (Nat.le_refl _) (fun j hj => absurd hj (Nat.not_lt_zero j)) (fun j h1 h2 => absurd h2 (by omega)) with ⟨j, j1, j2, j3⟩ | ⟨at_, a1, a2, a3, a4⟩
  · exact ⟨u2, j3, fun a _ h _ => g2 a h, fun i _ => by rw [g2 0 (by decide)], Or.inl ⟨⟨j, j1, j2⟩, hF2⟩⟩
  · have hne : ∀ j : Nat, j < Fs.length → key pv (fnt Fs j) ≠ key pv (sgB be) := fun j hj e => by
      rcases Nat.lt_or_ge j at_ with q | q
      · have := a2 j q
        rw [e] at this; exact klt_irrefl this
      · have := a3 j q hj
        rw [e] at this; exact klt_irrefl this
    have e5 : u2 0 5 = nI Fs.length := hF2.1
    rw [a4, e5]
    by_cases q : Fs.length = 300
    · rw [if_neg (by rw [q]; decide)]
      exact ⟨mu u2 0 5 301, rfl, fun a h0 h _ => by rw [mu_ne h0]; exact g2 a h, fun i hi => by rw [mu_eq, upd_ne hi, g2 0 (by decide)], Or.inr (Or.inr ⟨q, by rw [mu_eq, upd_eq], hne⟩)⟩
    · have hcl : ∀ x : Nat, x < 2147483648 → (nI x).toNatClampNeg = x := fun x hx => nI_clamp hx
      have hneg : ∀ x : Nat, x < 2147483648 → ¬ nI x < (0 : Int32) := fun x hx => by rw [show (0 : Int32) = nI 0 from rfl, nI_lt_iff hx (by decide)]; omega
      have e1 : (1 : Int32) = nI 1 := rfl
      rw [if_pos (by rw [show (300 : Int32) = nI 300 from rfl, nI_lt_iff (by omega) (by decide)]; omega), xl_eq, e1, nI_add, xl_eq, nI_sub a1]
      unfold xcp
      rw [if_pos ⟨hneg _ (by omega), hneg _ (by omega), hneg _ (by omega), by rw [hcl _ (by omega), hcl _ (by omega)]; omega, by rw [hcl _ (by omega), hcl _ (by omega)]; omega⟩, hcl _ (by omega), hcl _ (by omega), hcl _ (by omega)]
      show ∃ u' : Nat → Nat → Int32, xwp 301 (mcp u2 13 (u2 13) at_ (at_ + 1) (Fs.length - at_)) 13 (nI at_) (nI Fs.length) _ = some u' ∧ _
      rw [xwp_n (by omega) (by decide), xl_eq, mu_ne (by decide), mcp_ne (by decide), e5, nI_add, xl_eq]
      have hFA : Fs = Fs.take at_ ++ Fs.drop at_ := (List.take_append_drop at_ Fs).symm
      have hAl : (Fs.take at_).length = at_ := by rw [List.length_take]; omega
      have hBl : (Fs.drop at_).length = Fs.length - at_ := List.length_drop
      refine ⟨_, rfl, fun a h0 h h3 => by rw [mu_ne h0, mu_ne h3, mcp_ne h3]; exact g2 a h, fun i hi => by rw [mu_eq, upd_ne hi, mu_ne (by decide), mcp_ne (by decide), g2 0 (by decide)], Or.inr (Or.inl ⟨Fs.take at_, Fs.drop at_, hFA, ?_, ?_, ?_, ?_⟩)⟩
      · rw [mu_eq, upd_eq, List.length_append, List.length_cons, hAl, hBl]
        congr 1; omega
      · rw [List.length_append, List.length_cons, hAl, hBl]; omega
      · have f3' := f3
        rw [hFA, List.map_append] at f3'
        have hp := List.pairwise_append.mp f3'
        rw [List.map_append, List.map_cons]
        refine List.pairwise_append.mpr ⟨hp.1, List.pairwise_cons.mpr ⟨fun y hy => ?_, hp.2.1⟩, fun x hx y hy => ?_⟩
        · obtain ⟨j, hj, e⟩ := fnt_mem hy
          have := a3 (at_ + j) (by omega) (by omega)
          rw [hFA] at this
          have e2 := fnt_app2 (A := Fs.take at_) (B := Fs.drop at_) (j := j)
          rw [hAl] at e2
          rw [e2, ← e] at this; exact this
        · rcases List.mem_cons.mp hy with g | g
          · obtain ⟨j, hj, e⟩ := fnt_mem hx
            have := a2 j (by omega)
            rw [hFA, fnt_app1 hj, ← e] at this
            rw [g]; exact this
          · exact hp.2.2 x hx y g
      · intro j hj
        rw [List.length_append, List.length_cons, hAl, hBl] at hj ⊢
        have h12 : ∀ (s : Nat) (g : Sbs), FR u2 N pv s g → FR (mu (mu (mcp u2 13 (u2 13) at_ (at_ + 1) (Fs.length - at_)) 13 at_ (nI Fs.length)) 0 5 (nI (Fs.length + 1))) N pv s g := fun s g h => FND_row h (fun v hv => by rw [mu_ne (by decide), mu_ne (by decide), mcp_ne (by decide)])
        have hold : ∀ i : Nat, i < Fs.length → ∃ s : Nat, s < at_ + (Fs.length - at_ + 1) ∧ u2 13 i = nI s ∧ FR u2 N pv s (fnt Fs i) := fun i hi => by
          obtain ⟨s, b1, b2, b3⟩ := hF2.2.2.2 i hi
          exact ⟨s, by omega, b2, b3⟩
        rcases Nat.lt_trichotomy j at_ with z | z | z
        · obtain ⟨s, b1, b2, b3⟩ := hold j (by omega)
          refine ⟨s, b1, ?_, ?_⟩
          · rw [mu_ne (by decide), mu_eq, upd_ne (by omega), mcp_eq]
            unfold va_cpy
            rw [if_neg (by omega)]; exact b2
          · rw [fnt_app1 (by omega)]
            rw [hFA, fnt_app1 (by omega)] at b3
            exact h12 _ _ b3
        · subst z
          refine ⟨Fs.length, by omega, ?_, ?_⟩
          · rw [mu_ne (by decide), mu_eq, upd_eq]
          · have e2 := fnt_app2 (A := Fs.take j) (B := sgB be :: Fs.drop j) (j := 0)
            rw [hAl, Nat.add_zero] at e2
            rw [e2]
            exact h12 _ _ hr
        · obtain ⟨s, b1, b2, b3⟩ := hold (j - 1) (by omega)
          refine ⟨s, b1, ?_, ?_⟩
          · rw [mu_ne (by decide), mu_eq, upd_ne (by omega), mcp_eq]
            unfold va_cpy
            rw [if_pos (by omega), show at_ + (j - (at_ + 1)) = j - 1 by omega]; exact b2
          · have e2 := fnt_app2 (A := Fs.take at_) (B := sgB be :: Fs.drop at_) (j := j - at_)
            rw [hAl, show at_ + (j - at_) = j by omega] at e2
            have e3 : fnt (sgB be :: Fs.drop at_) (j - at_) = fnt (Fs.drop at_) (j - 1 - at_) := by
              rw [show j - at_ = (j - 1 - at_) + 1 by omega]; rfl
            have e4 := fnt_app2 (A := Fs.take at_) (B := Fs.drop at_) (j := j - 1 - at_)
            rw [hAl, show at_ + (j - 1 - at_) = j - 1 by omega, ← hFA] at e4
            rw [e2, e3, ← e4]
            exact h12 _ _ b3
