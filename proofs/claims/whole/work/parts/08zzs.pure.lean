/-! ===== rules of both sides: sides as rows, bits ===== -/
/-- the sides of rules, two rows a rule -/
def sdl : RulL → List (List Nat)
  | [] => []
  | x :: R => x.1 :: x.2 :: sdl R
theorem sdl_len : ∀ {R : RulL}, (sdl R).length = 2 * R.length
  | [] => rfl
  | x :: R => by
    show (x.1 :: x.2 :: sdl R).length = 2 * (x :: R).length
    simp only [List.length_cons]
    rw [sdl_len (R := R)]; omega
theorem sdl_get : ∀ (R : RulL) (r : Nat), rl (sdl R) r = (rul R r).1 ∧ rr (sdl R) r = (rul R r).2
  | [], r => ⟨rfl, rfl⟩
  | x :: R, 0 => ⟨rfl, rfl⟩
  | x :: R, r + 1 => by
    have ih := sdl_get R r
    unfold rl rr at ih ⊢
    rw [show 2 * (r + 1) = 2 * r + 1 + 1 by omega]
    exact ih
theorem sdl_app {x : List Nat × List Nat} : ∀ {R : RulL}, sdl (R ++ [x]) = sdl R ++ [x.1, x.2]
  | [] => rfl
  | y :: R => by
    show y.1 :: y.2 :: sdl (R ++ [x]) = _
    rw [sdl_app (R := R)]; rfl
theorem sdl_mem {q : List Nat} : ∀ {R : RulL}, q ∈ sdl R → ∃ x ∈ R, q = x.1 ∨ q = x.2
  | x :: R, h => by
    rcases List.mem_cons.mp h with e | h
    · exact ⟨x, List.mem_cons_self .., Or.inl e⟩
    · rcases List.mem_cons.mp h with e | h
      · exact ⟨x, List.mem_cons_self .., Or.inr e⟩
      · obtain ⟨y, h1, h2⟩ := sdl_mem h
        exact ⟨y, List.mem_cons_of_mem _ h1, h2⟩
theorem onb_bits : ∀ b : Fin 256, ∀ k : Fin 8, onb (nI b.val) k.val = b.val.testBit k.val := by decide +kernel
theorem onb_nI {b k : Nat} (hb9 : b < 256) (hk : k < 8) : onb (nI b) k = b.testBit k := onb_bits ⟨b, hb9⟩ ⟨k, hk⟩
/-- rules as they may be -/
def RUP (so ma : Nat → Nat) (un : Nat → Option Nat) (nv : Nat) (R : RulL) : Prop := R.length ≤ 8 ∧ ∀ x ∈ R, rok so un x ∧ tok so un ma nv x.1 ∧ tok so un ma nv x.2
theorem KR2_RUP {so : Nat → Nat} {un : Nat → Option Nat} {ma : Nat → Nat} {nv : Nat} {fk : Nat → Int32} {R : RulL} (h : KR2 so un ma nv fk R) : RUP so ma un nv R := ⟨h.1.1, fun x hx => ⟨h.1.2.1 x hx, h.2 x hx⟩⟩
theorem pv_five : ∀ a b c d e : Bool, ∃ s : Fin 32, hb (nI s.val) 0 = a ∧ hb (nI s.val) 1 = b ∧ hb (nI s.val) 2 = c ∧ hb (nI s.val) 3 = d ∧ hb (nI s.val) 4 = e := by
  intro a b c d e
  cases a <;> cases b <;> cases c <;> cases d <;> cases e <;> decide +kernel
theorem pvs_ex (p : List Nat) : ∃ pv : Int32, pvs pv p := by
  obtain ⟨s, h0, h1, h2, h3, h4⟩ := pv_five (decide (0 ∈ p)) (decide (1 ∈ p)) (decide (2 ∈ p)) (decide (3 ∈ p)) (decide (4 ∈ p))
  refine ⟨nI s.val, fun v hv => ?_⟩
  have c : v = 0 ∨ v = 1 ∨ v = 2 ∨ v = 3 ∨ v = 4 := by omega
  rcases c with e | e | e | e | e
  · rw [e, h0]; exact decide_eq_true_iff
  · rw [e, h1]; exact decide_eq_true_iff
  · rw [e, h2]; exact decide_eq_true_iff
  · rw [e, h3]; exact decide_eq_true_iff
  · rw [e, h4]; exact decide_eq_true_iff
theorem bit_len {b k : Nat} (h : b < 2 ^ k) {r : Nat} (hr : b.testBit r = true) : r < k := by
  rcases Nat.lt_or_ge r k with q | q
  · exact q
  · rw [Nat.testBit_lt_two_pow (Nat.lt_of_lt_of_le h (Nat.pow_le_pow_right (by decide) q))] at hr
    exact absurd hr (by decide)
theorem RUP_RLK {so ma : Nat → Nat} {un : Nat → Option Nat} {nv bits : Nat} {R : RulL} (h : RUP so ma un nv R) (hb9 : bits < 2 ^ R.length) : RLK so ma un nv (sdl R) bits := fun r hr hb2 => by
  have hl := bit_len hb9 hb2
  obtain ⟨g1, g2⟩ := sdl_get R r
  obtain ⟨a, b, c⟩ := h.2 _ (rul_mem hl)
  rw [g1, g2]
  exact ⟨b, c, a.2.2.2.1, a.2.2.2.2.2.2, pvs_ex _⟩
theorem bits_256 {bits k : Nat} (hb9 : bits < 2 ^ k) (hk : k ≤ 8) : bits < 256 := Nat.lt_of_lt_of_le hb9 (Nat.pow_le_pow_right (n := 2) (by decide) hk)
theorem RUP_SDR {so ma : Nat → Nat} {un : Nat → Option Nat} {nv bits : Nat} {R : RulL} (h : RUP so ma un nv R) (hb9 : bits < 2 ^ R.length) : SDR (sdl R) R (nI bits) bits := ⟨h.1, fun r _ => sdl_get R r, fun r hr => by
  rw [onb_nI (bits_256 hb9 h.1) hr]
  exact ⟨fun q => ⟨bit_len hb9 q, q⟩, fun q => q.2⟩⟩
/-- the stepper as prepare leaves it, and every list after it -/
def LSX (sp v : Nat → Nat → Int32) (w : Nat → Nat → Int64) (las : Nat → Bool) (so ma : Nat → Nat) (un : Nat → Option Nat) (nv : Nat) (R : RulL) (bits : Nat) : Prop :=
  ∃ Nb F : List (List Nat), Nb.length ≤ 400 ∧ TB v w las (Nb ++ F) ∧ (∀ t ∈ Nb, tok so un ma nv t) ∧ v 0 1 = nI 0 ∧ sp 0 1 = nI Nb.length ∧ sp 0 0 = nI bits ∧ LRN sp Nb (sdl R) bits 8
theorem prepare_S {n bits no nv : Nat} {ga vr sp v : Nat → Nat → Int32} {w : Nat → Nat → Int64} {las las0 : Nat → Bool} {N : List (List Nat)} {R : RulL} {so ma : Nat → Nat} {un : Nat → Option Nat} {nmL : Nat → List Nat} (hn : 100000 ≤ n) (he : ENV ga las so ma un no nv nmL) (hU : RUP so ma un nv R) (hR : RWS 16 vr (sdl R)) (hb9 : bits < 2 ^ R.length) (hT : TB v w las0 N) :
    ∃ (sp' v' : Nat → Nat → Int32) (w' : Nat → Nat → Int64), fx_X7_prepare n sp v w ga 16 vr (nI bits) = some (sp', v', w') ∧ LSX sp' v' w' las so ma un nv R bits := by
  obtain ⟨sp', v', w', N', a1, a2, a3, a4, a5, a6, a7, a8, a9⟩ := fx_prepare_c (sp := sp) hn he hR (bits_256 hb9 hU.1) (fun j _ hb2 => by rw [sdl_len]; have := bit_len hb9 hb2; omega) (fun q hq => by
    obtain ⟨x, x1, x2⟩ := sdl_mem hq
    obtain ⟨_, y1, y2⟩ := hU.2 x x1
    rcases x2 with e | e
    · rw [e]; exact y1
    · rw [e]; exact y2) hT
  exact ⟨sp', v', w', a1, N', [], by omega, by rw [List.append_nil]; exact a2.1, a2.2, a3, a6, a7, a5⟩
/-- steps found, as rows -/
def STF (so : Nat → Nat) (un : Nat → Option Nat) (R : RulL) (bits K : Nat) (w : List Nat) (sp rf : Nat → Nat → Int32) (S : List StpE) : Prop := ∃ A : List (List Nat), RWS 201 rf A ∧ A.length ≤ 200 ∧ STT sp A S ∧ StL so un R (nI bits) K w S
theorem list_S {n no nv rn i most bits : Nat} {ga vr sp rf u v : Nat → Nat → Int32} {w8 : Nat → Nat → Int64} {las : Nat → Bool} {so ma : Nat → Nat} {un : Nat → Option Nat} {nmL : Nat → List Nat} {Tm : List (List Nat)} {R : RulL} (hn : 100000000 ≤ n) (he : ENV ga las so ma un no nv nmL) (hmv : MVA so ma un las nv) (hr : rn ≤ 1000) (hU : RUP so ma un nv R) (hb9 : bits < 2 ^ R.length) (hL : LSX sp v w8 las so ma un nv R bits) (hRW : RWS rn vr Tm) (hi : i < Tm.length) (hw : tok so un ma nv (nth Tm i)) (hm1 : 1 ≤ most) (hm20 : most ≤ 20) :
    ∃ (r : Int32) (sp' rf' u' v' : Nat → Nat → Int32) (w' : Nat → Nat → Int64) (K : Nat), fx_X7_list n sp rf u v w8 ga rn vr (nI i) (nI most) = some (r, sp', rf', u', v', w') ∧ K ≤ (nth Tm i).length ∧ K ≤ most ∧ (K = (nth Tm i).length ∨ K = most) ∧ (∃ N' : List (List Nat), TB v' w' las N') ∧
      ((r = 1 ∧ LSX sp' v' w' las so ma un nv R bits ∧ ∃ S : List StpE, STF so un R bits K (nth Tm i) sp' rf' S) ∨ (r = 0 ∧ TMs so un R (nI bits) K (nth Tm i))) := by
  obtain ⟨Nb, F, b1, b2, b3, b4, b5, b6, b7⟩ := hL
  obtain ⟨r, sp', rf', u', v', w', K, c1, c2, c3, c4, c5, c6, c7, c8, c9⟩ := fx_list_c (rf := rf) (u := u) (most := most) hn he hmv hr b2 b3 b1 b4 b5 b6 (bits_256 hb9 hU.1) b7 (RUP_RLK hU hb9) hRW hi hw hm1 hm20
  have hS := RUP_SDR hU hb9
  have hsu := SV_SU he.2.1
  refine ⟨r, sp', rf', u', v', w', K, c1, c2, c3, c4, ?_, ?_⟩
  · rcases c9 with ⟨_, ⟨E, d2⟩, _⟩ | ⟨_, d2, _⟩
    · exact ⟨_, d2.1⟩
    · exact d2
  · rcases c9 with ⟨d1, ⟨E, d2⟩, d3, d4, d5⟩ | ⟨d1, d2, d3⟩
    · refine Or.inl ⟨d1, ⟨Nb, E, b1, d2.1, b3, d3, c6, c5, ?_⟩, ?_⟩
      · intro j hj hb2
        rw [c7, c8]
        exact b7 j hj hb2
      · obtain ⟨A, S, e1, e2, e3, e4⟩ := STS_StL hsu hS hw.1 (tok_len hw) c2 (fun x hx => (hU.2 x hx).1) d4 d5
        exact ⟨S, A, e1, e2, e3, e4⟩
    · exact Or.inr ⟨d1, TMB_TMs hS d3⟩
