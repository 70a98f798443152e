/-! ===== before a signature is told: what is counted ===== -/
theorem moa_0 {n : Nat} {xx ga rt rs u v : Nat → Nat → Int32} {w : Nat → Nat → Int64} (hn : 1 ≤ n) (hB : RWS 16 rs []) : fx_X9_matchesOfAll n xx rt rs v w ga u = some (0, v, w, u) := by
  unfold fx_X9_matchesOfAll
  obtain ⟨m, rfl⟩ : ∃ y, n = y + 1 := ⟨n - 1, by omega⟩
  show bx_X9_matchesOfAll_4 (m + 1) xx rt rs ga (lx_X9_matchesOfAll_4 (m + 1) xx rt rs ga m) 0 0 v w u = _
  unfold bx_X9_matchesOfAll_4
  rw [fx_rules_c (r := 0) hB rfl, xb1_s, if_pos (show nI 0 ≤ (0 : Int32) by decide)]
theorem z8 : ∀ k : Fin 8, ((0 : Int32) >>> (nI k.val &&& 31)) &&& 1 = 0 := by decide +kernel
theorem lx_prepare_0 {n : Nat} {ga rs : Nat → Nat → Int32} : ∀ (d k m : Nat) (sp v : Nat → Nat → Int32) (w : Nat → Nat → Int64), k + d = 8 → d < m → lx_X7_prepare_14 n ga 16 rs 0 m (nI k) sp v w = some (mu sp 0 1 (v 0 0), v, w)
  | d, k, 0, sp, v, w, _, hm => absurd hm (Nat.not_lt_zero _)
  | 0, k, m + 1, sp, v, w, hk, hm => by
    show bx_X7_prepare_14 n ga 16 rs 0 (lx_X7_prepare_14 n ga 16 rs 0 m) (nI k) sp v w = _
    unfold bx_X7_prepare_14
    have : k = 8 := by omega
    subst this
    rw [if_pos (show (8 : Int32) ≤ nI 8 by decide), xl_eq]
  | d + 1, k, m + 1, sp, v, w, hk, hm => by
    show bx_X7_prepare_14 n ga 16 rs 0 (lx_X7_prepare_14 n ga 16 rs 0 m) (nI k) sp v w = _
    unfold bx_X7_prepare_14
    rw [if_neg (show ¬ (8 : Int32) ≤ nI k by rw [show (8 : Int32) = nI 8 from rfl, nI_le_iff (by decide) (by omega)]; omega), xl_eq, xl_eq, z8 ⟨k, by omega⟩, if_pos rfl, xl_eq, nI_1]
    exact lx_prepare_0 d (k + 1) m sp v w (by omega) (by omega)
theorem prepare_0 {n : Nat} {ga rs sp v : Nat → Nat → Int32} {w : Nat → Nat → Int64} {las : Nat → Bool} {N : List (List Nat)} (hn : 100000 ≤ n) (hB : RWS 16 rs []) (hT : TB v w las N) : ∃ sp' v' : Nat → Nat → Int32, fx_X7_prepare n sp v w ga 16 rs 0 = some (sp', v', w) ∧ TB v' w las [] := by
  obtain ⟨v1, b1, b2, b3⟩ := fx_clear8_c (n := n) hn hT
  refine ⟨mu (mu sp 0 0 0) 0 1 (v1 0 0), v1, ?_, b2⟩
  unfold fx_X7_prepare
  rw [xl_eq, b1, xb1_s]
  exact lx_prepare_0 8 0 n (mu sp 0 0 0) v1 w rfl (by omega)
theorem normal_0 {n : Nat} {xx ga rt rs sp rf u v : Nat → Nat → Int32} {w : Nat → Nat → Int64} {las : Nat → Bool} {N : List (List Nat)} (hn : 100000 ≤ n) (hA : RWS 30 rt []) (hB : RWS 16 rs []) (hx : xx 0 0 = 0) (hT : TB v w las N) : ∃ sp' v' : Nat → Nat → Int32, fx_X9_normalTerms n xx rt rs sp rf u v w ga = some (0, sp', rf, u, v', w) ∧ TB v' w las [] := by
  obtain ⟨sp', v', a1, a2⟩ := prepare_0 (sp := sp) (ga := ga) hn hB hT
  refine ⟨sp', v', ?_, a2⟩
  unfold fx_X9_normalTerms
  rw [hx, a1, xb3_s]
  obtain ⟨m, rfl⟩ : ∃ y, n = y + 1 := ⟨n - 1, by omega⟩
  show bx_X9_normalTerms_19 (m + 1) xx rt rs ga (lx_X9_normalTerms_19 (m + 1) xx rt rs ga m) 0 0 sp' rf u v' w = _
  unfold bx_X9_normalTerms_19
  rw [hA.2.1, if_pos (show nI ([] : List (List Nat)).length ≤ (0 : Int32) by decide)]
theorem NRT_0 {so : Nat → Nat} {un : Nat → Option Nat} {R : RulL} {on : Int32} : NRT so un R on [] 0 := Or.inl ⟨fun i hi => absurd hi (Nat.not_lt_zero i), fun _ => true, fun i hi => absurd hi (Nat.not_lt_zero i), rfl⟩
theorem AMS_0 {so : Nat → Nat} {un : Nat → Option Nat} {R : RulL} {on : Int32} : AMS so un R on [] 0 := Or.inl ⟨0, rfl, rfl⟩
theorem count_0 {n : Nat} {xx ga rt rs sw sp rf u v : Nat → Nat → Int32} {w : Nat → Nat → Int64} {las : Nat → Bool} {N : List (List Nat)} {on x : Int32} (hn : 100000 ≤ n) (hg0 : ga 0 0 = nI 0) (hg1 : ga 0 1 = nI 0) (hA : RWS 30 rt []) (hB : RWS 16 rs []) (hx : xx 0 0 = 0) (hT : TB v w las N) :
    ∃ (r : Int32) (sp' v' : Nat → Nat → Int32), fx_X9_count n xx rt rs sw sp rf u v w ga x = some (r, sp', rf, u, v', w) ∧ (∃ (las : Nat → Bool) (N : List (List Nat)), TB v' w las N) ∧ CNTo (soF []) (unF []) 0 0 [] (ron on 0) [] (sw 0 0) x r := by
  unfold fx_X9_count
  by_cases hx9 : isn x 9
  · obtain ⟨q, w1, w2⟩ := isn_of (by decide) hx9
    rw [w2, nI_toInt (by omega)]
    have hw9 : q = 0 ∨ q = 1 ∨ q = 2 ∨ q = 3 ∨ q = 4 ∨ q = 5 ∨ q = 6 ∨ q = 7 ∨ q = 8 := by omega
    rcases hw9 with rfl | rfl | rfl | rfl | rfl | rfl | rfl | rfl | rfl
    · rw [if_neg (by decide), if_pos (by decide), hg0]
      exact ⟨_, _, _, rfl, ⟨_, _, hT⟩, Or.inl ⟨rfl, rfl⟩⟩
    · rw [if_neg (by decide), if_neg (by decide), if_pos (by decide), hg1]
      exact ⟨_, _, _, rfl, ⟨_, _, hT⟩, Or.inr (Or.inl ⟨rfl, rfl⟩)⟩
    · rw [if_neg (by decide), if_neg (by decide), if_neg (by decide), if_pos (by decide), hA.2.1]
      exact ⟨_, _, _, rfl, ⟨_, _, hT⟩, Or.inr (Or.inr (Or.inl ⟨rfl, rfl⟩))⟩
    · rw [if_neg (by decide), if_neg (by decide), if_neg (by decide), if_neg (by decide), if_pos (by decide), fx_rules_c (r := 0) hB rfl, xb1_s]
      exact ⟨_, _, _, rfl, ⟨_, _, hT⟩, Or.inr (Or.inr (Or.inr (Or.inl ⟨rfl, rfl⟩)))⟩
    · rw [if_neg (by decide), if_neg (by decide), if_neg (by decide), if_neg (by decide), if_neg (by decide), if_pos (by decide)]
      exact ⟨_, _, _, rfl, ⟨_, _, hT⟩, Or.inr (Or.inr (Or.inr (Or.inr (Or.inl ⟨rfl, hx.trans ron_0.symm⟩))))⟩
    · rw [if_neg (by decide), if_neg (by decide), if_neg (by decide), if_neg (by decide), if_neg (by decide), if_neg (by decide), if_pos (by decide)]
      exact ⟨_, _, _, rfl, ⟨_, _, hT⟩, Or.inr (Or.inr (Or.inr (Or.inr (Or.inr (Or.inl ⟨rfl, rfl⟩)))))⟩
    · obtain ⟨sp', v', c1, c2⟩ := normal_0 (sp := sp) (rf := rf) (u := u) (ga := ga) hn hA hB hx hT
      rw [if_neg (by decide), if_neg (by decide), if_neg (by decide), if_neg (by decide), if_neg (by decide), if_neg (by decide), if_neg (by decide), if_pos (by decide), c1, xb6_s]
      exact ⟨_, _, _, rfl, ⟨_, _, c2⟩, Or.inr (Or.inr (Or.inr (Or.inr (Or.inr (Or.inr (Or.inl ⟨rfl, NRT_0⟩))))))⟩
    · rw [if_neg (by decide), if_neg (by decide), if_neg (by decide), if_neg (by decide), if_neg (by decide), if_neg (by decide), if_neg (by decide), if_neg (by decide), if_pos (by decide), fx_greatest_c hn hA, xb1_s]
      exact ⟨_, _, _, rfl, ⟨_, _, hT⟩, Or.inr (Or.inr (Or.inr (Or.inr (Or.inr (Or.inr (Or.inr (Or.inl ⟨rfl, rfl⟩)))))))⟩
    · rw [if_neg (by decide), if_neg (by decide), if_neg (by decide), if_neg (by decide), if_neg (by decide), if_neg (by decide), if_neg (by decide), if_neg (by decide), if_neg (by decide), if_pos (by decide), moa_0 (by omega) hB, xb4_s]
      exact ⟨_, _, _, rfl, ⟨_, _, hT⟩, Or.inr (Or.inr (Or.inr (Or.inr (Or.inr (Or.inr (Or.inr (Or.inr (Or.inl ⟨rfl, AMS_0⟩))))))))⟩
  · have : x.toInt < 0 ∨ 8 < x.toInt := by
      unfold isn at hx9
      omega
    rw [if_pos this]
    exact ⟨_, _, _, rfl, ⟨_, _, hT⟩, Or.inr (Or.inr (Or.inr (Or.inr (Or.inr (Or.inr (Or.inr (Or.inr (Or.inr ⟨hx9, rfl⟩))))))))⟩
theorem st0_count {n : Nat} {f nm nmm fs fm9 fu fk shr tx : Nat → Int32} {taped ops9 vs9 terms rules iss shn on fault th x : Int32} {xx h v ga rt rs sw rw0 sp rf u : Nat → Nat → Int32} {w : Nat → Nat → Int64} {L : List Nat} (s : WS) (hn : 100000 ≤ n) (hr : RFS f nm nmm fs fm9 fu fk shr tx taped ops9 vs9 terms rules iss shn L [] [] [] [] none) (hc : CLS0 xx h v ga rt rs sw rw0 w fault L) :
    ∃ (r : Int32) (s' : WS) (sp' v' : Nat → Nat → Int32), fx_count n th fs fu ops9 vs9 s.fp s.top s.fsp fk terms rules on s.fgp s.fgt s.fb s.fw s.wt s.fm s.pv s.ff s.tm s.fpl s.fru s.fr s.M shn x = some (r, 0, s'.fp, s'.top, s'.fsp, s'.fgp, s'.fgt, s'.fb, s'.fw, s'.wt, s'.fm, s'.pv, s'.ff, s'.tm, s'.fpl, s'.fru, s'.fr, s'.M) ∧ fx_X9_count n xx rt rs sw sp rf u v w ga x = some (r, sp', rf, u, v', w) ∧
      CLS0 xx h v' ga rt rs sw rw0 w fault L := by
  obtain ⟨r1, rfl, r3, rfl, rfl, r6, rfl, r8, rfl, r10, r11, r12⟩ := hr
  obtain ⟨c1, c2, c3, c4, c5, c6, c7, c8, las0, NN, c9⟩ := hc
  obtain ⟨r, s', e, k1⟩ := fx_count_ok (no := ([] : List OpE).length) (on := on) (th := th) (shn := shn) (x := x) s hn r3.1 r3.2.1 r6 r8
  obtain ⟨r2, sp', v', g, g1, g2⟩ := count_0 (sw := sw) (sp := sp) (rf := rf) (u := u) (on := on) (x := x) hn c3.2.2.1 c3.2.2.2.1 c4 c5 c6 c9
  rw [shn_sw r10 c8] at g2
  obtain rfl := an_count k1 g2
  exact ⟨r, s', sp', v', e, g, c1, c2, c3, c4, c5, c6, c7, c8, g1⟩
