/-! ===== addsStep, whole ===== -/
theorem klt_tr {a b c : List Nat} (ha : wf 1 a) (hb' : wf 1 b) (hc : wf 1 c) (h1 : klt a b) (h2 : klt b c) : klt a c := by
  rcases leL_trans ha hb' hc (Or.inl h1) (Or.inl h2) with h | h
  · exact h
  · exfalso
    have e := (cmpL_eq ha hc).mp h
    subst e
    unfold klt at h1 h2
    rw [cmpL_swap a b, h1] at h2
    exact absurd h2 (by decide)
theorem SL_ins {fpl fru fr fpl1 fru1 fr1 : Nat → Int32} {A B : List StpE} {s : StpE} (h : SL fpl fru fr (A ++ B)) (hr : ∀ x ∈ A ++ B, x.2.2.length ≤ 20) (hs : s.2.2.length ≤ 20)
    (h1 : ∀ j : Nat, j < A.length → fpl1 j = fpl j ∧ fru1 j = fru j) (h2 : fpl1 A.length = nI s.1 ∧ fru1 A.length = nI s.2.1) (h3 : ∀ j : Nat, A.length + 1 ≤ j → j < A.length + B.length + 1 → fpl1 j = fpl (j - 1) ∧ fru1 j = fru (j - 1))
    (g1 : ∀ j : Nat, j < 21 * A.length → fr1 j = fr j) (g2 : la fr1 (21 * A.length) s.2.2) (g3 : ∀ j : Nat, 21 * A.length + 21 ≤ j → j < 21 * (A.length + B.length) + 21 → fr1 j = fr (j - 21)) : SL fpl1 fru1 fr1 (A ++ s :: B) := by
  obtain ⟨q1, q2, q3⟩ := h
  rw [List.map_append] at q1 q2 q3
  have p1 := la_app.mp q1
  have p2 := la_app.mp q2
  have p3 := strw_app.mp q3
  simp only [List.length_map, Nat.zero_add] at p1 p2 p3
  refine ⟨?_, ?_, ?_⟩
  · rw [List.map_append, List.map_cons]
    refine la_app.mpr ⟨la_congr (fun i hi => by rw [Nat.zero_add]; exact (h1 i (by simpa using hi)).1) p1.1, ?_⟩
    simp only [List.length_map, Nat.zero_add]
    refine ⟨h2.1, la_congr (fun i hi => ?_) p1.2⟩
    rw [(h3 _ (by omega) (by simp at hi; omega)).1]; exact congrArg fpl (by omega)
  · rw [List.map_append, List.map_cons]
    refine la_app.mpr ⟨la_congr (fun i hi => by rw [Nat.zero_add]; exact (h1 i (by simpa using hi)).2) p2.1, ?_⟩
    simp only [List.length_map, Nat.zero_add]
    refine ⟨h2.2, la_congr (fun i hi => ?_) p2.2⟩
    rw [(h3 _ (by omega) (by simp at hi; omega)).2]; exact congrArg fru (by omega)
  · rw [List.map_append, List.map_cons]
    refine strw_app.mpr ⟨strw_congr (fun r hr' => ?_) (fun z hz => ?_) p3.1, ?_⟩
    · obtain ⟨x, hx, rfl⟩ := List.mem_map.mp hr'
      have := hr x (List.mem_append_left _ hx); omega
    · rw [g1 _ (by simp only [List.length_map] at hz; omega)]
    · simp only [List.length_map, Nat.zero_add]
      refine ⟨g2, strw_congr (fun r hr' => ?_) (fun z hz => ?_) p3.2⟩
      · obtain ⟨x, hx, rfl⟩ := List.mem_map.mp hr'
        have := hr x (List.mem_append_right _ hx); omega
      · simp only [List.length_map] at hz
        rw [g3 _ (by omega) (by omega)]; exact congrArg fr (by omega)
theorem fx_addsStep_ok {n : Nat} {fs fu fp fpl fru fr : Nat → Int32} {so : Nat → Nat} {un : Nat → Option Nat} {tm : Int32} {a wa pl ru : Nat} {q w : List Nat} {S0 : List StpE} {D : List (List Nat)} (hn : 100000 ≤ n) (hsg : SG fs fu so un) (hq : la fp a q) (hqo : okt so q) (ha : a + q.length + 21 ≤ 60000) (hw : la fp wa w) (hwo : okt so w) (hwa : wa + w.length ≤ 60000) (hpl : pl < 1000) (hru : ru < 1000) (hS0 : ∀ s ∈ S0, s.1 < 1000 ∧ s.2.1 < 1000 ∧ s.2.2.length ≤ 20) (hlast : ∀ (A : List StpE) (s : StpE), S0 = A ++ [s] → ¬ (s.1 = pl ∧ s.2.1 = ru))
    (hD : ∀ r ∈ D, sok so r) (hDs : D.Pairwise klt) (hSL : SL fpl fru fr (S0 ++ grpS pl ru D)) (hM : S0.length + D.length ≤ 200) :
    ∃ (tm' : Int32) (fpl' fru' fr' : Nat → Int32) (M' : Int32), fx_addsStep n fs fp tm fpl fru fr (nI (S0.length + D.length)) (nI pl) (nI ru) (nI a) (nI wa) = some (tm', fpl', fru', fr', M') ∧
      (((great so q = true ∨ q = w ∨ q ∈ D) ∧ tm' = tm ∧ SL fpl' fru' fr' (S0 ++ grpS pl ru D) ∧ M' = nI (S0.length + D.length)) ∨
       ((great so q = false ∧ q ≠ w ∧ q ∉ D) ∧ S0.length + D.length = 200 ∧ tm' = 1) ∨
       ((great so q = false ∧ q ≠ w ∧ q ∉ D) ∧ tm' = tm ∧ ∃ D' : List (List Nat), (∀ r ∈ D', sok so r) ∧ D'.Pairwise klt ∧ (∀ x : List Nat, x ∈ D' ↔ x ∈ D ∨ x = q) ∧ D'.length = D.length + 1 ∧ S0.length + D'.length ≤ 200 ∧ SL fpl' fru' fr' (S0 ++ grpS pl ru D') ∧ M' = nI (S0.length + D'.length))) := by
  unfold fx_addsStep
  rw [fx_isGreat_ok hsg hq hqo.1 hqo.2 (by omega) hn, xb1_s]
  by_cases qg : great so q = true
  · rw [if_pos qg, if_neg (by decide)]
    exact ⟨tm, fpl, fru, fr, _, rfl, Or.inl ⟨Or.inl qg, rfl, hSL, rfl⟩⟩
  · have qg' : great so q = false := by simpa using qg
    have hql : q.length ≤ 20 := by
      unfold great at qg'
      simp only [Bool.or_eq_false_iff, decide_eq_false_iff_not] at qg'
      omega
    rw [if_neg qg, if_pos rfl, fx_areAlike_ok hq hqo.1 hqo.2.1 (by omega) hw hwo.1 hwo.2.1 hwa hn, xb1_s]
    by_cases qw : q = w
    · rw [if_pos qw, if_neg (by decide)]
      exact ⟨tm, fpl, fru, fr, _, rfl, Or.inl ⟨Or.inr (Or.inl qw), rfl, hSL, rfl⟩⟩
    · rw [if_neg qw, if_pos rfl]
      have hqs : sok so q := ⟨hqo, hql⟩
      obtain ⟨R, B, r1, r2, r3, r4, r5, r6⟩ := lx_addsStep_25_ok (fs := fs) (p3 := nI wa) (tm := tm) (fm := nI (S0.length + D.length)) hn hq hqs (by omega) hpl hru (fun s hs => ⟨(hS0 s hs).1, (hS0 s hs).2.1⟩) hlast D.reverse [] n (fun r hr => hD r (List.mem_reverse.mp hr)) (by rw [List.reverse_reverse, List.append_nil]; exact hSL) (by rw [List.length_reverse]; exact hM) (fun b hb' => absurd hb' List.not_mem_nil) (by rw [List.length_reverse]; omega)
      rw [List.reverse_reverse, List.append_nil] at r1
      rw [List.length_reverse] at r6
      rw [r6]
      have hlD : R.length + B.length = D.length := by rw [← r1]; simp
      have hB : ∀ b ∈ B, sok so b := fun b hb' => hD b (by rw [← r1]; exact List.mem_append_right _ hb')
      have ins : (∀ y ∈ R, klt y q) → ∃ (tm' : Int32) (fpl' fru' fr' : Nat → Int32) (M' : Int32), (if nI (S0.length + D.length) = (200 : Int32) then some ((1 : Int32), fpl, fru, fr, nI (S0.length + D.length)) else lx_addsStep_140 n fs fp (nI pl) (nI ru) (nI a) (nI wa) n (nI (S0.length + R.length)) (nI (S0.length + D.length)) tm fpl fru fr (nI (S0.length + D.length))) = some (tm', fpl', fru', fr', M') ∧
          (((great so q = true ∨ q = w ∨ q ∈ D) ∧ tm' = tm ∧ SL fpl' fru' fr' (S0 ++ grpS pl ru D) ∧ M' = nI (S0.length + D.length)) ∨
           ((great so q = false ∧ q ≠ w ∧ q ∉ D) ∧ S0.length + D.length = 200 ∧ tm' = 1) ∨
           ((great so q = false ∧ q ≠ w ∧ q ∉ D) ∧ tm' = tm ∧ ∃ D' : List (List Nat), (∀ r ∈ D', sok so r) ∧ D'.Pairwise klt ∧ (∀ x : List Nat, x ∈ D' ↔ x ∈ D ∨ x = q) ∧ D'.length = D.length + 1 ∧ S0.length + D'.length ≤ 200 ∧ SL fpl' fru' fr' (S0 ++ grpS pl ru D') ∧ M' = nI (S0.length + D'.length))) := by
        intro hlt
        have hBk : ∀ b ∈ B, klt q b := fun b hb' => by unfold klt; rw [cmpL_swap b q, r2 b hb']
        have hnot : q ∉ D := by
          rw [← r1]
          intro h
          rcases List.mem_append.mp h with z | z
          · exact klt_irrefl (hlt _ (List.mem_reverse.mp z))
          · exact klt_irrefl (hBk _ z)
        by_cases qM : S0.length + D.length = 200
        · rw [if_pos (by rw [qM]; rfl)]
          exact ⟨_, _, _, _, _, rfl, Or.inr (Or.inl ⟨⟨qg', qw, hnot⟩, qM, rfl⟩)⟩
        · rw [if_neg (by rw [show (200 : Int32) = nI 200 from rfl, nI_inj (by omega) (by decide)]; exact qM)]
          obtain ⟨fpl1, fru1, k1, k2, k3⟩ := lx_addsStep_140_ok (n := n) (fs := fs) (fp := fp) (fr := fr) (p0 := nI pl) (p1 := nI ru) (p2 := nI a) (p3 := nI wa) (tm := tm) (to := S0.length + R.length) (M := S0.length + D.length) (by omega) (by omega) B.length (S0.length + D.length) n fpl fru (by omega) (by omega) (by omega)
          obtain ⟨fr1, m1, m2, m3⟩ := lx_addsStep_196_ok (fs := fs) (p0 := nI pl) (p1 := nI ru) (p3 := nI wa) (tm := tm) (fpl := fpl1) (fru := fru1) (to := S0.length + R.length) (M := S0.length + D.length) (by omega) hn hq hqo.1 hqo.2.1 hql (by omega) (21 * B.length) (21 * (S0.length + D.length)) n fr (by omega) (by omega) (by omega)
          refine ⟨_, _, _, _, _, k1.trans m1, Or.inr (Or.inr ⟨⟨qg', qw, hnot⟩, rfl, R.reverse ++ q :: B, ?_, ?_, ?_, ?_, ?_, ?_, ?_⟩)⟩
          · intro r hr
            rcases List.mem_append.mp hr with z | z
            · exact r4 r (List.mem_reverse.mp z)
            · rcases List.mem_cons.mp z with z | z
              · rw [z]; exact hqs
              · exact hB r z
          · rw [← r1] at hDs
            have hp := List.pairwise_append.mp hDs
            refine List.pairwise_append.mpr ⟨hp.1, List.pairwise_cons.mpr ⟨hBk, hp.2.1⟩, ?_⟩
            intro x hx y hy
            rcases List.mem_cons.mp hy with z | z
            · rw [z]; exact hlt x (List.mem_reverse.mp hx)
            · exact hp.2.2 x hx y z
          · intro x
            rw [← r1]
            simp only [List.mem_append, List.mem_cons]
            constructor
            · rintro (h | h | h)
              · exact Or.inl (Or.inl h)
              · exact Or.inr h
              · exact Or.inl (Or.inr h)
            · rintro ((h | h) | h)
              · exact Or.inl h
              · exact Or.inr (Or.inr h)
              · exact Or.inr (Or.inl h)
          · simp; omega
          · simp; omega
          · have eS : S0 ++ grpS pl ru D = (S0 ++ grpS pl ru R.reverse) ++ grpS pl ru B := by rw [← r1]; simp [grpS]
            have eS2 : S0 ++ grpS pl ru (R.reverse ++ q :: B) = (S0 ++ grpS pl ru R.reverse) ++ (pl, ru, q) :: grpS pl ru B := by simp [grpS]
            have hl9 : (S0 ++ grpS pl ru R.reverse).length = S0.length + R.length := by simp [grpS]
            have hl8 : (grpS pl ru B).length = B.length := by simp [grpS]
            rw [eS2]
            rw [eS] at hSL
            refine SL_ins hSL (fun x hx => ?_) hql (fun j hj => ?_) ?_ (fun j h1 h2 => ?_) (fun j hj => ?_) ?_ (fun j h1 h2 => ?_)
            · rw [← eS] at hx
              rcases List.mem_append.mp hx with z | z
              · exact (hS0 x z).2.2
              · obtain ⟨r, hr, rfl⟩ := List.mem_map.mp z
                exact (hD r hr).2
            · rw [hl9] at hj
              rw [upd_ne (by omega), upd_ne (by omega)]; exact k3 j (by omega)
            · rw [hl9, upd_eq, upd_eq]; exact ⟨rfl, rfl⟩
            · rw [hl9] at h1 h2
              rw [hl8] at h2
              rw [upd_ne (by omega), upd_ne (by omega)]; exact k2 j (by omega) (by omega)
            · rw [hl9] at hj
              rw [put_out (Or.inl hj)]; exact m3 j (by omega)
            · rw [hl9]; exact put_la
            · rw [hl9] at h1 h2
              rw [hl8] at h2
              rw [put_out (Or.inr (by omega))]; exact m2 j (by omega) (by omega)
          · congr 1; simp; omega
      unfold jx_addsStep_74
      cases R with
      | nil =>
        simp only [List.length_nil, Nat.add_zero] at r5 r6 ins ⊢
        have ins0 := ins (fun y hy => absurd hy List.not_mem_nil)
        rcases List.eq_nil_or_concat S0 with e | ⟨A, s, e⟩
        · rw [if_pos (show nI S0.length ≤ (0 : Int32) by rw [e]; decide)]
          exact ins0
        · have e' : S0 = A ++ [s] := by rw [e]; simp
          have hl : S0.length = A.length + 1 := by rw [e']; simp
          have hs := hS0 s (by rw [e']; simp)
          have hSL2 := hSL
          rw [e', List.append_assoc] at hSL2
          obtain ⟨g1, g2, _⟩ := SL_get hSL2
          have hp1 : nI S0.length - 1 = nI A.length := by rw [hl, nI_pred]
          rw [if_neg (nI_nle (by omega) (by omega)), xl_eq, hp1, xr_n (by omega) (by decide), g1]
          by_cases w1 : s.1 = pl
          · rw [if_pos (by rw [w1]), xl_eq, xr_n (by omega) (by decide), g2, if_neg (by rw [nI_inj (by omega) (by omega)]; exact fun w2 => hlast A s e' ⟨w1, w2⟩)]
            exact ins0
          · rw [if_neg (by rw [nI_inj (by omega) (by omega)]; exact w1)]
            exact ins0
      | cons y R =>
        have hy := r4 y (List.mem_cons_self ..)
        have eS : S0 ++ grpS pl ru D = (S0 ++ grpS pl ru R.reverse) ++ (pl, ru, y) :: grpS pl ru B := by rw [← r1]; simp [grpS]
        have hSL2 := hSL
        rw [eS] at hSL2
        obtain ⟨g1, g2, g3⟩ := SL_get hSL2
        have hl9 : (S0 ++ grpS pl ru R.reverse).length = S0.length + R.length := by simp [grpS]
        rw [hl9] at g1 g2 g3
        simp only [List.length_cons] at r5 hlD
        have hcs := fx_comparesStep_ok (n := n) (s := S0.length + R.length) (by omega) hn g3 hq hy.1.1 hqo.1 hy.1.2.1 hqo.2.1 hy.2 hql (by omega)
        have hyq := r3 y R rfl
        have hp1 : nI (S0.length + (y :: R).length) - 1 = nI (S0.length + R.length) := by rw [List.length_cons, ← Nat.add_assoc, nI_pred]
        rw [if_neg (nI_nle (by simp only [List.length_cons]; omega) (by simp only [List.length_cons]; omega)), xl_eq, hp1, xr_n (by omega) (by decide), g1, if_pos rfl, xl_eq, xr_n (by omega) (by decide), g2, if_pos rfl, xl_eq, hcs, xb1_s]
        by_cases qz : cmpL y q = 0
        · rw [if_pos qz]
          have e : y = q := (cmpL_eq hy.1.1 hqo.1).mp qz
          exact ⟨_, _, _, _, _, rfl, Or.inl ⟨Or.inr (Or.inr (by rw [← e, ← r1]; simp)), rfl, hSL, rfl⟩⟩
        · rw [if_neg qz]
          have hylt : klt y q := by
            rcases cmpL_vals y q with z | z | z
            · exact z
            · exact absurd z qz
            · exact absurd z hyq
          refine ins (fun z hz => ?_)
          rcases List.mem_cons.mp hz with g | g
          · rw [g]; exact hylt
          · have hs := hDs
            rw [← r1, show (y :: R).reverse ++ B = R.reverse ++ y :: B by simp] at hs
            have hzy := (List.pairwise_append.mp hs).2.2 z (List.mem_reverse.mpr g) y (List.mem_cons_self ..)
            exact klt_tr (r4 z (List.mem_cons_of_mem _ g)).1.1 hy.1.1 hqo.1 hzy hylt
