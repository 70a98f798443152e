/-! ===== goesAll: right comes for what stands at a place ===== -/
/-- rows that a rule makes of a term at a place -/
def stA (so : Nat → Nat) (un : Nat → Option Nat) (left right w : List Nat) (pl : Nat) (x : List Nat) : Prop := ∃ sg : Nat → List Nat, von so un sg left ∧ fil so un sg left = sbt w pl ∧ x = reb so un pl (fil so un sg right) w
/-- right's variables are left's -/
def vsub (left right : List Nat) : Prop := ∀ c ∈ right, c < 512 → c ∈ left
theorem von_sub {so : Nat → Nat} {un : Nat → Option Nat} {sg : Nat → List Nat} {left right : List Nat} (h : vsub left right) (hv : von so un sg left) : von so un sg right := fun c hc q => hv c (h c hc q) q
abbrev GRes := Option ((Nat → Int32) × Int32 × (Nat → Int32) × Int32 × (Nat → Int32) × (Nat → Int32) × (Nat → Int32) × Int32)
theorem lx_goesAll_stop {n m : Nat} {fs fu ff fp fsp fpl fru fr : Nat → Int32} {fm p0 p1 p2 p3 x5 x6 top M : Int32} : lx_goesAll_9 n fs fu fm ff p0 p1 p2 p3 (m + 1) x5 x6 fp top fsp 1 fpl fru fr M = some (fp, top, fsp, 1, fpl, fru, fr, M) := by
  show bx_goesAll_9 n fs fu fm ff p0 p1 p2 p3 (lx_goesAll_9 n fs fu fm ff p0 p1 p2 p3 m) _ _ _ _ _ _ _ _ _ _ = _
  unfold bx_goesAll_9
  by_cases q : fm ≤ x6
  · rw [if_pos q]
  · rw [if_neg q, if_neg (by decide)]
theorem lx_goesAll_ok {n : Nat} {fs fu ff : Nat → Int32} {so : Nat → Nat} {un : Nat → Option Nat} {pv : Int32} {T wa ra pl ru : Nat} {w left right : List Nat} {S0 : List StpE} {P : List Nat → Prop} (hn : 100000 ≤ n) (hsg : SG fs fu so un) (hsu : SU so un) (hw : nok so un w) (hwl : w.length ≤ 20) (hwa : wa + w.length ≤ T) (hr : okt so right) (hrl : right.length ≤ 20) (hra : ra + right.length ≤ T) (hT : T ≤ 48000) (hl : okt so left) (hvs : vsub left right) (hpv : pvs pv left) (hpl : pl < w.length) (hru : ru < 1000) (hS : S0ok S0 pl ru) :
    ∀ (B A : List (List Nat)) (fp fsp fpl fru fr : Nat → Int32) (M tm : Int32) (m : Nat), KS (A ++ B) → (A ++ B).length ≤ 300 → la ff 0 (A ++ B).flatten → (∀ k ∈ A ++ B, Mat so un pv left (sbt w pl) k) → la fp wa w → la fp ra right →
      GX so S0 pl ru (fun x => P x ∨ ((∃ k ∈ A, ∃ sg : Nat → List Nat, von so un sg left ∧ fil so un sg left = sbt w pl ∧ key pv sg = k ∧ x = reb so un pl (fil so un sg right) w) ∧ good so w x)) tm fpl fru fr M → B.length + 1 < m →
      ∃ (fp' fsp' : Nat → Int32) (tm' : Int32) (fpl' fru' fr' : Nat → Int32) (M' : Int32), lx_goesAll_9 n fs fu (nI (A ++ B).length) ff (nI wa) (nI pl) (nI ru) (nI ra) m (nI T) (nI A.length) fp (nI T) fsp tm fpl fru fr M = some (fp', nI T, fsp', tm', fpl', fru', fr', M') ∧ (∀ i : Nat, i < T → fp' i = fp i) ∧
        GX so S0 pl ru (fun x => P x ∨ ((∃ k ∈ A ++ B, ∃ sg : Nat → List Nat, von so un sg left ∧ fil so un sg left = sbt w pl ∧ key pv sg = k ∧ x = reb so un pl (fil so un sg right) w) ∧ good so w x)) tm' fpl' fru' fr' M' := by
  intro B
  induction B with
  | nil =>
    intro A fp fsp fpl fru fr M tm m _ _ _ _ _ _ hG hm
    cases m with
    | zero => omega
    | succ m =>
      refine ⟨fp, fsp, tm, fpl, fru, fr, M, ?_, fun _ _ => rfl, by rw [List.append_nil]; exact hG⟩
      show bx_goesAll_9 n fs fu (nI (A ++ []).length) ff _ _ _ _ (lx_goesAll_9 n fs fu (nI (A ++ []).length) ff _ _ _ _ m) _ _ _ _ _ _ _ _ _ _ = _
      unfold bx_goesAll_9
      rw [List.append_nil, if_pos (Int32.le_refl _)]
  | cons k B ih =>
    intro A fp fsp fpl fru fr M tm m hK hN hff hF hlw hlr hG hm
    simp only [List.length_cons] at hm
    cases m with
    | zero => omega
    | succ m =>
    by_cases ht : tm = 0
    · subst ht
      obtain ⟨sg, s1, s2, s3⟩ := hF k (List.mem_append_right _ (List.mem_cons_self ..))
      have hAB : (A ++ k :: B).length = A.length + (B.length + 1) := by simp
      have hvr := von_sub hvs s1
      have hpvl : ∀ v : Nat, v < 5 → hb pv v = true → (sg v).length ≤ 20 := fun v hv q => (von_pv hpv s1 v hv q).2
      rw [s3] at hff
      have hrow := found_row hpvl (fun q hq => hK.1 q (List.mem_append_left _ hq)) hff
      rw [← s3] at hff
      have hvok := von_vok hvr
      obtain ⟨f1, sp1, g1, g2, g3⟩ := fx_fills_ok (ff := ff) (sg := sg) (m := A.length) hsg hsu hn (by omega) 21 right ra T fp fsp hlr hr (by omega) hrl hra (fun c hc q => by
        have h5 : c < 5 := by rcases hr.2.1 c hc with h | h <;> omega
        exact hrow c h5 ((hpv c h5).mpr (hvs c hc q))) hvok (by omega)
      obtain ⟨b1, b2⟩ := filT_ok hsu 21 right hr (by omega) (by omega) hvok
      have eb : filT so un sg 21 right = fil so un sg right := rfl
      rw [eb] at g1 g2 b1 b2
      have hb4 : (fil so un sg right).length ≤ 420 := by omega
      have hlw1 : la f1 wa w := la_congr (fun i hi => g3 _ (by omega)) hlw
      obtain ⟨f2, sp2, h1, h2, ⟨h3, h4⟩, h5⟩ := fx_rebuilds_ok (ba := T) (p := wa + pl) hsg hsu hn b1 (by omega) (by omega) 21 w wa (T + (fil so un sg right).length) f1 sp1 hlw1 hw.1 (by omega) hwl (by omega) g2 (Nat.le_refl _) (by unfold inr; split <;> omega)
      rw [reb_at] at h1 h2 h3 h4
      have hin : inr (wa + pl) wa w.length (fil so un sg right).length ≤ (fil so un sg right).length := by unfold inr; split <;> omega
      have hlw2 : la f2 wa w := la_congr (fun i hi => h5 _ (by omega)) hlw1
      obtain ⟨tm', fpl', fru', fr', M', a1, a2⟩ := addsStep_GX (fs := fs) hn hsg h2 h3 (by omega) hlw2 hw.1 (by omega) (by omega) hru hS hG
      have hAk : A ++ k :: B = (A ++ [k]) ++ B := by simp
      obtain ⟨fp', fsp', tm2, fpl2, fru2, fr2, M2, z1, z2, z3⟩ := ih (A ++ [k]) f2 sp2 fpl' fru' fr' M' tm' m (by rw [← hAk]; exact hK) (by rw [← hAk]; exact hN) (by rw [← hAk]; exact hff) (by rw [← hAk]; exact hF) hlw2 (la_congr (fun i hi => by rw [h5 _ (by omega), g3 _ (by omega)]) hlr) (GX_iff (fun x => by
        constructor
        · rintro ((h | ⟨⟨k', q1, q2⟩, q3⟩) | ⟨q1, q2⟩)
          · exact Or.inl h
          · exact Or.inr ⟨⟨k', List.mem_append_left _ q1, q2⟩, q3⟩
          · exact Or.inr ⟨⟨k, List.mem_append_right _ (List.mem_singleton.mpr rfl), sg, s1, s2, s3.symm, q1⟩, q2⟩
        · rintro (h | ⟨⟨k', q1, sg', q2, q3, q4, q5⟩, q6⟩)
          · exact Or.inl (Or.inl h)
          · rcases List.mem_append.mp q1 with h | h
            · exact Or.inl (Or.inr ⟨⟨k', h, sg', q2, q3, q4, q5⟩, q6⟩)
            · have e := List.mem_singleton.mp h
              subst e
              refine Or.inr ⟨?_, q6⟩
              have := key_inj hpv q2 s1 hl.2.1 (q4.trans s3)
              rw [q5, fil_congr hr.1 hrl (fun c hc q => this c (hvs c hc q) q)]) a2) (by omega)
      refine ⟨fp', fsp', tm2, fpl2, fru2, fr2, M2, ?_, fun i hi => by rw [z2 i hi, h5 i (by omega), g3 i (by omega)], by rw [hAk]; exact z3⟩
      show bx_goesAll_9 n fs fu (nI (A ++ k :: B).length) ff _ _ _ _ (lx_goesAll_9 n fs fu (nI (A ++ k :: B).length) ff _ _ _ _ m) _ _ _ _ _ _ _ _ _ _ = _
      unfold bx_goesAll_9
      rw [if_neg (by rw [nI_le_iff (by omega) (by omega)]; omega), if_pos rfl, g1, xb4_s, xl_eq, nI_add, h1, xb4_s, a1, xb5_s, xl_eq, nI_1, hAk]
      have hAl : (A ++ [k]).length = A.length + 1 := by simp
      rw [hAl] at z1
      exact z1
    · have ht1 : tm = 1 := by
        rcases hG with ⟨a, _⟩ | ⟨a, _⟩
        · exact absurd a ht
        · exact a
      have hG2 := GX_more (Q := fun x => P x ∨ ((∃ k' ∈ A ++ k :: B, ∃ sg : Nat → List Nat, von so un sg left ∧ fil so un sg left = sbt w pl ∧ key pv sg = k' ∧ x = reb so un pl (fil so un sg right) w) ∧ good so w x)) ht (fun x h => by
        rcases h with h | ⟨⟨k', q1, q2⟩, q3⟩
        · exact Or.inl h
        · exact Or.inr ⟨⟨k', List.mem_append_left _ q1, q2⟩, q3⟩) hG
      subst ht1
      exact ⟨fp, fsp, 1, fpl, fru, fr, M, lx_goesAll_stop, fun _ _ => rfl, hG2⟩
theorem fx_goesAll_ok {n : Nat} {fs fu ff fp fsp fpl fru fr : Nat → Int32} {so : Nat → Nat} {un : Nat → Option Nat} {pv fm tm M : Int32} {T wa ra pl ru : Nat} {w left right : List Nat} {S0 : List StpE} {P : List Nat → Prop} (hn : 100000 ≤ n) (hsg : SG fs fu so un) (hsu : SU so un) (hw : nok so un w) (hwl : w.length ≤ 20) (hwa : wa + w.length ≤ T) (hr : okt so right) (hrl : right.length ≤ 20) (hra : ra + right.length ≤ T) (hT : T ≤ 48000) (hl : okt so left) (hvs : vsub left right) (hpv : pvs pv left) (hpl : pl < w.length) (hru : ru < 1000) (hS : S0ok S0 pl ru) (hlw : la fp wa w) (hlr : la fp ra right) (he : EXS (Mat so un pv left (sbt w pl)) fm ff tm) (hG : GX so S0 pl ru P 0 fpl fru fr M) :
    ∃ (fp' fsp' : Nat → Int32) (tm' : Int32) (fpl' fru' fr' : Nat → Int32) (M' : Int32), fx_goesAll n fs fu fp (nI T) fsp fm ff tm fpl fru fr M (nI wa) (nI pl) (nI ru) (nI ra) = some (fp', nI T, fsp', tm', fpl', fru', fr', M') ∧ (∀ i : Nat, i < T → fp' i = fp i) ∧
      ((tm = 0 ∧ GX so S0 pl ru (fun x => P x ∨ (stA so un left right w pl x ∧ good so w x)) tm' fpl' fru' fr' M') ∨ (tm = 1 ∧ tm' = 1 ∧ ∃ L : List (List Nat), L.Nodup ∧ 300 < L.length ∧ ∀ k ∈ L, Mat so un pv left (sbt w pl) k)) := by
  unfold fx_goesAll
  obtain ⟨n, rfl⟩ : ∃ k, n = k + 1 := ⟨n - 1, by omega⟩
  rcases he with ⟨h1, F, a, b, c, d, e⟩ | ⟨h1, L, a, b, c⟩
  · subst h1 c
    obtain ⟨fp', fsp', tm', fpl', fru', fr', M', z1, z2, z3⟩ := lx_goesAll_ok (P := P) hn hsg hsu hw hwl hwa hr hrl hra hT hl hvs hpv hpl hru hS F [] fp fsp fpl fru fr M 0 (n + 1) a b d (fun k hk => (e k).mp hk) hlw hlr (GX_iff (fun x => by simp) hG) (by omega)
    refine ⟨fp', fsp', tm', fpl', fru', fr', M', z1, z2, Or.inl ⟨rfl, GX_iff (fun x => ?_) z3⟩⟩
    constructor
    · rintro (h | ⟨⟨k, q1, sg, q2, q3, q4, q5⟩, q6⟩)
      · exact Or.inl h
      · exact Or.inr ⟨⟨sg, q2, q3, q5⟩, q6⟩
    · rintro (h | ⟨⟨sg, q2, q3, q5⟩, q6⟩)
      · exact Or.inl h
      · exact Or.inr ⟨⟨key pv sg, (e _).mpr ⟨sg, q2, q3, rfl⟩, sg, q2, q3, rfl, q5⟩, q6⟩
  · subst h1
    exact ⟨fp, fsp, 1, fpl, fru, fr, M, lx_goesAll_stop, fun _ _ => rfl, Or.inr ⟨rfl, rfl, L, a, b, c⟩⟩
