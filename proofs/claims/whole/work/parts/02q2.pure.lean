/-! ===== goesSome, whole; when matches are too many ===== -/
theorem nodup_le {α : Type} [DecidableEq α] : ∀ {L F : List α}, L.Nodup → (∀ x ∈ L, x ∈ F) → L.length ≤ F.length
  | [], _, _, _ => Nat.zero_le _
  | a :: L, F, h, hs => by
    have ha := hs a (List.mem_cons_self ..)
    obtain ⟨h1, h2⟩ := List.nodup_cons.mp h
    have ih := nodup_le (L := L) (F := F.erase a) h2 (fun x hx => (List.mem_erase_of_ne (fun e => h1 (by rw [← e]; exact hx))).mpr (hs x (List.mem_cons_of_mem _ hx)))
    rw [List.length_erase_of_mem ha] at ih
    have := List.length_pos_of_mem ha
    simp only [List.length_cons]; omega
/-- more than 300 matches -/
def TMm (so : Nat → Nat) (un : Nat → Option Nat) (p t : List Nat) : Prop := ∃ (pv : Int32) (L : List (List Nat)), pvs pv p ∧ L.Nodup ∧ 300 < L.length ∧ ∀ k ∈ L, Mat so un pv p t k
theorem keyF_pv {p1 p2 : Int32} {sg : Nat → List Nat} (h : ∀ v : Nat, v < 5 → hb p1 v = hb p2 v) : ∀ (k v : Nat), v + k ≤ 5 → keyF p1 sg k v = keyF p2 sg k v
  | 0, _, _ => rfl
  | k + 1, v, hv => by
    show pad (if hb p1 v then sg v else []) ++ keyF p1 sg k (v + 1) = pad (if hb p2 v then sg v else []) ++ keyF p2 sg k (v + 1)
    rw [h v (by omega), keyF_pv h k (v + 1) (by omega)]
theorem Mat_pv {so : Nat → Nat} {un : Nat → Option Nat} {p1 p2 : Int32} {p t k : List Nat} (h1 : pvs p1 p) (h2 : pvs p2 p) (h : Mat so un p1 p t k) : Mat so un p2 p t k := by
  obtain ⟨sg, a, b, c⟩ := h
  refine ⟨sg, a, b, c.trans (keyF_pv (fun v hv => ?_) 5 0 (by omega))⟩
  cases q : hb p1 v with
  | true => exact ((h2 v hv).mpr ((h1 v hv).mp q)).symm
  | false =>
    cases q2 : hb p2 v with
    | false => rfl
    | true => exact absurd ((h1 v hv).mpr ((h2 v hv).mp q2)) (by rw [q]; decide)
theorem not_TMm {so : Nat → Nat} {un : Nat → Option Nat} {pv : Int32} {p t : List Nat} {F : List (List Nat)} (hp : pvs pv p) (hF : ∀ k : List Nat, k ∈ F ↔ Mat so un pv p t k) (hl : F.length ≤ 300) : ¬ TMm so un p t := by
  rintro ⟨pv', L, a, b, c, d⟩
  have := nodup_le b (fun k hk => (hF k).mpr (Mat_pv a hp (d k hk)))
  omega
theorem EXS_TM {so : Nat → Nat} {un : Nat → Option Nat} {pv fm tm : Int32} {ff : Nat → Int32} {p t : List Nat} (hp : pvs pv p) (h : EXS (Mat so un pv p t) fm ff tm) : (tm = 0 ∧ ¬ TMm so un p t) ∨ (tm = 1 ∧ TMm so un p t) := by
  rcases h with ⟨h1, F, a, b, c, d, e⟩ | ⟨h1, L, a, b, c⟩
  · exact Or.inl ⟨h1, not_TMm hp e b⟩
  · exact Or.inr ⟨h1, pv, L, hp, a, b, c⟩
theorem fx_goesSome_ok {n : Nat} {fs fu ff fp fsp fgp fgt fb fw fpl fru fr : Nat → Int32} {so : Nat → Nat} {un : Nat → Option Nat} {pv fm wt M : Int32} {T wa la9 ra pl ru op bits c : Nat} {w left right l : List Nat} {S0 : List StpE} {P : List Nat → Prop} (hn : 100000 ≤ n) (hsg : SG fs fu so un) (hsu : SU so un) (hw : nok so un w) (hwl : w.length ≤ 20) (hwa : wa + w.length ≤ T) (hr : okt so right) (hrl : right.length ≤ 20) (hra : ra + right.length ≤ T) (hT : T ≤ 47000) (hl : nok so un left) (hll : left.length ≤ 20) (hl2 : c2 so left) (hla : la9 + left.length ≤ T) (hvs : vsub left right) (hpl : pl < w.length) (hru : ru < 1000) (hS : S0ok S0 pl ru) (hbits : bits < 64) (h6 : (pts (sbt w pl)).length ≤ 6) (hs : sbt w pl = c :: l) (hc : 512 ≤ c) (hop : c / 512 - 1 = op) (h2 : so op = 2) (h0 : sel bits false 0 (pts (sbt w pl)) = [] → un op ≠ none) (hlw : la fp wa w) (hll2 : la fp la9 left) (hlr : la fp ra right) (hG : GX so S0 pl ru P 0 fpl fru fr M) :
    ∃ (fp' fsp' fgp' fgt' fb' fw' : Nat → Int32) (wt' fm' pv' : Int32) (ff' : Nat → Int32) (tm' : Int32) (fpl' fru' fr' : Nat → Int32) (M' : Int32), fx_goesSome n fs fu fp (nI T) fsp fgp fgt fb fw wt fm pv ff 0 fpl fru fr M (nI wa) (nI pl) (nI ru) (nI la9) (nI ra) (nI bits) = some (fp', nI T, fsp', fgp', fgt', fb', fw', wt', fm', pv', ff', tm', fpl', fru', fr', M') ∧ (∀ i : Nat, i < T → fp' i = fp i) ∧
      ((¬ TMm so un left (stand so un op (sel bits false 0 (pts (sbt w pl)))) ∧ GX so S0 pl ru (fun x => P x ∨ (stB so un left right w pl op bits x ∧ good so w x)) tm' fpl' fru' fr' M') ∨ (tm' = 1 ∧ TMm so un left (stand so un op (sel bits false 0 (pts (sbt w pl)))))) := by
  obtain ⟨ns1, ns2, ns3, ns4⟩ := sbt_nok hw hpl
  have hcc : c < 5632 := by rw [hs] at ns1; exact cok_lt (col_cons.mp ns1.1.2.1).1
  have ho : op < 10 ∧ so op ≠ 3 := by omega
  have hls := ns4 fp wa hlw
  have hpk : (pts (sbt w pl)).flatten.length + 1 ≤ (sbt w pl).length := by
    rw [hs] at ns1 ⊢
    rw [(pts_of ns1.1.1).2.2]; simp
  have hos : (sel bits false 0 (pts (sbt w pl))).flatten.length ≤ (pts (sbt w pl)).flatten.length := sel_len
  have hosn : noks so un (sel bits false 0 (pts (sbt w pl))) := fun q hq => nok_pts ns1 q (sel_mem hq)
  have hop9 : fx_operatorAt n fp (nI (wa + pl)) = some (nI op) := by
    rw [fx_operatorAt_ok (c := c) (by rw [hs] at hls; exact hls.1) hcc (by omega), opI_op hc, hop]
  have su := fx_sumOf_ok (n := n) (s := bits) (o := false) (top := T) hn hbits hls ns1.1 h6 (by omega) (by omega)
  obtain ⟨f3, sp3, d1, d2, d3⟩ := fx_stands_ok (fsp := fsp) (from_ := T) (op := op) hsg ho hn (ts := sel bits false 0 (pts (sbt w pl))) (fp := put fp T (sel bits false 0 (pts (sbt w pl))).flatten) put_la (okts_wfs (noks_okts hosn)) (okts_flat (noks_okts hosn)).1 (by omega) (by omega) (fun _ e => by
    by_cases q : sel bits false 0 (pts (sbt w pl)) = []
    · exact h0 q
    · exact flats_ne (noks_okts hosn) q e)
  obtain ⟨t1, t2⟩ := stand_nok (op := op) hsu ho hosn (fun q => ⟨h2, h0 q⟩) (by omega)
  have hg5 : ∀ i : Nat, i < T → f3 i = fp i := fun i hi => by rw [d3 i hi, put_out (Or.inl (by omega))]
  have hlw3 : la f3 wa w := la_congr (fun i hi => hg5 _ (by omega)) hlw
  have hll3 : la f3 la9 left := la_congr (fun i hi => hg5 _ (by omega)) hll2
  obtain ⟨f4, fgp', fgt', fb', fw', fm', pv', ff', tm', m1, m2, m3, m4⟩ := fx_laysMatches_ok (fgp := fgp) (fgt := fgt) (fb := fb) (fw := fw) (ff := ff) (wt := wt) (fm := fm) (pv := pv) (pa := la9) (p := left) (ta := T) (t := stand so un op (sel bits false 0 (pts (sbt w pl)))) (T := T + (stand so un op (sel bits false 0 (pts (sbt w pl)))).length) hn hsg hsu ⟨⟨hll3, hl, hl2, hll, by show la9 + left.length ≤ _; omega⟩, d2, t1, by show (stand so un op (sel bits false 0 (pts (sbt w pl)))).length ≤ 20; omega, Nat.le_refl _⟩ (by omega)
  have hg4 : ∀ i : Nat, i < T → f4 i = fp i := fun i hi => by rw [m2 i (by omega), hg5 i hi]
  have hlw4 : la f4 wa w := la_congr (fun i hi => hg4 _ (by omega)) hlw
  have hlr4 : la f4 ra right := la_congr (fun i hi => hg4 _ (by omega)) hlr
  have m3' : pvs pv' left := m3
  unfold fx_goesSome
  rw [xl_eq, nI_add, hop9, xb1_s, show (0 : Int32) = ob false from rfl, su, xb2_s, d1, xb4_s, show ob false = (0 : Int32) from rfl, m1, xb11_s]
  obtain ⟨n, rfl⟩ : ∃ k, n = k + 1 := ⟨n - 1, by omega⟩
  rcases m4 with ⟨h1, F, a, b, c9, d, e⟩ | ⟨h1, L, a, b, c9⟩
  · subst h1 c9
    obtain ⟨fp', fsp', tm', fpl', fru', fr', M', z1, z2, z3⟩ := lx_goesSome_ok (P := P) (fgp := fgp') (fgt := fgt') (fb := fb') (fw := fw') (p3 := nI la9) (x9 := nI T) (x10 := nI T) (wt := nI 0) hn hsg hsu hw hwl (T := T + (stand so un op (sel bits false 0 (pts (sbt w pl)))).length) (by omega) hr hrl (by omega) (by omega) hl.1 hvs m3' hpl hru hS ho hbits h6 F [] f4 sp3 fpl fru fr M 0 (n + 1) a b d (fun k hk => (e k).mp hk) hlw4 hlr4 (GX_iff (fun x => by simp) hG) (by omega)
    refine ⟨fp', fsp', fgp', fgt', fb', fw', nI 0, nI F.length, pv', ff', tm', fpl', fru', fr', M', z1, fun i hi => by rw [z2 i (by omega), hg4 i hi], Or.inl ⟨not_TMm m3' e b, GX_iff (fun x => ?_) z3⟩⟩
    constructor
    · rintro (h | ⟨⟨k, q1, sg, q2, q3, q4, q5⟩, q6⟩)
      · exact Or.inl h
      · exact Or.inr ⟨⟨sg, q2, q3, q5⟩, q6⟩
    · rintro (h | ⟨⟨sg, q2, q3, q5⟩, q6⟩)
      · exact Or.inl h
      · exact Or.inr ⟨⟨key pv' sg, (e _).mpr ⟨sg, q2, q3, rfl⟩, sg, q2, q3, rfl, q5⟩, q6⟩
  · subst h1
    exact ⟨f4, sp3, fgp', fgt', fb', fw', nI 0, fm', pv', ff', 1, fpl, fru, fr, M, lx_goesSome_stop, hg4, Or.inr ⟨rfl, pv', L, m3', a, b, c9⟩⟩
/-! ===== sets of rules ===== -/
def onb (s : Int32) (k : Nat) : Bool := decide (((s >>> (nI k &&& 31)) &&& 1) = 1)
theorem fx_holds_on {n k : Nat} {s : Int32} : fx_holds n s (nI k) = some (if onb s k then 1 else 0) := by
  unfold fx_holds onb
  rw [xl_eq, xl_eq]
  by_cases q : ((s >>> (nI k &&& 31)) &&& 1) = 1
  · rw [if_pos q, if_pos (by simpa using q)]
  · rw [if_neg q, if_neg (by simpa using q)]
theorem fx_rowOfRule_l {n i : Nat} (hi : i < 1000) : fx_rowOfRule n (nI i) 0 = some (nI (30 + 2 * i)) := by
  unfold fx_rowOfRule
  simp only [xl_eq]
  rw [show (2 : Int32) = nI 2 from rfl, nI_mul (by omega) (by decide) (by omega), show (30 : Int32) = nI 30 from rfl, nI_add]
  simp [xl_eq]
theorem fx_rowOfRule_r {n i : Nat} (hi : i < 1000) : fx_rowOfRule n (nI i) 1 = some (nI (31 + 2 * i)) := by
  unfold fx_rowOfRule
  simp only [xl_eq]
  rw [show (2 : Int32) = nI 2 from rfl, nI_mul (by omega) (by decide) (by omega), show (30 : Int32) = nI 30 from rfl, nI_add]
  simp [xl_eq]
  rw [show (1 : Int32) = nI 1 from rfl, nI_add, show 30 + 2 * i + 1 = 31 + 2 * i by omega]
