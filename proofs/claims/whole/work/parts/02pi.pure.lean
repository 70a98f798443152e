/-! ===== solves: goals, bindings, what was explored ===== -/
abbrev MRes := Option ((Nat → Int32) × Int32 × (Nat → Int32) × (Nat → Int32) × (Nat → Int32) × (Nat → Int32) × Int32 × Int32 × (Nat → Int32) × Int32)
abbrev SLF := Nat → (Nat → Int32) → (Nat → Int32) → (Nat → Int32) → Int32 → (Nat → Int32) → (Nat → Int32) → (Nat → Int32) → (Nat → Int32) → Int32 → Int32 → Int32 → (Nat → Int32) → Int32 → Int32 → MRes
abbrev Goal := Nat × List Nat × Nat × List Nat
def c2 (so : Nat → Nat) (l : List Nat) : Prop := ∀ c ∈ l, 512 ≤ c → so (c / 512 - 1) = 1 → ar c = 2
def gok (so : Nat → Nat) (un : Nat → Option Nat) (fp : Nat → Int32) (T : Nat) (g : Goal) : Prop :=
  (la fp g.1 g.2.1 ∧ nok so un g.2.1 ∧ c2 so g.2.1 ∧ g.2.1.length ≤ 20 ∧ g.1 + g.2.1.length ≤ T) ∧ la fp g.2.2.1 g.2.2.2 ∧ nok so un g.2.2.2 ∧ g.2.2.2.length ≤ 20 ∧ g.2.2.1 + g.2.2.2.length ≤ T
def plen : List Goal → Nat
  | [] => 0
  | g :: G => g.2.1.length + plen G
def bnd (so : Nat → Nat) (un : Nat → Option Nat) (fp fb : Nat → Int32) (T : Nat) (be : Nat → Option (List Nat)) : Prop :=
  ∀ v : Nat, v < 5 → (be v = none ∧ fb v = -1) ∨ (∃ (a : Nat) (r : List Nat), be v = some r ∧ fb v = nI a ∧ la fp a r ∧ nok so un r ∧ r.length ≤ 20 ∧ a + r.length ≤ T)
def Sol (so : Nat → Nat) (un : Nat → Option Nat) (pv : Int32) (G : List Goal) (be : Nat → Option (List Nat)) (k : List Nat) : Prop :=
  ∃ sg : Nat → List Nat, (∀ v : Nat, v < 5 → ∀ r : List Nat, be v = some r → sg v = r) ∧ (∀ g ∈ G, von so un sg g.2.1 ∧ fil so un sg g.2.1 = g.2.2.2) ∧ k = key pv sg
def cov (pv : Int32) (be : Nat → Option (List Nat)) (G : List Goal) : Prop := ∀ v : Nat, v < 5 → hb pv v = true → be v ≠ none ∨ ∃ g ∈ G, v ∈ g.2.1
/-- what was explored is just what was found, or it is too much -/
def EXS (E : List Nat → Prop) (fm : Int32) (ff : Nat → Int32) (tm : Int32) : Prop :=
  (tm = 0 ∧ ∃ F : List (List Nat), KS F ∧ F.length ≤ 300 ∧ fm = nI F.length ∧ la ff 0 F.flatten ∧ ∀ k : List Nat, k ∈ F ↔ E k) ∨ (tm = 1 ∧ ∃ L : List (List Nat), L.Nodup ∧ 300 < L.length ∧ ∀ k ∈ L, E k)
theorem EXS_iff {E E' : List Nat → Prop} {fm tm : Int32} {ff : Nat → Int32} (h : ∀ k : List Nat, E k ↔ E' k) (he : EXS E fm ff tm) : EXS E' fm ff tm := by
  rcases he with ⟨h1, F, a, b, c, d, e⟩ | ⟨h1, L, a, b, c⟩
  · exact Or.inl ⟨h1, F, a, b, c, d, fun k => (e k).trans (h k)⟩
  · exact Or.inr ⟨h1, L, a, b, fun k hk => (h k).mp (c k hk)⟩
theorem EXS_more {E E' : List Nat → Prop} {fm tm : Int32} {ff : Nat → Int32} (ht : ¬ tm = 0) (h : ∀ k : List Nat, E k → E' k) (he : EXS E fm ff tm) : EXS E' fm ff tm := by
  rcases he with ⟨h1, _⟩ | ⟨h1, L, a, b, c⟩
  · exact absurd h1 ht
  · exact Or.inr ⟨h1, L, a, b, fun k hk => h k (c k hk)⟩
/-- how such a method ends -/
def PO (n0 : Nat) (fp : Nat → Int32) (T : Nat) (fgp fgt fb fw : Nat → Int32) (W : Nat) (E : List Nat → Prop) (o : MRes) : Prop :=
  ∃ (fp' fgp' fgt' fb' fw' : Nat → Int32) (fm' : Int32) (ff' : Nat → Int32) (tm' : Int32), o = some (fp', nI T, fgp', fgt', fb', fw', nI W, fm', ff', tm') ∧ (∀ i : Nat, i < T → fp' i = fp i) ∧ (∀ i : Nat, i < n0 → fgp' i = fgp i ∧ fgt' i = fgt i) ∧ (∀ v : Nat, v < 5 → fb' v = fb v) ∧ (∀ i : Nat, i < W → fw' i = fw i) ∧ EXS E fm' ff' tm'
theorem PO_iff {n0 T W : Nat} {fp fgp fgt fb fw : Nat → Int32} {E E' : List Nat → Prop} {o : MRes} (h : ∀ k : List Nat, E k ↔ E' k) (hp : PO n0 fp T fgp fgt fb fw W E o) : PO n0 fp T fgp fgt fb fw W E' o := by
  obtain ⟨a1, a2, a3, a4, a5, a6, a7, a8, b1, b2, b3, b4, b5, b6⟩ := hp
  exact ⟨a1, a2, a3, a4, a5, a6, a7, a8, b1, b2, b3, b4, b5, EXS_iff h b6⟩
theorem PO_same {n0 T W : Nat} {fp fgp fgt fb fw ff : Nat → Int32} {fm tm : Int32} {E : List Nat → Prop} (he : EXS E fm ff tm) : PO n0 fp T fgp fgt fb fw W E (some (fp, nI T, fgp, fgt, fb, fw, nI W, fm, ff, tm)) :=
  ⟨fp, fgp, fgt, fb, fw, fm, ff, tm, rfl, fun _ _ => rfl, fun _ _ => ⟨rfl, rfl⟩, fun _ _ => rfl, fun _ _ => rfl, he⟩
def SOK (slf : SLF) (n : Nat) (fs fu : Nat → Int32) (so : Nat → Nat) (un : Nat → Option Nat) (pv : Int32) (d : Nat) : Prop :=
  ∀ (fp fgp fgt fb fw : Nat → Int32) (T W : Nat) (fm : Int32) (ff : Nat → Int32) (tm : Int32) (G : List Goal) (be : Nat → Option (List Nat)) (E : List Nat → Prop),
    (∀ g ∈ G, gok so un fp T g) → la fgp 0 (G.map (fun g => g.1)).reverse → la fgt 0 (G.map (fun g => g.2.2.1)).reverse → bnd so un fp fb T be → plen G < d → plen G ≤ 20 → T + 500 * d ≤ 59000 → W + 70 * d ≤ 4000 → cov pv be G → EXS E fm ff tm →
    PO G.length fp T fgp fgt fb fw W (fun k => E k ∨ Sol so un pv G be k) (slf n fs fu fp (nI T) fgp fgt fb fw (nI W) fm pv ff tm (nI G.length))
theorem plen_len {so : Nat → Nat} {un : Nat → Option Nat} {fp : Nat → Int32} {T : Nat} : ∀ {G : List Goal}, (∀ g ∈ G, gok so un fp T g) → G.length ≤ plen G
  | [], _ => Nat.le_refl _
  | g :: G, h => by
    have h1 := wf_pos (h g (List.mem_cons_self ..)).1.2.1.1.1
    have h2 := plen_len (G := G) (fun x hx => h x (List.mem_cons_of_mem _ hx))
    show G.length + 1 ≤ g.2.1.length + plen G
    omega
theorem gok_same {so : Nat → Nat} {un : Nat → Option Nat} {fp fp' : Nat → Int32} {T T' : Nat} {g : Goal} (h : ∀ i : Nat, i < T → fp' i = fp i) (hT : T ≤ T') (hg : gok so un fp T g) : gok so un fp' T' g := by
  obtain ⟨⟨a1, a2, a3, a4, a5⟩, b1, b2, b3, b4⟩ := hg
  exact ⟨⟨la_congr (fun i hi => h _ (by omega)) a1, a2, a3, a4, by omega⟩, la_congr (fun i hi => h _ (by omega)) b1, b2, b3, by omega⟩
theorem bnd_same {so : Nat → Nat} {un : Nat → Option Nat} {fp fp' fb fb' : Nat → Int32} {T T' : Nat} {be : Nat → Option (List Nat)} (h : ∀ i : Nat, i < T → fp' i = fp i) (hT : T ≤ T') (hb' : ∀ v : Nat, v < 5 → fb' v = fb v) (hg : bnd so un fp fb T be) : bnd so un fp' fb' T' be := fun v hv => by
  rcases hg v hv with ⟨a, b⟩ | ⟨a, r, a1, a2, a3, a4, a5, a6⟩
  · exact Or.inl ⟨a, by rw [hb' v hv]; exact b⟩
  · exact Or.inr ⟨a, r, a1, by rw [hb' v hv]; exact a2, la_congr (fun i hi => h _ (by omega)) a3, a4, a5, by omega⟩
theorem key_congr {pv : Int32} {s1 s2 : Nat → List Nat} (h : ∀ v : Nat, v < 5 → hb pv v = true → s1 v = s2 v) : key pv s1 = key pv s2 := by
  have gen : ∀ (k v : Nat), v + k ≤ 5 → keyF pv s1 k v = keyF pv s2 k v := by
    intro k
    induction k with
    | zero => intro v _; rfl
    | succ k ih =>
      intro v hv
      show pad (if hb pv v then s1 v else []) ++ keyF pv s1 k (v + 1) = pad (if hb pv v then s2 v else []) ++ keyF pv s2 k (v + 1)
      rw [ih (v + 1) (by omega)]
      by_cases q : hb pv v = true
      · rw [if_pos q, if_pos q, h v (by omega) q]
      · rw [if_neg q, if_neg q]
  exact gen 5 0 (by omega)
/-! ===== no goal is left ===== -/
theorem solves_nil {n : Nat} {fp fb fgp fgt fw ff : Nat → Int32} {so : Nat → Nat} {un : Nat → Option Nat} {pv fm tm : Int32} {T W : Nat} {be : Nat → Option (List Nat)} {E : List Nat → Prop} (hn : 100000 ≤ n) (hT : T ≤ 60000) (hbn : bnd so un fp fb T be) (hcv : cov pv be []) (he : EXS E fm ff tm) (ht : tm = 0) :
    PO 0 fp T fgp fgt fb fw W (fun k => E k ∨ Sol so un pv [] be k) (xb3 (fx_records n fp fb fm pv ff tm) fun a b c => some (fp, nI T, fgp, fgt, fb, fw, nI W, a, b, c)) := by
  subst ht
  rcases he with ⟨_, F, f1, f2, f3, f4, f5⟩ | ⟨h, _⟩
  · subst f3
    have hbd : ∀ v : Nat, v < 5 → hb pv v = true → bok fp fb so T v ((be v).getD []) := fun v hv q => by
      rcases hbn v hv with ⟨a, _⟩ | ⟨a, r, a1, a2, a3, a4, a5, a6⟩
      · rcases hcv v hv q with g | ⟨g, hg, _⟩
        · exact absurd a g
        · exact absurd hg List.not_mem_nil
      · rw [a1]; exact ⟨a, a2, a3, a4.1, a5, a6⟩
    have hsol : ∀ k : List Nat, Sol so un pv [] be k ↔ k = key pv (fun v => (be v).getD []) := fun k => by
      constructor
      · rintro ⟨sg, s1, _, s3⟩
        rw [s3]
        refine key_congr (fun v hv q => ?_)
        rcases hbn v hv with ⟨a, _⟩ | ⟨a, r, a1, _⟩
        · rcases hcv v hv q with g | ⟨g, hg, _⟩
          · exact absurd a g
          · exact absurd hg List.not_mem_nil
        · rw [s1 v hv r a1, a1]; rfl
      · intro e
        exact ⟨_, fun v _ r hr => by rw [hr]; rfl, fun g hg => absurd hg List.not_mem_nil, e⟩
    obtain ⟨ff', fm', tm', r1, r2⟩ := fx_records_ok (tm := 0) hn hT hbd f1 f2 f4
    rw [r1, xb3_s]
    refine ⟨fp, fgp, fgt, fb, fw, fm', ff', tm', rfl, fun _ _ => rfl, fun _ _ => ⟨rfl, rfl⟩, fun _ _ => rfl, fun _ _ => rfl, ?_⟩
    rcases r2 with ⟨k1, k2, k3, k4⟩ | ⟨k1, k2, k3⟩ | ⟨k1, k2, F', k3, _, k5, k6, k7, k8⟩
    · refine Or.inl ⟨k3, F, f1, f2, k2, k4, fun k => ?_⟩
      show k ∈ F ↔ (E k ∨ Sol so un pv [] be k)
      rw [hsol k, f5 k]
      constructor
      · exact Or.inl
      · rintro (h | h)
        · exact h
        · rw [h]; exact (f5 _).mp k1
    · refine Or.inr ⟨k3, key pv (fun v => (be v).getD []) :: F, ?_, by rw [List.length_cons]; omega, fun k hk => ?_⟩
      · refine List.nodup_cons.mpr ⟨k1, ?_⟩
        exact f1.2.imp (fun {a b} h e => by rw [e] at h; exact klt_irrefl h)
      · rcases List.mem_cons.mp hk with g | g
        · exact Or.inr ((hsol k).mpr g)
        · exact Or.inl ((f5 k).mp g)
    · refine Or.inl ⟨k2, F', k3, k5, k6, k7, fun k => ?_⟩
      show k ∈ F' ↔ (E k ∨ Sol so un pv [] be k)
      rw [k8 k, hsol k, f5 k]
  · exact absurd h (by decide)
/-! ===== a variable ===== -/
def bup (be : Nat → Option (List Nat)) (v : Nat) (t : List Nat) : Nat → Option (List Nat) := fun w => if w = v then some t else be w
theorem bup_eq {be : Nat → Option (List Nat)} {v : Nat} {t : List Nat} : bup be v t v = some t := by unfold bup; rw [if_pos rfl]
theorem bup_ne {be : Nat → Option (List Nat)} {v w : Nat} {t : List Nat} (h : w ≠ v) : bup be v t w = be w := by unfold bup; rw [if_neg h]
theorem byVariable_ok {slf : SLF} {n : Nat} {fs fu : Nat → Int32} {so : Nat → Nat} {un : Nat → Option Nat} {pv : Int32} {d : Nat} (hslf : SOK slf n fs fu so un pv d) (hn : 100000 ≤ n) {fp fgp fgt fb fw ff : Nat → Int32} {T W : Nat} {fm tm : Int32} {G : List Goal} {be : Nat → Option (List Nat)} {E : List Nat → Prop} {pa v ta : Nat} {t : List Nat}
    (hv : v < 5) (hg : gok so un fp T (pa, [v], ta, t)) (hG : ∀ g ∈ G, gok so un fp T g) (hgp : la fgp 0 (G.map (fun g => g.1)).reverse) (hgt : la fgt 0 (G.map (fun g => g.2.2.1)).reverse) (hbn : bnd so un fp fb T be) (hpl : plen G < d) (hp2 : plen G ≤ 20) (hT : T + 500 * d ≤ 59000) (hW : W + 70 * d ≤ 4000) (hcv : cov pv be ((pa, [v], ta, t) :: G)) (he : EXS E fm ff tm) :
    PO G.length fp T fgp fgt fb fw W (fun k => E k ∨ Sol so un pv ((pa, [v], ta, t) :: G) be k) (fx_byVariable slf n fs fu fp (nI T) fgp fgt fb fw (nI W) fm pv ff tm (nI G.length) (nI v) (nI ta)) := by
  obtain ⟨_, t1, t2, t3, t4⟩ := hg
  have fvar : ∀ sg : Nat → List Nat, fil so un sg [v] = sg v := fun sg => fil_var (by omega)
  unfold fx_byVariable
  rw [xr_n hv (by decide)]
  rcases hbn v hv with ⟨e1, e2⟩ | ⟨a, r, a1, a2, a3, a4, a5, a6⟩
  · rw [e2, if_pos rfl, xw_n hv (by decide)]
    have hbn2 : bnd so un fp (upd fb v (nI ta)) T (bup be v t) := fun w hw => by
      by_cases q : w = v
      · subst q
        exact Or.inr ⟨ta, t, bup_eq, upd_eq _ _ _, t1, t2, t3, t4⟩
      · rw [bup_ne q, upd_ne q]; exact hbn w hw
    have hcv2 : cov pv (bup be v t) G := fun w hw hh => by
      by_cases q : w = v
      · left; rw [q, bup_eq]; simp
      · rcases hcv w hw hh with g | ⟨g, hg, hwg⟩
        · left; rw [bup_ne q]; exact g
        · rcases List.mem_cons.mp hg with e | e
          · subst e
            exact absurd (List.mem_singleton.mp hwg) q
          · exact Or.inr ⟨g, e, hwg⟩
    obtain ⟨fp', fgp', fgt', fb', fw', fm', ff', tm', r1, r2, r3, r4, r5, r6⟩ := hslf fp fgp fgt (upd fb v (nI ta)) fw T W fm ff tm G (bup be v t) E hG hgp hgt hbn2 hpl hp2 hT hW hcv2 he
    rw [r1, xb10_s, xw_n hv (by decide)]
    refine ⟨fp', fgp', fgt', upd fb' v (-1), fw', fm', ff', tm', rfl, r2, r3, fun w hw => ?_, r5, EXS_iff (fun k => ?_) r6⟩
    · by_cases q : w = v
      · rw [q, upd_eq, e2]
      · rw [upd_ne q, r4 w hw, upd_ne q]
    · refine or_congr Iff.rfl ⟨?_, ?_⟩
      · rintro ⟨sg, s1, s2, s3⟩
        have hsv : sg v = t := s1 v hv t bup_eq
        refine ⟨sg, fun w hw r hr => s1 w hw r ?_, fun g hg => ?_, s3⟩
        · by_cases q : w = v
          · subst q; rw [e1] at hr; exact absurd hr (by simp)
          · rw [bup_ne q]; exact hr
        · rcases List.mem_cons.mp hg with e | e
          · subst e
            refine ⟨fun c hc _ => ?_, by rw [fvar]; exact hsv⟩
            rw [List.mem_singleton.mp hc, hsv]; exact ⟨t2, t3⟩
          · exact s2 g e
      · rintro ⟨sg, s1, s2, s3⟩
        have hsv : sg v = t := by rw [← fvar sg]; exact (s2 _ (List.mem_cons_self ..)).2
        refine ⟨sg, fun w hw r hr => ?_, fun g hg => s2 g (List.mem_cons_of_mem _ hg), s3⟩
        by_cases q : w = v
        · subst q
          rw [bup_eq] at hr
          rw [hsv]; exact Option.some.inj hr
        · rw [bup_ne q] at hr; exact s1 w hw r hr
  · rw [a2, if_neg (nI_m1 (by omega)), xr_n hv (by decide), a2, fx_areAlike_ok a3 a4.1.1 a4.1.2.1 (by omega) t1 t2.1.1 t2.1.2.1 (by omega) hn, xb1_s]
    by_cases q : r = t
    · rw [if_pos q, if_neg (by decide)]
      have hcv2 : cov pv be G := fun w hw hh => by
        rcases hcv w hw hh with g | ⟨g, hg, hwg⟩
        · exact Or.inl g
        · rcases List.mem_cons.mp hg with e | e
          · subst e
            have ew : w = v := List.mem_singleton.mp hwg
            left; rw [ew, a1]; simp
          · exact Or.inr ⟨g, e, hwg⟩
      obtain ⟨fp', fgp', fgt', fb', fw', fm', ff', tm', r1, r2, r3, r4, r5, r6⟩ := hslf fp fgp fgt fb fw T W fm ff tm G be E hG hgp hgt hbn hpl hp2 hT hW hcv2 he
      rw [r1, xb10_s]
      refine ⟨fp', fgp', fgt', fb', fw', fm', ff', tm', rfl, r2, r3, r4, r5, EXS_iff (fun k => ?_) r6⟩
      refine or_congr Iff.rfl ⟨?_, ?_⟩
      · rintro ⟨sg, s1, s2, s3⟩
        have hsv : sg v = t := by rw [s1 v hv r a1]; exact q
        refine ⟨sg, s1, fun g hg => ?_, s3⟩
        rcases List.mem_cons.mp hg with e | e
        · subst e
          refine ⟨fun c hc _ => ?_, by rw [fvar]; exact hsv⟩
          rw [List.mem_singleton.mp hc, hsv]; exact ⟨t2, t3⟩
        · exact s2 g e
      · rintro ⟨sg, s1, s2, s3⟩
        exact ⟨sg, s1, fun g hg => s2 g (List.mem_cons_of_mem _ hg), s3⟩
    · rw [if_neg q, if_pos rfl]
      refine PO_iff (fun k => ?_) (PO_same he)
      refine ⟨Or.inl, ?_⟩
      rintro (h | ⟨sg, s1, s2, s3⟩)
      · exact h
      · exfalso
        have hsv : sg v = t := by rw [← fvar sg]; exact (s2 _ (List.mem_cons_self ..)).2
        exact q (by rw [← hsv]; exact (s1 v hv r a1).symm)
