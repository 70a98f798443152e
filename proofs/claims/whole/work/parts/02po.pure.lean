/-! ===== shares: every part of a sum goes to one that stands in the pattern ===== -/
def PS (n0 : Nat) (fp : Nat → Int32) (T : Nat) (fgp fgt fb fw : Nat → Int32) (W V : Nat) (E : List Nat → Prop) (o : MRes) : Prop :=
  ∃ (fp' fgp' fgt' fb' fw' : Nat → Int32) (fm' : Int32) (ff' : Nat → Int32) (tm' : Int32), o = some (fp', nI T, fgp', fgt', fb', fw', nI W, fm', ff', tm') ∧ (∀ i : Nat, i < T → fp' i = fp i) ∧ (∀ i : Nat, i < n0 → fgp' i = fgp i ∧ fgt' i = fgt i) ∧ (∀ v : Nat, v < 5 → fb' v = fb v) ∧ (∀ i : Nat, i < V → fw' i = fw i) ∧ EXS E fm' ff' tm'
theorem PS_of {n0 T W V : Nat} {fp fgp fgt fb fw : Nat → Int32} {E : List Nat → Prop} {o : MRes} (hV : V ≤ W) (h : PO n0 fp T fgp fgt fb fw W E o) : PS n0 fp T fgp fgt fb fw W V E o := by
  obtain ⟨a1, a2, a3, a4, a5, a6, a7, a8, b1, b2, b3, b4, b5, b6⟩ := h
  exact ⟨a1, a2, a3, a4, a5, a6, a7, a8, b1, b2, b3, b4, fun i hi => b5 i (by omega), b6⟩
theorem PS_iff {n0 T W V : Nat} {fp fgp fgt fb fw : Nat → Int32} {E E' : List Nat → Prop} {o : MRes} (h : ∀ k : List Nat, E k ↔ E' k) (hp : PS n0 fp T fgp fgt fb fw W V E o) : PS n0 fp T fgp fgt fb fw W V E' o := by
  obtain ⟨a1, a2, a3, a4, a5, a6, a7, a8, b1, b2, b3, b4, b5, b6⟩ := hp
  exact ⟨a1, a2, a3, a4, a5, a6, a7, a8, b1, b2, b3, b4, b5, EXS_iff h b6⟩
theorem PS_same {n0 T W V : Nat} {fp fgp fgt fb fw ff : Nat → Int32} {fm tm : Int32} {E : List Nat → Prop} (he : EXS E fm ff tm) : PS n0 fp T fgp fgt fb fw W V E (some (fp, nI T, fgp, fgt, fb, fw, nI W, fm, ff, tm)) :=
  ⟨fp, fgp, fgt, fb, fw, fm, ff, tm, rfl, fun _ _ => rfl, fun _ _ => ⟨rfl, rfl⟩, fun _ _ => rfl, fun _ _ => rfl, he⟩
theorem PS_tr {n0 T W V V1 : Nat} {fp fgp fgt fb fw fp1 fgp1 fgt1 fb1 fw1 : Nat → Int32} {E : List Nat → Prop} {o : MRes} (h1 : ∀ i : Nat, i < T → fp1 i = fp i) (h2 : ∀ i : Nat, i < n0 → fgp1 i = fgp i ∧ fgt1 i = fgt i) (h3 : ∀ v : Nat, v < 5 → fb1 v = fb v) (h4 : ∀ i : Nat, i < V → fw1 i = fw i) (hV : V ≤ V1) (h : PS n0 fp1 T fgp1 fgt1 fb1 fw1 W V1 E o) : PS n0 fp T fgp fgt fb fw W V E o := by
  obtain ⟨a1, a2, a3, a4, a5, a6, a7, a8, b1, b2, b3, b4, b5, b6⟩ := h
  exact ⟨a1, a2, a3, a4, a5, a6, a7, a8, b1, fun i hi => by rw [b2 i hi, h1 i hi], fun i hi => ⟨(b3 i hi).1.trans (h2 i hi).1, (b3 i hi).2.trans (h2 i hi).2⟩, fun v hv => by rw [b4 v hv, h3 v hv], fun i hi => by rw [b5 i (by omega), h4 i hi], b6⟩
/-- what does not change while parts are shared out -/
def CXS (slf : SLF) (n : Nat) (fs fu : Nat → Int32) (so : Nat → Nat) (un : Nat → Option Nat) (pv : Int32) (d op k h base to W n0 T : Nat) (ps xs : List (Nat × List Nat)) (t : List Nat) (G : List Goal) (be : Nat → Option (List Nat)) : Prop :=
  (SOK slf n fs fu so un pv d ∧ 100000 ≤ n ∧ SG fs fu so un ∧ SU so un) ∧ ((op < 10 ∧ so op ≠ 3) ∧ so op = 2 ∧ nok so un t ∧ t.length ≤ 20 ∧ xs.map Prod.snd = flat1 so un op t) ∧ (to = base + k + h ∧ W = to + h ∧ W + 70 * d ≤ 4000 ∧ xs.length = h ∧ ps.length = k ∧ k ≤ 20) ∧ (∀ p ∈ ps, plain so un op p.2) ∧ (T + 21 * k + 500 * d ≤ 59000 ∧ plen G + (ps.map Prod.snd).flatten.length < d ∧ plen G + (ps.map Prod.snd).flatten.length ≤ 20 ∧ G.length = n0) ∧ ∀ (A : List Nat) (top : Nat), cov pv be (gls2 so un op A (flat1 so un op t) 0 ps top G)
def DYN (so : Nat → Nat) (un : Nat → Option Nat) (k base to T : Nat) (ps xs : List (Nat × List Nat)) (G : List Goal) (be : Nat → Option (List Nat)) (A : List Nat) (fp fgp fgt fb fw : Nat → Int32) : Prop :=
  (∀ x ∈ xs, okp fp x ∧ x.1 + x.2.length ≤ T) ∧ (∀ p ∈ ps, la fp p.1 p.2 ∧ nok so un p.2 ∧ c2 so p.2 ∧ p.2.length ≤ 20 ∧ p.1 + p.2.length ≤ T) ∧ (∀ g ∈ G, gok so un fp T g) ∧ la fgp 0 (G.map (fun g => g.1)).reverse ∧ la fgt 0 (G.map (fun g => g.2.2.1)).reverse ∧ bnd so un fp fb T be ∧ la fw base (adr ps) ∧ la fw (base + k) (adr xs) ∧ la fw to A
theorem DYN_same {so : Nat → Nat} {un : Nat → Option Nat} {k h base to T n0 : Nat} {ps xs : List (Nat × List Nat)} {G : List Goal} {be : Nat → Option (List Nat)} {A : List Nat} {fp fgp fgt fb fw fp1 fgp1 fgt1 fb1 fw1 : Nat → Int32} (hto : to = base + k + h) (hk : ps.length = k) (hh : xs.length = h) (hG : G.length = n0) (h1 : ∀ i : Nat, i < T → fp1 i = fp i) (h2 : ∀ i : Nat, i < n0 → fgp1 i = fgp i ∧ fgt1 i = fgt i) (h3 : ∀ v : Nat, v < 5 → fb1 v = fb v) (h4 : ∀ i : Nat, i < to + A.length → fw1 i = fw i) (hd : DYN so un k base to T ps xs G be A fp fgp fgt fb fw) : DYN so un k base to T ps xs G be A fp1 fgp1 fgt1 fb1 fw1 := by
  obtain ⟨a1, a2, a3, a4, a5, a6, a7, a8, a9⟩ := hd
  refine ⟨fun x hx => ?_, fun p hp => ?_, fun g hg => gok_same h1 (Nat.le_refl _) (a3 g hg), ?_, ?_, bnd_same h1 (Nat.le_refl _) h3 a6, ?_, ?_, ?_⟩
  · obtain ⟨z1, z2⟩ := a1 x hx
    exact ⟨⟨la_congr (fun j hj => h1 _ (by omega)) z1.1, z1.2⟩, z2⟩
  · obtain ⟨z1, z2, z3, z4, z5⟩ := a2 p hp
    exact ⟨la_congr (fun j hj => h1 _ (by omega)) z1, z2, z3, z4, z5⟩
  · exact la_congr (fun j hj => by rw [Nat.zero_add]; exact (h2 j (by simp at hj; omega)).1) a4
  · exact la_congr (fun j hj => by rw [Nat.zero_add]; exact (h2 j (by simp at hj; omega)).2) a5
  · exact la_congr (fun j hj => h4 _ (by simp [adr] at hj; omega)) a7
  · exact la_congr (fun j hj => h4 _ (by simp [adr] at hj; omega)) a8
  · exact la_congr (fun j hj => h4 _ (by omega)) a9
abbrev oneF (so : Nat → Nat) (un : Nat → Option Nat) (ps : List (Nat × List Nat)) : Nat → Prop := fun i => isOneP so un (nth (ps.map Prod.snd) i)
abbrev hopF (ps : List (Nat × List Nat)) : Nat → Int32 := fun i => opI (hd0 (nth (ps.map Prod.snd) i))
/-- all that sharings out give which begin so -/
def SX (so : Nat → Nat) (un : Nat → Option Nat) (pv : Int32) (G : List Goal) (be : Nat → Option (List Nat)) (op : Nat) (ps : List (Nat × List Nat)) (H : List (List Nat)) (A0 : List Nat) (q : List Nat) : Prop :=
  ∃ B : List Nat, (A0 ++ B).length = H.length ∧ Vr ps.length (oneF so un ps) (hopF ps) (A0 ++ B).reverse H.reverse ∧ SolA so un pv G be op (ps.map Prod.snd) H (A0 ++ B) q
theorem Vr_suffix {k : Nat} {one : Nat → Prop} {hop : Nat → Int32} : ∀ {b1 b : List Nat} {d1 d : List (List Nat)}, b1.length = d1.length → Vr k one hop (b1 ++ b) (d1 ++ d) → Vr k one hop b d
  | [], b, [], d, _, h => h
  | [], _, _ :: _, _, h, _ => by simp at h
  | _ :: _, _, [], _, h, _ => by simp at h
  | x :: b1, b, y :: d1, d, h, hv => Vr_suffix (by simpa using h) hv.1
/-- the next one's place -/
theorem SX_step {so : Nat → Nat} {un : Nat → Option Nat} {pv : Int32} {G : List Goal} {be : Nat → Option (List Nat)} {op : Nat} {ps : List (Nat × List Nat)} {H1 H2 : List (List Nat)} {y : List Nat} {A0 q : List Nat} (hl : A0.length = H1.length) : SX so un pv G be op ps (H1 ++ y :: H2) A0 q ↔ ∃ i : Nat, i < ps.length ∧ SX so un pv G be op ps (H1 ++ y :: H2) (A0 ++ [i]) q := by
  constructor
  · rintro ⟨B, h1, h2, h3⟩
    cases B with
    | nil => simp at h1; omega
    | cons i B =>
      have e : A0 ++ i :: B = A0 ++ [i] ++ B := by simp
      rw [e] at h1 h2 h3
      refine ⟨i, ?_, B, h1, h2, h3⟩
      have e2 : (A0 ++ [i] ++ B).reverse = B.reverse ++ (i :: A0.reverse) := by simp
      have e3 : (H1 ++ y :: H2).reverse = H2.reverse ++ (y :: H1.reverse) := by simp
      rw [e2, e3] at h2
      have := Vr_suffix (by simp at h1 ⊢; omega) h2
      exact this.2.1
  · rintro ⟨i, _, B, h1, h2, h3⟩
    have e : A0 ++ [i] ++ B = A0 ++ i :: B := by simp
    rw [e] at h1 h2 h3
    exact ⟨i :: B, h1, h2, h3⟩
theorem SX_ok {so : Nat → Nat} {un : Nat → Option Nat} {pv : Int32} {G : List Goal} {be : Nat → Option (List Nat)} {op i : Nat} {ps : List (Nat × List Nat)} {H1 H2 : List (List Nat)} {y : List Nat} {A0 q : List Nat} (hl : A0.length = H1.length) (h : SX so un pv G be op ps (H1 ++ y :: H2) (A0 ++ [i]) q) : Vr ps.length (oneF so un ps) (hopF ps) (i :: A0.reverse) (y :: H1.reverse) := by
  obtain ⟨B, h1, h2, _⟩ := h
  have e2 : (A0 ++ [i] ++ B).reverse = B.reverse ++ (i :: A0.reverse) := by simp
  have e3 : (H1 ++ y :: H2).reverse = H2.reverse ++ (y :: H1.reverse) := by simp
  rw [e2, e3] at h2
  exact Vr_suffix (by simp at h1 ⊢; omega) h2
theorem ct_zero {i : Nat} : ∀ {A : List Nat}, ct i A = 0 ↔ i ∉ A
  | [] => by simp [ct]
  | a :: A => by
    show (if a = i then 1 else 0) + ct i A = 0 ↔ _
    have := ct_zero (i := i) (A := A)
    rw [List.mem_cons]
    by_cases q : a = i
    · rw [if_pos q]; constructor
      · intro h; omega
      · intro h; exact absurd (Or.inl q.symm) h
    · rw [if_neg q, Nat.zero_add, this]; constructor
      · rintro h (g | g)
        · exact q g.symm
        · exact h g
      · exact fun h g => h (Or.inr g)
abbrev SHF := Nat → (Nat → Int32) → (Nat → Int32) → (Nat → Int32) → Int32 → (Nat → Int32) → (Nat → Int32) → (Nat → Int32) → (Nat → Int32) → Int32 → Int32 → Int32 → (Nat → Int32) → Int32 → Int32 → Int32 → Int32 → Int32 → Int32 → Int32 → MRes
/-- a function shares out what is left, at most e parts -/
def SHOK (sl2 : SHF) (n : Nat) (fs fu : Nat → Int32) (so : Nat → Nat) (un : Nat → Option Nat) (pv : Int32) (op k h base to W n0 T : Nat) (ps xs : List (Nat × List Nat)) (t : List Nat) (G : List Goal) (be : Nat → Option (List Nat)) (e : Nat) : Prop :=
  ∀ (A0 : List Nat) (X1 X2 : List (Nat × List Nat)) (fp fgp fgt fb fw : Nat → Int32) (fm : Int32) (ff : Nat → Int32) (tm : Int32) (E : List Nat → Prop), xs = X1 ++ X2 → A0.length = X1.length → X2.length < e → (∀ a ∈ A0, a < k) → Vr ps.length (oneF so un ps) (hopF ps) A0.reverse (X1.map Prod.snd).reverse → DYN so un k base to T ps xs G be A0 fp fgp fgt fb fw → EXS E fm ff tm →
    PS n0 fp T fgp fgt fb fw W (to + A0.length) (fun q => E q ∨ SX so un pv G be op ps (flat1 so un op t) A0 q) (sl2 n fs fu fp (nI T) fgp fgt fb fw (nI W) fm pv ff tm (nI n0) (nI op) (nI base) (nI k) (nI h) (nI A0.length))
