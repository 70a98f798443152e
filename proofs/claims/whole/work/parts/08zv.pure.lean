/-! ===== the matcher: the state of its search ===== -/
abbrev Bnd := Nat → Option (List Nat)
/-- a branch: goal, chain, bindings, part, ways, ways tried, goals, mask -/
abbrev BRN := GoalC × List GoalC × Bnd × Nat × Nat × Nat × Nat × Int32
abbrev brR (b : BRN) : GoalC := b.1
abbrev brC (b : BRN) : List GoalC := b.2.1
abbrev brB (b : BRN) : Bnd := b.2.2.1
abbrev brP (b : BRN) : Nat := b.2.2.2.1
abbrev brL (b : BRN) : Nat := b.2.2.2.2.1
abbrev brK (b : BRN) : Nat := b.2.2.2.2.2.1
abbrev brG (b : BRN) : Nat := b.2.2.2.2.2.2.1
abbrev brM (b : BRN) : Int32 := b.2.2.2.2.2.2.2
def MTG (so : Nat → Nat) (un : Nat → Option Nat) (P T : List Nat) (sg : Sbs) : Prop := von so un sg P ∧ fil so un sg P = T
/-- goals over the pattern's variables -/
def VPC (so : Nat → Nat) (P : List Nat) (C : List GoalC) : Prop := ∀ g ∈ C, (∀ c ∈ g.1, c < 512 → c ∈ P) ∧ (kd so g.1 ≠ 2 → g.2.1 = 63)
def DMP (P : List Nat) (be : Bnd) : Prop := ∀ v : Nat, v < 5 → be v ≠ none → v ∈ P
def BDM (mask : Int32) (f : Nat → Int32) (N : List (List Nat)) (be : Bnd) : Prop :=
  ∀ v : Nat, v < 5 → (be v = none ∧ hb mask v = false) ∨ ∃ (r : List Nat) (y : Nat), be v = some r ∧ hb mask v = true ∧ y < N.length ∧ nth N y = r ∧ f v = nI y
def BKN (so : Nat → Nat) (un : Nat → Option Nat) (be : Bnd) (R : GoalC) (bp lim : Nat) : Prop :=
  (kd so R.1 = 1 ∧ bp = 0 ∧ lim = 2 ∧ hd0 R.2.2 = hd0 R.1) ∨
  (kd so R.1 = 2 ∧ (∀ i : Nat, R.2.1.testBit i = true → i < (pts R.1).length ∧ nong be (nth (pts R.1) i)) ∧ R.2.1.testBit bp = true ∧ lim = (if sto so un (nth (pts R.1) bp) = 2 then (flat1 so un (opn R.1) R.2.2).length else 2 ^ (flat1 so un (opn R.1) R.2.2).length))
def LOW (BR : List BRN) (be : Bnd) (G : Nat) : Prop := ∀ b ∈ BR, (∀ v : Nat, v < 5 → brB b v ≠ none → be v ≠ none) ∧ brG b ≤ G
def BST (so ma : Nat → Nat) (un : Nat → Option Nat) (nv : Nat) (AL : List Nat → Prop) (P T : List Nat) (ix : Nat) (b : BRN) : Prop :=
  GOK AL so ma un nv (brR b :: brC b) ∧ VPC so P (brR b :: brC b) ∧ DMP P (brB b) ∧ brK b ≤ brL b ∧ brL b ≤ 64 ∧ BKN so un (brB b) (brR b) (brP b) (brL b) ∧
  brG b + pot so (brR b :: brC b) ≤ 79 ∧ ix + sgC so (brR b :: brC b) ≤ 19 ∧ ∀ sg : Sbs, SolG so un (brR b :: brC b) (brB b) sg → MTG so un P T sg
def BRS (so ma : Nat → Nat) (un : Nat → Option Nat) (nv : Nat) (AL : List Nat → Prop) (P T : List Nat) (u : Nat → Nat → Int32) (N : List (List Nat)) : List BRN → Prop
  | [] => True
  | b :: BR => BRX u N BR.length (brR b) (brC b) (brP b) (brL b) (nI (brK b) - 1) (brM b) (brG b) ∧ BDM (brM b) (u 5) N (brB b) ∧ BST so ma un nv AL P T BR.length b ∧ LOW BR (brB b) (brG b) ∧ BRS so ma un nv AL P T u N BR
theorem BDM_ext {m : Int32} {f : Nat → Int32} {N E : List (List Nat)} {be : Bnd} (h : BDM m f N be) : BDM m f (N ++ E) be := fun v hv => by
  rcases h v hv with g | ⟨r, y, a, b, c, d, e⟩
  · exact Or.inl g
  · exact Or.inr ⟨r, y, a, b, (nth_pre c).1, by rw [(nth_pre c).2]; exact d, e⟩
theorem BDM_frame {m : Int32} {f f' : Nat → Int32} {N : List (List Nat)} {be : Bnd} (h : BDM m f N be) (e : ∀ v : Nat, v < 5 → be v ≠ none → f' v = f v) : BDM m f' N be := fun v hv => by
  rcases h v hv with g | ⟨r, y, a, b, c, d, e2⟩
  · exact Or.inl g
  · exact Or.inr ⟨r, y, a, b, c, d, by rw [e v hv (by rw [a]; exact fun z => nomatch z)]; exact e2⟩
theorem BRX_ext {u : Nat → Nat → Int32} {N E : List (List Nat)} {nb bp lim gu : Nat} {R : GoalC} {C : List GoalC} {nw mask : Int32} (h : BRX u N nb R C bp lim nw mask gu) : BRX u (N ++ E) nb R C bp lim nw mask gu := by
  obtain ⟨gi, a, b, c⟩ := h
  exact ⟨gi, a, CHN_ext b, c⟩
theorem BRS_ext {so ma : Nat → Nat} {un : Nat → Option Nat} {nv : Nat} {AL : List Nat → Prop} {P T : List Nat} {u : Nat → Nat → Int32} {N E : List (List Nat)} : ∀ {BR : List BRN}, BRS so ma un nv AL P T u N BR → BRS so ma un nv AL P T u (N ++ E) BR
  | [], _ => trivial
  | b :: BR, h => ⟨BRX_ext h.1, BDM_ext h.2.1, h.2.2.1, h.2.2.2.1, BRS_ext h.2.2.2.2⟩
theorem BRS_frame {so ma : Nat → Nat} {un : Nat → Option Nat} {nv : Nat} {AL : List Nat → Prop} {P T : List Nat} {u u' : Nat → Nat → Int32} {N : List (List Nat)} : ∀ {BR : List BRN} {G : Nat} {be : Bnd}, (∀ a : Nat, 1 ≤ a → a ≤ 4 → ∀ i : Nat, i < G → u' a i = u a i) → (∀ v : Nat, v < 5 → be v ≠ none → u' 5 v = u 5 v) → (∀ a : Nat, 6 ≤ a → a ≤ 11 → ∀ i : Nat, i < BR.length → u' a i = u a i) → LOW BR be G → BRS so ma un nv AL P T u N BR → BRS so ma un nv AL P T u' N BR
  | [], _, _, _, _, _, _, _ => trivial
  | b :: BR, G, be, f1, f2, f3, hl, h => by
    obtain ⟨⟨gi, x1, x2, x3, x4, x5, x6, x7, x8⟩, h2, h3, h4, h5⟩ := h
    have hb9 := hl b List.mem_cons_self
    have hlen : BR.length < (b :: BR).length := Nat.lt_succ_self _
    refine ⟨⟨gi, ?_, ?_, x3, ?_, ?_, ?_, ?_, ?_⟩, ?_, h3, h4, ?_⟩
    · rw [f3 6 (by decide) (by decide) _ hlen]; exact x1
    · exact CHN_frame (fun a a1 a4 i hi => f1 a a1 a4 i (by have := hb9.2; omega)) x2
    · rw [f3 7 (by decide) (by decide) _ hlen]; exact x4
    · rw [f3 8 (by decide) (by decide) _ hlen]; exact x5
    · rw [f3 9 (by decide) (by decide) _ hlen]; exact x6
    · rw [f3 10 (by decide) (by decide) _ hlen]; exact x7
    · rw [f3 11 (by decide) (by decide) _ hlen]; exact x8
    · exact BDM_frame h2 (fun v hv hn => f2 v hv (hb9.1 v hv hn))
    · exact BRS_frame (G := G) (be := be) f1 f2 (fun a a6 a11 i hi => f3 a a6 a11 i (by omega)) (fun b' hb' => hl b' (List.mem_cons_of_mem _ hb')) h5
theorem LOW_up {BR : List BRN} {be be2 : Bnd} {G G2 : Nat} (h : LOW BR be G) (hb9 : ∀ v : Nat, v < 5 → be v ≠ none → be2 v ≠ none) (hG : G ≤ G2) : LOW BR be2 G2 := fun b hb' => ⟨fun v hv hn => hb9 v hv ((h b hb').1 v hv hn), by have := (h b hb').2; omega⟩
/-- how many moves a search takes -/
def sm (f : Nat → Nat) : Nat → Nat → Nat
  | _, 0 => 0
  | k, j + 1 => 1 + f k + sm f (k + 1) j
def MV (so : Nat → Nat) (un : Nat → Option Nat) (las : Nat → Bool) (P : List Nat) : Nat → List GoalC → Bnd → Nat → Prop
  | 0, _, _, _ => False
  | d + 1, C, be, m => 1 ≤ m ∧ (∀ (C2 : List GoalC) (be2 : Bnd), DET so un C be C2 be2 → ∃ m2 : Nat, m2 + 1 ≤ m ∧ MV so un las P d C2 be2 m2) ∧
      ∀ (R : GoalC) (C0 : List GoalC) (bp lim : Nat), BRC so un las P C be R C0 bp lim → ∃ f : Nat → Nat, 2 + sm f 0 lim ≤ m ∧ ∀ wy : Nat, wy < lim → ∀ (C2 : List GoalC) (be2 : Bnd), WAY so un R C0 be bp wy C2 be2 → MV so un las P d C2 be2 (f wy)
def BRV (so : Nat → Nat) (un : Nat → Option Nat) (las : Nat → Bool) (P : List Nat) : List BRN → Nat → Prop
  | [], _ => True
  | b :: BR, M => ∃ (d : Nat) (f : Nat → Nat) (M' : Nat), 1 + sm f (brK b) (brL b - brK b) + M' ≤ M ∧ (∀ wy : Nat, brK b ≤ wy → wy < brL b → ∀ (C2 : List GoalC) (be2 : Bnd), WAY so un (brR b) (brC b) (brB b) (brP b) wy C2 be2 → MV so un las P d C2 be2 (f wy)) ∧ BRV so un las P BR M'
/-! goals stay over the pattern's variables -/
theorem pts_sub {p q : List Nat} {c : Nat} (hw : wf 1 p) (hq : q ∈ pts p) (hc : c ∈ q) : c ∈ p := by
  rw [row_pts hw]
  exact List.mem_cons_of_mem _ (List.mem_flatten.mpr ⟨q, hq, hc⟩)
theorem VPC_rem {so : Nat → Nat} {un : Nat → Option Nat} {P p t : List Nat} {left rest : Nat} (hw : wf 1 p) (hp : ∀ c ∈ p, c < 512 → c ∈ P) (hk : kd so p = 2) : VPC so P (remC so un p left t rest) := fun g hg => by
  unfold remC at hg
  split at hg
  · exact absurd hg List.not_mem_nil
  · rename_i q e
    rw [List.mem_singleton.mp hg]
    have hq : q ∈ pts p := sl_sub.subset (show q ∈ sl left (pts p) by rw [e]; exact List.mem_singleton.mpr rfl)
    exact ⟨fun c hc h5 => hp c (pts_sub hw hq hc) h5, fun _ => rfl⟩
  · rw [List.mem_singleton.mp hg]
    exact ⟨hp, fun h => absurd hk h⟩
theorem VPC_app {so : Nat → Nat} {P : List Nat} {C D : List GoalC} (h : VPC so P C) (h' : VPC so P D) : VPC so P (C ++ D) := fun g hg => by
  rcases List.mem_append.mp hg with z | z
  · exact h g z
  · exact h' g z
theorem VPC_tl {so : Nat → Nat} {P : List Nat} {g : GoalC} {C : List GoalC} (h : VPC so P (g :: C)) : VPC so P C := fun z hz => h z (List.mem_cons_of_mem _ hz)
theorem VPC_cons {so : Nat → Nat} {P : List Nat} {g : GoalC} {C : List GoalC} (h : (∀ c ∈ g.1, c < 512 → c ∈ P) ∧ (kd so g.1 ≠ 2 → g.2.1 = 63)) (h' : VPC so P C) : VPC so P (g :: C) := fun z hz => by
  rcases List.mem_cons.mp hz with e | e
  · rw [e]; exact h
  · exact h' z e
theorem DMP_bup {P : List Nat} {be : Bnd} {c : Nat} {t : List Nat} (h : DMP P be) (hc : c ∈ P) : DMP P (bup be c t) := fun v hv hn => by
  by_cases e : v = c
  · rw [e]; exact hc
  · rw [bup_ne e] at hn; exact h v hv hn
theorem VPC_det {so ma : Nat → Nat} {un : Nat → Option Nat} {nv : Nat} {AL : List Nat → Prop} {P : List Nat} {C C2 : List GoalC} {be be2 : Bnd} (hg : GOK AL so ma un nv C) (h : VPC so P C) (hd : DMP P be) (hD : DET so un C be C2 be2) : VPC so P C2 ∧ DMP P be2 := by
  cases C with
  | nil => exact hD.elim
  | cons g C0 =>
    have tk := (hg g List.mem_cons_self).1
    have hw := tk.1.1.1
    have hv := (h g List.mem_cons_self).1
    have h0 := VPC_tl h
    rcases hD with ⟨e1, e2, _⟩ | ⟨c, c1, c2, c3, c4, c5⟩ | ⟨k1, k2, k3, k4, D, d1, d2⟩ | ⟨k1, k2, left, rest, _, _, _, _, e⟩
    · rw [e1, e2]; exact ⟨h0, hd⟩
    · rw [c4, c5]
      exact ⟨h0, DMP_bup hd (hv c (by rw [c1]; exact List.mem_singleton.mpr rfl) (by omega))⟩
    · rw [k4, d2]
      refine ⟨VPC_app (fun z hz => ?_) h0, hd⟩
      obtain ⟨z1, z2, _⟩ := zg_mem (d1.mem_iff.mp hz)
      exact ⟨fun c hc h5 => hv c (pts_sub hw z1 hc) h5, fun _ => z2⟩
    · rw [k2, e]
      exact ⟨VPC_app (VPC_rem hw hv k1) h0, hd⟩
theorem VPC_brc {so : Nat → Nat} {un : Nat → Option Nat} {las : Nat → Bool} {P : List Nat} {C C0 : List GoalC} {R : GoalC} {be : Bnd} {bp lim : Nat} (h : VPC so P C) (hD : BRC so un las P C be R C0 bp lim) : VPC so P (R :: C0) := by
  cases C with
  | nil => exact hD.elim
  | cons g C1 =>
    obtain ⟨e0, hD⟩ := hD
    rw [e0]
    rcases hD with ⟨k1, k2, _⟩ | ⟨k1, left, rest, _, _, _, _, e, _⟩
    · rw [k2]; exact h
    · rw [e]
      exact VPC_cons ⟨(h g List.mem_cons_self).1, fun z => absurd k1 z⟩ (VPC_tl h)
theorem BKN_brc {so : Nat → Nat} {un : Nat → Option Nat} {las : Nat → Bool} {P : List Nat} {C C0 : List GoalC} {R : GoalC} {be : Bnd} {bp lim : Nat} (hD : BRC so un las P C be R C0 bp lim) : BKN so un be R bp lim := by
  cases C with
  | nil => exact hD.elim
  | cons g C1 =>
    obtain ⟨e0, hD⟩ := hD
    rcases hD with ⟨k1, k2, k3, k4, k5⟩ | ⟨k1, left, rest, l1, l2, _, l3, e, l4, l5, l6⟩
    · rw [k2]; exact Or.inl ⟨k1, k3, k4, k5⟩
    · refine Or.inr ?_
      rw [e] at l6 ⊢
      exact ⟨k1, fun i hi => ⟨(l1.2 i hi).1, (l1.2 i hi).2.2⟩, l4, l6⟩
theorem VPC_way {so ma : Nat → Nat} {un : Nat → Option Nat} {nv : Nat} {AL : List Nat → Prop} {P : List Nat} {R : GoalC} {C0 C2 : List GoalC} {be be2 : Bnd} {bp wy : Nat} (hg : GOK AL so ma un nv (R :: C0)) (h : VPC so P (R :: C0)) (hd : DMP P be) (hW : WAY so un R C0 be bp wy C2 be2) : VPC so P C2 ∧ DMP P be2 := by
  have tk := (hg R List.mem_cons_self).1
  have hw := tk.1.1.1
  have hv := (h R List.mem_cons_self).1
  have h0 := VPC_tl h
  rcases hW with ⟨k1, k2, p1, p2, t1, t2, e1, e2, e3⟩ | ⟨k1, lf, rs, _, _, ⟨l0, c, c1, c2, c3, c4, c5, c6⟩ | ⟨l0, l1, l2, l3⟩⟩
  · rw [k2]
    have m1 : ∀ c ∈ p1, c < 512 → c ∈ P := fun c hc h5 => hv c (pts_sub hw (by rw [e1]; exact List.mem_cons_self) hc) h5
    have m2 : ∀ c ∈ p2, c < 512 → c ∈ P := fun c hc h5 => hv c (pts_sub hw (by rw [e1]; exact List.mem_cons_of_mem _ List.mem_cons_self) hc) h5
    refine ⟨?_, hd⟩
    rw [e3]
    split
    · exact VPC_cons ⟨m1, fun _ => rfl⟩ (VPC_cons ⟨m2, fun _ => rfl⟩ h0)
    · exact VPC_cons ⟨m1, fun _ => rfl⟩ (VPC_cons ⟨m2, fun _ => rfl⟩ h0)
  · have hq : [c] ∈ pts R.1 := by
      rw [← c1]
      apply nth_mem
      apply Classical.byContradiction
      intro g
      have : nth (pts R.1) bp = [] := by
        unfold nth
        rw [List.getD_eq_getElem?_getD, List.getElem?_eq_none (by omega)]; rfl
      rw [this] at c1; exact nomatch c1
    rw [c5, c6]
    exact ⟨VPC_app (VPC_rem hw hv k1) h0, DMP_bup hd (hv c (pts_sub hw hq (List.mem_singleton.mpr rfl)) (by omega))⟩
  · rw [l2, l3]
    refine ⟨VPC_cons ⟨fun c hc h5 => ?_, fun _ => rfl⟩ (VPC_app (VPC_rem hw hv k1) h0), hd⟩
    by_cases hb9 : bp < (pts R.1).length
    · exact hv c (pts_sub hw (nth_mem hb9) hc) h5
    · have : nth (pts R.1) bp = [] := by
        unfold nth
        rw [List.getD_eq_getElem?_getD, List.getElem?_eq_none (by omega)]; rfl
      have hc' : c ∈ nth (pts R.1) bp := hc
      rw [this] at hc'; exact absurd hc' List.not_mem_nil
