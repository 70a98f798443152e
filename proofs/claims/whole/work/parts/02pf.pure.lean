/-! ===== parts shared out ===== -/
def hd0 (t : List Nat) : Nat := t.headD 0
/-- of parts, each with the number of what it goes to (the last one first): those that go to one -/
def grp (i : Nat) : List Nat → List (List Nat) → List (List Nat)
  | x :: b, h :: d => if x = i then grp i b d ++ [h] else grp i b d
  | _, _ => []
def Vr (k : Nat) (one : Nat → Prop) (hop : Nat → Int32) : List Nat → List (List Nat) → Prop
  | [], [] => True
  | i :: b, h :: d => Vr k one hop b d ∧ i < k ∧ (∀ (i0 : Nat) (h0 : List Nat), b.head? = some i0 → d.head? = some h0 → h0 = h → i0 ≤ i) ∧ (one i → opI (hd0 h) = hop i ∧ i ∉ b)
  | _, _ => False
theorem Vr_len {k : Nat} {one : Nat → Prop} {hop : Nat → Int32} : ∀ {b : List Nat} {d : List (List Nat)}, Vr k one hop b d → b.length = d.length
  | [], [], _ => rfl
  | [], _ :: _, h => h.elim
  | _ :: _, [], h => h.elim
  | i :: b, x :: d, h => by simp [Vr_len h.1]
theorem grp_cons {i x : Nat} {b : List Nat} {h : List Nat} {d : List (List Nat)} : grp i (x :: b) (h :: d) = if x = i then grp i b d ++ [h] else grp i b d := rfl
theorem grp_mem {i : Nat} : ∀ {b : List Nat} {d : List (List Nat)} {q : List Nat}, q ∈ grp i b d → q ∈ d
  | [], _, _, h => absurd h List.not_mem_nil
  | _ :: _, [], _, h => absurd h List.not_mem_nil
  | x :: b, y :: d, q, h => by
    rw [grp_cons] at h
    split at h
    · rcases List.mem_append.mp h with g | g
      · exact List.mem_cons_of_mem _ (grp_mem g)
      · rw [List.mem_singleton.mp g]; exact List.mem_cons_self ..
    · exact List.mem_cons_of_mem _ (grp_mem h)
theorem grp_ne {i : Nat} : ∀ {b : List Nat} {d : List (List Nat)}, b.length = d.length → i ∈ b → grp i b d ≠ []
  | [], _, _, h => absurd h List.not_mem_nil
  | _ :: _, [], h, _ => by simp at h
  | x :: b, y :: d, h, hi => by
    rw [grp_cons]
    split
    · simp
    · rename_i hx
      rcases List.mem_cons.mp hi with g | g
      · exact absurd g.symm hx
      · exact grp_ne (by simpa using h) g
theorem perm_upd {f : Nat → List (List Nat)} {x : Nat} {h : List Nat} (g : Nat → List (List Nat)) (hg : ∀ i : Nat, i ≠ x → g i = f i) (hx : (g x).Perm (h :: f x)) : ∀ k : Nat, x < k → (((List.range k).map g).flatten).Perm (h :: ((List.range k).map f).flatten)
  | 0, hk => absurd hk (Nat.not_lt_zero x)
  | k + 1, hk => by
    rw [List.range_succ, List.map_append, List.map_append, List.flatten_append, List.flatten_append, List.map_singleton, List.map_singleton, List.flatten_singleton, List.flatten_singleton]
    by_cases q : x = k
    · have e : (List.range k).map g = (List.range k).map f := List.map_congr_left (fun i hi => hg i (by have := List.mem_range.mp hi; omega))
      rw [e, ← q]
      exact (hx.append_left _).trans List.perm_middle
    · rw [hg k (fun e => q e.symm)]
      exact ((perm_upd g hg hx k (by omega)).append_right (f k))
theorem grp_perm {k : Nat} {one : Nat → Prop} {hop : Nat → Int32} : ∀ {b : List Nat} {d : List (List Nat)}, Vr k one hop b d → (((List.range k).map (fun i => grp i b d)).flatten).Perm d
  | [], [], _ => by
    have : (((List.range k).map (fun i => grp i [] [])).flatten) = [] := by
      rw [List.flatten_eq_nil_iff]; intro l hl; obtain ⟨i, _, rfl⟩ := List.mem_map.mp hl; rfl
    rw [this]
  | [], _ :: _, h => h.elim
  | _ :: _, [], h => h.elim
  | x :: b, y :: d, h => by
    refine (perm_upd (f := fun i => grp i b d) (x := x) (h := y) (fun i => grp i (x :: b) (y :: d)) (fun i hi => ?_) ?_ k h.2.1).trans ((grp_perm h.1).cons y)
    · show grp i (x :: b) (y :: d) = grp i b d
      rw [grp_cons, if_neg (fun e => hi e.symm)]
    · show (grp x (x :: b) (y :: d)).Perm (y :: grp x b d)
      rw [grp_cons, if_pos rfl]; exact List.perm_append_singleton _ _
theorem least {P : Nat → Prop} : ∀ (n : Nat), P n → ∃ m : Nat, m ≤ n ∧ P m ∧ ∀ j : Nat, j < m → ¬ P j := by
  intro n
  induction n using Nat.strongRecOn with
  | ind n ih =>
    intro hn
    by_cases q : ∃ j : Nat, j < n ∧ P j
    · obtain ⟨j, hj, hp⟩ := q
      obtain ⟨m, h1, h2, h3⟩ := ih j hj hp
      exact ⟨m, by omega, h2, h3⟩
    · exact ⟨n, Nat.le_refl _, hn, fun j hj hp => q ⟨j, hj, hp⟩⟩
/-- rows in order that are shared out somehow are shared out so that of alike ones the first go first -/
theorem asg_ex {k : Nat} {one : Nat → Prop} {hop : Nat → Int32} : ∀ (rest : List (List Nat)) (b : List Nat) (d : List (List Nat)) (R : Nat → List (List Nat)),
    Vr k one hop b d → wfs rest → rest.Pairwise leL → (∀ i : Nat, i < k → (R i).Pairwise leL) → (((List.range k).map R).flatten).Perm rest →
    (∀ i : Nat, i < k → one i → ∃ y : List Nat, grp i b d ++ R i = [y] ∧ opI (hd0 y) = hop i) →
    (∀ (i0 : Nat) (h0 : List Nat), b.head? = some i0 → d.head? = some h0 → ∀ i' : Nat, i' < i0 → (R i').head? ≠ some h0) →
    ∃ b' : List Nat, Vr k one hop b' (rest.reverse ++ d) ∧ ∀ i : Nat, i < k → grp i b' (rest.reverse ++ d) = grp i b d ++ R i
  | [], b, d, R, hv, _, _, _, hp, _, _ => by
    have hn := List.flatten_eq_nil_iff.mp (List.perm_nil.mp hp)
    refine ⟨b, hv, fun i hi => ?_⟩
    rw [hn (R i) (List.mem_map.mpr ⟨i, List.mem_range.mpr hi, rfl⟩), List.append_nil]; rfl
  | h :: rest, b, d, R, hv, hw, hs, hR, hp, ho, hh => by
    have hs1 := List.pairwise_cons.mp hs
    have hwh := hw h (List.mem_cons_self ..)
    have hmem : ∀ i : Nat, i < k → ∀ q ∈ R i, q ∈ h :: rest := fun i hi q hq => hp.mem_iff.mp (List.mem_flatten.mpr ⟨R i, List.mem_map.mpr ⟨i, List.mem_range.mpr hi, rfl⟩, hq⟩)
    have hex : ∃ i : Nat, i < k ∧ (R i).head? = some h := by
      obtain ⟨l, hl, hhl⟩ := List.mem_flatten.mp (hp.mem_iff.mpr (List.mem_cons_self ..) : h ∈ ((List.range k).map R).flatten)
      obtain ⟨i, hi, rfl⟩ := List.mem_map.mp hl
      have hik := List.mem_range.mp hi
      refine ⟨i, hik, ?_⟩
      cases hRi : R i with
      | nil => rw [hRi] at hhl; exact absurd hhl List.not_mem_nil
      | cons y tl =>
        rw [hRi] at hhl
        have hy := hmem i hik y (by rw [hRi]; exact List.mem_cons_self ..)
        have l1 : leL h y := by
          rcases List.mem_cons.mp hy with g | g
          · rw [g]; exact Or.inr ((cmpL_eq hwh hwh).mpr rfl)
          · exact hs1.1 y g
        have l2 : leL y h := by
          rcases List.mem_cons.mp hhl with g | g
          · rw [g]; exact Or.inr ((cmpL_eq (hw y hy) (hw y hy)).mpr rfl)
          · have := hR i hik; rw [hRi] at this; exact (List.pairwise_cons.mp this).1 h g
        have e := leL_antisymm hwh (hw y hy) l1 l2
        rw [e]; rfl
    obtain ⟨n0, hn0⟩ := hex
    obtain ⟨i, _, ⟨hik, hih⟩, hmin⟩ := least (P := fun i => i < k ∧ (R i).head? = some h) n0 hn0
    obtain ⟨tl, hRi⟩ : ∃ tl, R i = h :: tl := by
      cases hRi : R i with
      | nil => rw [hRi] at hih; simp at hih
      | cons y tl => rw [hRi] at hih; simp at hih; exact ⟨tl, by rw [hih]⟩
    have hv1 : Vr k one hop (i :: b) (h :: d) := by
      refine ⟨hv, hik, fun i0 h0 e1 e2 e3 => ?_, fun hone => ?_⟩
      · rcases Nat.lt_or_ge i i0 with g | g
        · exact absurd (by rw [hih, e3]) (hh i0 h0 e1 e2 i g)
        · exact g
      · obtain ⟨y, e1, e2⟩ := ho i hik hone
        rw [hRi] at e1
        have hg : grp i b d = [] := by
          have := congrArg List.length e1
          simp at this; exact List.length_eq_zero_iff.mp (by omega)
        rw [hg, List.nil_append] at e1
        refine ⟨by rw [(List.cons.inj e1).1]; exact e2, fun hib => grp_ne (Vr_len hv) hib hg⟩
    have hperm : (((List.range k).map (fun j => if j = i then tl else R j)).flatten).Perm rest := by
      have := perm_upd (f := fun j => if j = i then tl else R j) (x := i) (h := h) R (fun j hj => by show R j = if j = i then tl else R j; rw [if_neg hj]) (by show (R i).Perm (h :: if i = i then tl else R i); rw [if_pos rfl, hRi]) k hik
      exact (List.perm_cons h).mp (this.symm.trans hp)
    obtain ⟨b', g1, g2⟩ := asg_ex rest (i :: b) (h :: d) (fun j => if j = i then tl else R j) hv1 (fun q hq => hw q (List.mem_cons_of_mem _ hq)) hs1.2
      (fun j hj => by
        show (if j = i then tl else R j).Pairwise leL
        split
        · have := hR i hik; rw [hRi] at this; exact (List.pairwise_cons.mp this).2
        · exact hR j hj) hperm
      (fun j hj hone => by
        obtain ⟨y, e1, e2⟩ := ho j hj hone
        refine ⟨y, ?_, e2⟩
        show grp j (i :: b) (h :: d) ++ (if j = i then tl else R j) = [y]
        rw [grp_cons]
        by_cases q : j = i
        · subst q
          rw [if_pos rfl, if_pos rfl, List.append_assoc]
          rw [hRi] at e1; exact e1
        · rw [if_neg (fun e => q e.symm), if_neg q]; exact e1)
      (fun i0 h0 e1 e2 i' hi' => by
        have e1' : i = i0 := by simpa using e1
        have e2' : h = h0 := by simpa using e2
        show (if i' = i then tl else R i').head? ≠ some h0
        rw [if_neg (by omega), ← e2']
        exact fun q => hmin i' (by omega) ⟨by omega, q⟩)
    have er : rest.reverse ++ h :: d = (h :: rest).reverse ++ d := by simp
    rw [er] at g1 g2
    refine ⟨b', g1, fun j hj => ?_⟩
    rw [g2 j hj, grp_cons]
    by_cases q : j = i
    · subst q
      rw [if_pos rfl]
      show grp j b d ++ [h] ++ (if j = j then tl else R j) = grp j b d ++ R j
      rw [if_pos rfl, List.append_assoc, hRi]; rfl
    · rw [if_neg (fun e => q e.symm)]
      show grp j b d ++ (if j = i then tl else R j) = grp j b d ++ R j
      rw [if_neg q]
/-! ===== filling, once more ===== -/
theorem filT_stab {so : Nat → Nat} {un : Nat → Option Nat} {sg : Nat → List Nat} : ∀ (d e : Nat) (t : List Nat), okt so t → t.length ≤ d → t.length ≤ e → filT so un sg d t = filT so un sg e t
  | 0, _, t, h, hd, _ => absurd (wf_pos h.1) (by omega)
  | _ + 1, 0, t, h, _, he => absurd (wf_pos h.1) (by omega)
  | d + 1, e + 1, [], h, _, _ => rfl
  | d + 1, e + 1, c :: l, h, hd, he => by
    simp only [List.length_cons] at hd he
    rw [filT_s, filT_s]
    have : (pts (c :: l)).map (filT so un sg d) = (pts (c :: l)).map (filT so un sg e) := List.map_congr_left (fun q hq => by
      have := pts_short h.1 hq
      exact filT_stab d e q (okt_pts h q hq) (by omega) (by omega))
    rw [this]
def fil (so : Nat → Nat) (un : Nat → Option Nat) (sg : Nat → List Nat) (t : List Nat) : List Nat := filT so un sg 21 t
theorem fil_op {so : Nat → Nat} {un : Nat → Option Nat} {sg : Nat → List Nat} {c : Nat} {l : List Nat} (h : okt so (c :: l)) (hl : (c :: l).length ≤ 21) (hc : ¬ c < 512) (ha : ar c ≠ 0) : fil so un sg (c :: l) = stand so un (c / 512 - 1) ((pts (c :: l)).map (fil so un sg)) := by
  simp only [List.length_cons] at hl
  have e : (pts (c :: l)).map (filT so un sg 20) = (pts (c :: l)).map (fil so un sg) := List.map_congr_left (fun q hq => by
    have := pts_short h.1 hq
    exact filT_stab 20 21 q (okt_pts h q hq) (by omega) (by omega))
  have e2 : fil so un sg (c :: l) = filT so un sg (20 + 1) (c :: l) := rfl
  rw [e2, filT_s, if_neg hc, if_neg ha, e]
/-- what the variables of a term have: terms as they stand -/
def von (so : Nat → Nat) (un : Nat → Option Nat) (sg : Nat → List Nat) (t : List Nat) : Prop := ∀ c ∈ t, c < 512 → nok so un (sg c) ∧ (sg c).length ≤ 20
theorem von_vok {so : Nat → Nat} {un : Nat → Option Nat} {sg : Nat → List Nat} {t : List Nat} (h : von so un sg t) : vok so sg 20 t := fun c hc q => ⟨(h c hc q).1.1, (h c hc q).2⟩
theorem fil_nok {so : Nat → Nat} {un : Nat → Option Nat} {sg : Nat → List Nat} (hsu : SU so un) : ∀ (d : Nat) (t : List Nat), okt so t → t.length ≤ d → t.length ≤ 21 → von so un sg t → nok so un (filT so un sg d t)
  | 0, t, h, hd, _, _ => absurd (wf_pos h.1) (by omega)
  | d + 1, [], h, _, _, _ => absurd (wf_pos h.1) (by simp)
  | d + 1, c :: l, h, hd, h21, hv => by
    have hk := (filT_ok (un := un) hsu (d + 1) (c :: l) h hd h21 (von_vok hv)).1
    simp only [List.length_cons] at hd h21
    rw [filT_s] at hk ⊢
    by_cases q : c < 512
    · rw [if_pos q]; exact (hv c (List.mem_cons_self ..) q).1
    · rw [if_neg q] at hk ⊢
      by_cases q4 : ar c = 0
      · rw [if_pos q4] at hk ⊢; exact ⟨hk, nf_leaf q4⟩
      · rw [if_neg q4] at hk ⊢
        obtain ⟨q1, q2, q3⟩ := okt_op h q
        obtain ⟨k1, k2, k3⟩ := pts_of h.1
        have ih : ∀ t ∈ pts (c :: l), nok so un (filT so un sg d t) ∧ (filT so un sg d t).length ≤ 21 * t.length := fun t ht => by
          have hs := pts_short h.1 ht
          exact ⟨fil_nok hsu d t (okt_pts h t ht) (by omega) (by omega) (fun e he => hv e (mem_pts h.1 ht he)), (filT_ok (un := un) hsu d t (okt_pts h t ht) (by omega) (by omega) (von_vok (fun e he => hv e (mem_pts h.1 ht he)))).2⟩
        have hfl := map_flat_len (g := filT so un sg d) (K := 21) (ts := pts (c :: l)) (fun t ht => (ih t ht).2)
        rw [k3] at hfl
        exact stand_nf hsu q3 (fun t ht => by
          obtain ⟨u, hu, rfl⟩ := List.mem_map.mp ht
          exact (ih u hu).1) (fun e => by
            have := congrArg List.length e
            rw [List.length_map, k2] at this; exact q4 this) (by omega)
