/-! ===== terms taken off a row; rows in order ===== -/
def tk : Nat → List Nat → List Nat
  | 0, _ => []
  | _ + 1, [] => []
  | n + 1, c :: l => c :: tk (n + ar c) l
def dr : Nat → List Nat → List Nat
  | 0, l => l
  | _ + 1, [] => []
  | n + 1, c :: l => dr (n + ar c) l
theorem tk_0 (l : List Nat) : tk 0 l = [] := by cases l <;> rfl
theorem dr_0 (l : List Nat) : dr 0 l = l := by cases l <;> rfl
def kids : Nat → List Nat → List (List Nat)
  | 0, _ => []
  | n + 1, l => tk 1 l :: kids n (dr 1 l)
theorem tk_app : ∀ {l r : List Nat} {n : Nat}, wf n l → tk n (l ++ r) = l
  | [], r, n, h => by have : n = 0 := h; subst this; exact tk_0 _
  | c :: l, r, 0, h => absurd h.1 (Nat.lt_irrefl 0)
  | c :: l, r, n + 1, h => by
    have h2 := h.2
    rw [show n + 1 - 1 + ar c = n + ar c by omega] at h2
    show c :: tk (n + ar c) (l ++ r) = c :: l
    rw [tk_app h2]
theorem dr_app : ∀ {l r : List Nat} {n : Nat}, wf n l → dr n (l ++ r) = r
  | [], r, n, h => by have : n = 0 := h; subst this; exact dr_0 _
  | c :: l, r, 0, h => absurd h.1 (Nat.lt_irrefl 0)
  | c :: l, r, n + 1, h => by
    have h2 := h.2
    rw [show n + 1 - 1 + ar c = n + ar c by omega] at h2
    show dr (n + ar c) (l ++ r) = r
    exact dr_app h2
theorem kids_flat : ∀ {ts : List (List Nat)} {r : List Nat}, wfs ts → kids ts.length (ts.flatten ++ r) = ts
  | [], _, _ => rfl
  | t :: ts, r, h => by
    have h1 := h t (List.mem_cons_self ..)
    show tk 1 ((t ++ ts.flatten) ++ r) :: kids ts.length (dr 1 ((t ++ ts.flatten) ++ r)) = t :: ts
    rw [List.append_assoc, tk_app h1, dr_app h1, kids_flat (fun q hq => h q (List.mem_cons_of_mem _ hq))]
theorem kids_flat0 {ts : List (List Nat)} (h : wfs ts) : kids ts.length ts.flatten = ts := by
  have := kids_flat (r := []) h
  rw [List.append_nil] at this; exact this
/-- the parts of a term -/
def pts (t : List Nat) : List (List Nat) := match t with
  | [] => []
  | c :: l => kids (ar c) l
theorem pts_mk {c : Nat} {ts : List (List Nat)} (h : wfs ts) (hc : ar c = ts.length) : pts (c :: ts.flatten) = ts := by
  show kids (ar c) ts.flatten = ts
  rw [hc]; exact kids_flat0 h
theorem pts_of {c : Nat} {l : List Nat} (h : wf 1 (c :: l)) : wfs (pts (c :: l)) ∧ (pts (c :: l)).length = ar c ∧ (pts (c :: l)).flatten = l := by
  obtain ⟨ts, h1, h2, h3⟩ := wf_parts (wf_cons h)
  have : pts (c :: l) = ts := by rw [h3]; exact pts_mk h1 h2.symm
  rw [this]; exact ⟨h1, h2, h3.symm⟩
/-- a term is not behind another -/
def leL (a b : List Nat) : Prop := cmpL a b = -1 ∨ cmpL a b = 0
theorem cmpL_vals : ∀ (l r : List Nat), cmpL l r = -1 ∨ cmpL l r = 0 ∨ cmpL l r = 1
  | [], _ => Or.inr (Or.inl rfl)
  | _ :: _, [] => Or.inr (Or.inl rfl)
  | c :: l, d :: r => by
    unfold cmpL
    by_cases q : c = d
    · rw [if_pos q]; exact cmpL_vals l r
    · rw [if_neg q]; split
      · exact Or.inl rfl
      · exact Or.inr (Or.inr rfl)
theorem cmpL_swap : ∀ (l r : List Nat), cmpL r l = - cmpL l r
  | [], [] => rfl
  | [], _ :: _ => by simp [cmpL]
  | _ :: _, [] => by simp [cmpL]
  | c :: l, d :: r => by
    unfold cmpL
    by_cases q : c = d
    · subst q; rw [if_pos rfl, if_pos rfl]; exact cmpL_swap l r
    · rw [if_neg q, if_neg (fun e => q e.symm)]
      by_cases h : c < d
      · rw [if_pos h, if_neg (by omega)]; rfl
      · rw [if_neg h, if_pos (by omega)]
theorem leL_total (a b : List Nat) : leL a b ∨ leL b a := by
  unfold leL
  rw [cmpL_swap a b]
  rcases cmpL_vals a b with h | h | h <;> rw [h]
  · exact Or.inl (Or.inl rfl)
  · exact Or.inl (Or.inr rfl)
  · exact Or.inr (Or.inl rfl)
theorem leL_antisymm {a b : List Nat} {k : Nat} (ha : wf k a) (hb : wf k b) (h : leL a b) (h' : leL b a) : a = b := by
  unfold leL at h h'
  rw [cmpL_swap a b] at h'
  rcases h with h | h
  · rw [h] at h'; rcases h' with h' | h' <;> exact absurd h' (by decide)
  · exact (cmpL_eq ha hb).mp h
theorem leL_trans : ∀ {a b c : List Nat} {k : Nat}, wf k a → wf k b → wf k c → leL a b → leL b c → leL a c
  | [], _, _, _, _, _, _, _, _ => Or.inr rfl
  | x :: a, [], _, k, ha, hb, _, _, _ => by
    have e : k = 0 := hb
    have := ha.1; omega
  | x :: a, y :: b, [], k, ha, _, hc, _, _ => by
    have e : k = 0 := hc
    have := ha.1; omega
  | x :: a, y :: b, z :: c, k, ha, hb, hc, h, h' => by
    unfold leL cmpL at h h' ⊢
    by_cases q : x = y
    · subst q
      rw [if_pos rfl] at h
      by_cases q2 : x = z
      · subst q2
        rw [if_pos rfl] at h' ⊢
        exact leL_trans ha.2 hb.2 hc.2 h h'
      · rw [if_neg q2] at h' ⊢; exact h'
    · rw [if_neg q] at h
      have hxy : x < y := by
        rcases Nat.lt_or_ge x y with g | g
        · exact g
        · rw [if_neg (by omega)] at h; rcases h with h | h <;> exact absurd h (by decide)
      by_cases q2 : y = z
      · subst q2
        rw [if_neg q, if_pos hxy]; exact Or.inl rfl
      · rw [if_neg q2] at h'
        have hyz : y < z := by
          rcases Nat.lt_or_ge y z with g | g
          · exact g
          · rw [if_neg (by omega)] at h'; rcases h' with h' | h' <;> exact absurd h' (by decide)
        rw [if_neg (by omega), if_pos (by omega)]; exact Or.inl rfl
/-- rows in order -/
def insS (t : List Nat) : List (List Nat) → List (List Nat)
  | [] => [t]
  | x :: xs => if cmpL t x = 1 then x :: insS t xs else t :: x :: xs
def srt : List (List Nat) → List (List Nat)
  | [] => []
  | t :: ts => insS t (srt ts)
theorem insS_perm (t : List Nat) : ∀ xs : List (List Nat), (insS t xs).Perm (t :: xs)
  | [] => List.Perm.refl _
  | x :: xs => by
    unfold insS
    split
    · exact ((insS_perm t xs).cons x).trans (List.Perm.swap t x xs)
    · exact List.Perm.refl _
theorem srt_perm : ∀ ts : List (List Nat), (srt ts).Perm ts
  | [] => List.Perm.refl _
  | t :: ts => (insS_perm t (srt ts)).trans ((srt_perm ts).cons t)
theorem insS_sorted {t : List Nat} : ∀ {xs : List (List Nat)}, wf 1 t → wfs xs → xs.Pairwise leL → (insS t xs).Pairwise leL
  | [], _, _, _ => List.pairwise_singleton _ _
  | x :: xs, ht, hx, h => by
    have h1 := List.pairwise_cons.mp h
    unfold insS
    have hx1 := hx x (List.mem_cons_self ..)
    have hx2 : wfs xs := fun q hq => hx q (List.mem_cons_of_mem _ hq)
    split
    · rename_i e
      refine List.pairwise_cons.mpr ⟨fun y hy => ?_, insS_sorted ht hx2 h1.2⟩
      rcases List.mem_cons.mp ((insS_perm t xs).mem_iff.mp hy) with q | q
      · rw [q]; unfold leL; rw [cmpL_swap t x, e]; exact Or.inl rfl
      · exact h1.1 y q
    · rename_i e
      have hle : leL t x := by
        rcases cmpL_vals t x with q | q | q
        · exact Or.inl q
        · exact Or.inr q
        · exact absurd q e
      refine List.pairwise_cons.mpr ⟨fun y hy => ?_, h⟩
      rcases List.mem_cons.mp hy with q | q
      · rw [q]; exact hle
      · exact leL_trans ht hx1 (hx2 y q) hle (h1.1 y q)
theorem wfs_perm {xs ys : List (List Nat)} (h : xs.Perm ys) (hw : wfs ys) : wfs xs := fun t ht => hw t (h.mem_iff.mp ht)
theorem srt_sorted : ∀ {ts : List (List Nat)}, wfs ts → (srt ts).Pairwise leL
  | [], _ => List.Pairwise.nil
  | t :: ts, h => insS_sorted (h t (List.mem_cons_self ..)) (wfs_perm (srt_perm ts) (fun q hq => h q (List.mem_cons_of_mem _ hq))) (srt_sorted (fun q hq => h q (List.mem_cons_of_mem _ hq)))
/-- two orders of the same rows are one -/
theorem sorted_uniq : ∀ {xs ys : List (List Nat)}, wfs xs → xs.Perm ys → xs.Pairwise leL → ys.Pairwise leL → xs = ys
  | [], ys, _, h, _, _ => (List.Perm.nil_eq h)
  | x :: xs, [], _, h, _, _ => absurd h.symm (fun q => by have := q.length_eq; simp at this)
  | x :: xs, y :: ys, hw, h, h1, h2 => by
    have p1 := List.pairwise_cons.mp h1
    have p2 := List.pairwise_cons.mp h2
    have hy : wfs (y :: ys) := wfs_perm h.symm hw
    have hx1 := hw x (List.mem_cons_self ..)
    have hy1 := hy y (List.mem_cons_self ..)
    have e : x = y := by
      have m1 : x ∈ y :: ys := h.mem_iff.mp (List.mem_cons_self ..)
      have m2 : y ∈ x :: xs := h.mem_iff.mpr (List.mem_cons_self ..)
      have l1 : leL x y := by
        rcases List.mem_cons.mp m2 with q | q
        · rw [q]; exact Or.inr ((cmpL_eq hx1 hx1).mpr rfl)
        · exact p1.1 y q
      have l2 : leL y x := by
        rcases List.mem_cons.mp m1 with q | q
        · rw [q]; exact Or.inr ((cmpL_eq hy1 hy1).mpr rfl)
        · exact p2.1 x q
      exact leL_antisymm hx1 hy1 l1 l2
    subst e
    rw [sorted_uniq (fun q hq => hw q (List.mem_cons_of_mem _ hq)) ((List.perm_cons x).mp h) p1.2 p2.2]
theorem srt_of {xs ys : List (List Nat)} (hw : wfs ys) (hp : xs.Perm ys) (hs : xs.Pairwise leL) : xs = srt ys :=
  sorted_uniq (wfs_perm hp hw) (hp.trans (srt_perm ys).symm) hs (srt_sorted hw)
