/-! ===== the nodes that a search can ask for ===== -/
def allsub : List (List Nat) → List (List (List Nat))
  | [] => [[]]
  | x :: xs => allsub xs ++ (allsub xs).map (fun X => x :: X)
theorem allsub_len : ∀ {xs : List (List Nat)}, (allsub xs).length = 2 ^ xs.length
  | [] => rfl
  | x :: xs => by
    show (allsub xs ++ (allsub xs).map (fun X => x :: X)).length = _
    rw [List.length_append, List.length_map, allsub_len, List.length_cons, Nat.pow_succ]; omega
theorem allsub_mem {X xs : List (List Nat)} (h : X.Sublist xs) : X ∈ allsub xs := by
  induction h with
  | slnil => exact List.mem_singleton.mpr rfl
  | cons x _ ih => exact List.mem_append_left _ ih
  | cons_cons x _ ih => exact List.mem_append_right _ (List.mem_map.mpr ⟨_, ih, rfl⟩)
theorem allsub_sub : ∀ {xs X : List (List Nat)}, X ∈ allsub xs → X.Sublist xs
  | [], X, h => by rw [List.mem_singleton.mp h]; exact List.Sublist.refl _
  | x :: xs, X, h => by
    rcases List.mem_append.mp h with g | g
    · exact (allsub_sub g).cons x
    · obtain ⟨Y, y1, y2⟩ := List.mem_map.mp g
      rw [← y2]
      exact (allsub_sub y1).cons_cons x
/-- a term and all that stands in it -/
def subs : Nat → List Nat → List (List Nat)
  | 0, _ => []
  | d + 1, t => t :: ((pts t).map (subs d)).flatten
theorem subs_self {d : Nat} {t : List Nat} (h : 1 ≤ d) : t ∈ subs d t := by
  obtain ⟨e, rfl⟩ : ∃ e : Nat, d = e + 1 := ⟨d - 1, by omega⟩
  exact List.mem_cons_self
theorem subs_tok {so ma : Nat → Nat} {un : Nat → Option Nat} {nv : Nat} : ∀ {d : Nat} {t : List Nat}, tok so un ma nv t → ∀ s ∈ subs d t, tok so un ma nv s
  | 0, _, _, s, hs => absurd hs List.not_mem_nil
  | d + 1, t, h, s, hs => by
    rcases List.mem_cons.mp hs with e | e
    · rw [e]; exact h
    · obtain ⟨l, l1, l2⟩ := List.mem_flatten.mp e
      obtain ⟨q, q1, q2⟩ := List.mem_map.mp l1
      rw [← q2] at l2
      exact subs_tok (tok_pts h q q1) s l2
theorem part_lt {t q : List Nat} (hw : wf 1 t) (hq : q ∈ pts t) : q.length < t.length := by
  have e := congrArg List.length (row_pts hw)
  rw [List.length_cons] at e
  have := (List.sublist_flatten_of_mem hq).length_le
  omega
theorem subs_pts {so ma : Nat → Nat} {un : Nat → Option Nat} {nv : Nat} : ∀ {d : Nat} {t : List Nat}, tok so un ma nv t → t.length ≤ d → ∀ s ∈ subs d t, ∀ q ∈ pts s, q ∈ subs d t
  | 0, _, _, _, s, hs, _, _ => absurd hs List.not_mem_nil
  | d + 1, t, h, hl, s, hs, q, hq => by
    rcases List.mem_cons.mp hs with e | e
    · rw [e] at hq
      have l := part_lt h.1.1.1 hq
      have tq := tok_pts h q hq
      have := wf_pos tq.1.1.1
      exact List.mem_cons_of_mem _ (List.mem_flatten.mpr ⟨_, List.mem_map.mpr ⟨q, hq, rfl⟩, subs_self (by omega)⟩)
    · obtain ⟨l, l1, l2⟩ := List.mem_flatten.mp e
      obtain ⟨z, z1, z2⟩ := List.mem_map.mp l1
      rw [← z2] at l2
      have l := part_lt h.1.1.1 z1
      exact List.mem_cons_of_mem _ (List.mem_flatten.mpr ⟨_, List.mem_map.mpr ⟨z, z1, rfl⟩, subs_pts (tok_pts h z z1) (by omega) s l2 q hq⟩)
def wS (so : Nat → Nat) (t : List Nat) : Nat := if kd so t = 2 then 2 ^ (pts t).length else 0
def smL : List Nat → Nat
  | [] => 0
  | a :: l => a + smL l
theorem smL_app : ∀ {l m : List Nat}, smL (l ++ m) = smL l + smL m
  | [], m => by show smL m = 0 + smL m; omega
  | a :: l, m => by show a + smL (l ++ m) = a + smL l + smL m; rw [smL_app]; omega
theorem smL_flat {f : List Nat → Nat} : ∀ {L : List (List (List Nat))}, smL (L.flatten.map f) = smL (L.map (fun X => smL (X.map f)))
  | [] => rfl
  | X :: L => by
    rw [List.flatten_cons, List.map_append, smL_app, smL_flat]; rfl
theorem pow11 : ∀ m : Fin 7, 2 ^ m.val ≤ 11 * m.val + 1 := by decide
theorem subs_count {so ma : Nat → Nat} {un : Nat → Option Nat} {nv : Nat} (hsv : SV so un ma nv) (hs2 : ∀ o : Nat, so o ≠ 3 → so o ≤ 2) : ∀ {d : Nat} {t : List Nat}, tok so un ma nv t → t.length ≤ d → smL ((subs d t).map (fun s => 1 + wS so s)) + 11 ≤ 13 * t.length
  | 0, t, h, hl => by
    have := wf_pos h.1.1.1
    omega
  | d + 1, t, h, hl => by
    have e := congrArg List.length (row_pts h.1.1.1)
    rw [List.length_cons] at e
    have pl := pts_len h.1.1.1
    have h6 : (pts t).length ≤ 6 := by rw [pl]; exact (tok_ar hsv hs2 h _ (hd0_mem h.1.1.1)).1
    have key : ∀ ps : List (List Nat), (∀ q ∈ ps, tok so un ma nv q ∧ q.length ≤ d) → smL ((ps.map (subs d)).flatten.map (fun s => 1 + wS so s)) + 11 * ps.length ≤ 13 * ps.flatten.length := by
      intro ps
      induction ps with
      | nil => intro _; exact Nat.le_refl _
      | cons p ps ih =>
        intro hp
        have h1 := hp p List.mem_cons_self
        have g1 := subs_count hsv hs2 h1.1 h1.2
        have g2 := ih (fun q hq => hp q (List.mem_cons_of_mem _ hq))
        rw [List.map_cons, List.flatten_cons, List.map_append, smL_app, List.flatten_cons, List.length_append, List.length_cons]
        omega
    have k := key (pts t) (fun q hq => ⟨tok_pts h q hq, by have := part_lt h.1.1.1 hq; omega⟩)
    have hw : wS so t ≤ 11 * (pts t).length + 1 := by
      unfold wS
      split
      · exact pow11 ⟨(pts t).length, by omega⟩
      · omega
    show 1 + wS so t + smL (((pts t).map (subs d)).flatten.map (fun s => 1 + wS so s)) + 11 ≤ 13 * t.length
    omega
def ALL (so : Nat → Nat) (un : Nat → Option Nat) (t : List Nat) : List (List Nat) :=
  subs 20 t ++ ((subs 20 t).map (fun s => if kd so s = 2 then (allsub (pts s)).map (mkt so un (opn s)) else [])).flatten ++ (List.range 10).map (fun u => [cdo u 0])
theorem smL_len {f : List Nat → List (List Nat)} : ∀ {L : List (List Nat)}, (L.map f).flatten.length = smL (L.map (fun s => (f s).length))
  | [] => rfl
  | s :: L => by
    rw [List.map_cons, List.flatten_cons, List.length_append, smL_len]; rfl
theorem smL_add {f : List Nat → Nat} : ∀ {L : List (List Nat)}, smL (L.map (fun s => 1 + f s)) = L.length + smL (L.map f)
  | [] => rfl
  | s :: L => by
    show 1 + f s + smL (L.map (fun s => 1 + f s)) = (L.length + 1) + (f s + smL (L.map f))
    rw [smL_add]; omega
theorem ALL_len {so ma : Nat → Nat} {un : Nat → Option Nat} {nv : Nat} {t : List Nat} (hsv : SV so un ma nv) (hs2 : ∀ o : Nat, so o ≠ 3 → so o ≤ 2) (h : tok so un ma nv t) : (ALL so un t).length ≤ 260 := by
  have h20 := tok_len h
  have c := subs_count hsv hs2 h h20
  rw [smL_add] at c
  unfold ALL
  rw [List.length_append, List.length_append, List.length_map, List.length_range, smL_len]
  have e : (fun s => (if kd so s = 2 then (allsub (pts s)).map (mkt so un (opn s)) else []).length) = wS so := by
    funext s
    unfold wS
    split
    · rw [List.length_map, allsub_len]
    · rfl
  rw [e]
  omega
theorem leaf_pts (u : Nat) : pts [cdo u 0] = [] := pts_mk (ts := []) (fun t ht => absurd ht List.not_mem_nil) (ar_code (by decide))
theorem mem_sub {so : Nat → Nat} {un : Nat → Option Nat} {t q : List Nat} (h : q ∈ subs 20 t) : q ∈ ALL so un t := List.mem_append_left _ (List.mem_append_left _ h)
theorem mem_mkt {so : Nat → Nat} {un : Nat → Option Nat} {t s : List Nat} {X : List (List Nat)} (h : s ∈ subs 20 t) (hk : kd so s = 2) (hX : X.Sublist (pts s)) : mkt so un (opn s) X ∈ ALL so un t := by
  refine List.mem_append_left _ (List.mem_append_right _ (List.mem_flatten.mpr ⟨_, List.mem_map.mpr ⟨s, h, rfl⟩, ?_⟩))
  rw [if_pos hk]
  exact List.mem_map.mpr ⟨X, allsub_mem hX, rfl⟩
theorem mem_unit {so : Nat → Nat} {un : Nat → Option Nat} {t : List Nat} {u : Nat} (h : u < 10) : [cdo u 0] ∈ ALL so un t := List.mem_append_right _ (List.mem_map.mpr ⟨u, List.mem_range.mpr h, rfl⟩)
/-- what a member is -/
theorem ALL_cases {so ma : Nat → Nat} {un : Nat → Option Nat} {nv : Nat} {t x : List Nat} (hsv : SV so un ma nv) (h : tok so un ma nv t) (hx : x ∈ ALL so un t) : x = [] ∨ (∃ u : Nat, x = [cdo u 0]) ∨ x ∈ subs 20 t ∨ ∃ (s : List Nat) (X : List (List Nat)), s ∈ subs 20 t ∧ kd so s = 2 ∧ X.Sublist (pts s) ∧ x = cdo (opn s) X.length :: X.flatten ∧ pts x = X := by
  rcases List.mem_append.mp hx with g | g
  · rcases List.mem_append.mp g with g | g
    · exact Or.inr (Or.inr (Or.inl g))
    · obtain ⟨l, l1, l2⟩ := List.mem_flatten.mp g
      obtain ⟨s, s1, s2⟩ := List.mem_map.mp l1
      rw [← s2] at l2
      by_cases k : kd so s = 2
      · rw [if_pos k] at l2
        obtain ⟨X, x1, x2⟩ := List.mem_map.mp l2
        have hX := allsub_sub x1
        have ts := subs_tok h s s1
        obtain ⟨z1, z2, z3, z4⟩ := sum_ar ts k
        rw [← x2]
        match X, hX with
        | [], _ =>
          cases hun : un (opn s) with
          | none =>
            left
            unfold mkt
            rw [if_pos z2]
            show (match un (opn s) with | none => [] | some u => [cdo u 0]) = []
            rw [hun]
          | some u => exact Or.inr (Or.inl ⟨u, mkt_nil z2 hun⟩)
        | [y], hX =>
          rw [mkt_one z2]
          exact Or.inr (Or.inr (Or.inl (subs_pts h (tok_len h) s s1 y (hX.subset (List.mem_singleton.mpr rfl)))))
        | y :: z :: Y, hX =>
          have e : mkt so un (opn s) (y :: z :: Y) = cdo (opn s) (y :: z :: Y).length :: (y :: z :: Y).flatten := mkt_many (fun _ => by simp)
          have hw : wfs (y :: z :: Y) := fun q hq => (tok_pts ts q (hX.subset hq)).1.1.1
          have hl := hX.length_le
          have e20 := congrArg List.length (row_pts ts.1.1.1)
          rw [List.length_cons] at e20
          have := wf_len (wf_flat (ts := pts s) (fun q hq => (tok_pts ts q hq).1.1.1))
          have t20 := tok_len ts
          rw [e]
          exact Or.inr (Or.inr (Or.inr ⟨s, _, s1, k, hX, rfl, pts_mk hw (ar_code (by omega))⟩))
      · rw [if_neg k] at l2; exact absurd l2 List.not_mem_nil
  · obtain ⟨u, _, u2⟩ := List.mem_map.mp g
    exact Or.inr (Or.inl ⟨u, u2.symm⟩)
theorem ALL_pts {so ma : Nat → Nat} {un : Nat → Option Nat} {nv : Nat} {t x : List Nat} (hsv : SV so un ma nv) (h : tok so un ma nv t) (hx : x ∈ ALL so un t) : ∀ q ∈ pts x, q ∈ ALL so un t := fun q hq => by
  rcases ALL_cases hsv h hx with e | ⟨u, e⟩ | e | ⟨s, X, s1, s2, s3, s4, s5⟩
  · rw [e] at hq; exact absurd hq List.not_mem_nil
  · rw [e, leaf_pts] at hq; exact absurd hq List.not_mem_nil
  · exact mem_sub (subs_pts h (tok_len h) x e q hq)
  · rw [s5] at hq
    exact mem_sub (subs_pts h (tok_len h) s s1 q (s3.subset hq))
theorem ALL_SS {so ma : Nat → Nat} {un : Nat → Option Nat} {nv op bits : Nat} {t x : List Nat} (hsv : SV so un ma nv) (h : tok so un ma nv t) (hx : x ∈ ALL so un t) (h2 : so op = 2) (hu : sl bits (flat1 so un op x) = [] → un op ≠ none) : SS so un op x bits ∈ ALL so un t := by
  have unit : sl bits (flat1 so un op x) = [] → SS so un op x bits ∈ ALL so un t := fun e => by
    unfold SS
    rw [e]
    cases hun : un op with
    | none => exact absurd hun (hu e)
    | some u =>
      rw [mkt_nil h2 hun]
      exact mem_unit (hsv.2.2.2 op u hun).2.1
  by_cases hi : isop op x = true
  · have ef : flat1 so un op x = pts x := by unfold flat1; rw [if_pos h2, if_pos hi]
    rcases ALL_cases hsv h hx with e | ⟨u, e⟩ | e | ⟨s, X, s1, s2, s3, s4, s5⟩
    · rw [e] at hi; exact nomatch (show false = true from hi)
    · exact unit (by rw [ef, e, leaf_pts]; rfl)
    · have ts := subs_tok h x e
      have hk : opn x = op ∧ kd so x = 2 := by
        cases x with
        | nil => exact nomatch (show false = true from hi)
        | cons c l =>
          have hh : (decide (512 ≤ c) && decide (c / 512 - 1 = op)) = true := hi
          rw [Bool.and_eq_true, decide_eq_true_eq, decide_eq_true_eq] at hh
          refine ⟨hh.2, ?_⟩
          unfold kd
          rw [if_neg (by show ¬ c < 512; omega)]
          show so (c / 512 - 1) = 2
          rw [hh.2]; exact h2
      unfold SS
      rw [ef, ← hk.1]
      exact mem_mkt e hk.2 sl_sub
    · have ho : opn s = op := by
        rw [s4] at hi
        have hh : (decide (512 ≤ cdo (opn s) X.length) && decide (cdo (opn s) X.length / 512 - 1 = op)) = true := hi
        rw [Bool.and_eq_true, decide_eq_true_eq, decide_eq_true_eq] at hh
        have hl := s3.length_le
        have ts := subs_tok h s s1
        have := wf_len (wf_flat (ts := pts s) (fun q hq => (tok_pts ts q hq).1.1.1))
        have e20 := congrArg List.length (row_pts ts.1.1.1)
        rw [List.length_cons] at e20
        have t20 := tok_len ts
        rw [← hh.2]
        unfold cdo
        omega
      unfold SS
      rw [ef, s5, ← ho]
      exact mem_mkt s1 s2 (sl_sub.trans s3)
  · by_cases hn : isun un op x = true
    · have ef : flat1 so un op x = [] := by unfold flat1; rw [if_pos h2, if_neg hi, if_pos hn]
      exact unit (by rw [ef]; rfl)
    · have ef : flat1 so un op x = [x] := by unfold flat1; rw [if_pos h2, if_neg hi, if_neg hn]
      by_cases b0 : bits.testBit 0 = false
      · exact unit (by rw [ef]; show (if bits.testBit 0 = false then [] else [x]) = []; rw [if_pos b0])
      · unfold SS
        rw [ef]
        have : sl bits [x] = [x] := by show (if bits.testBit 0 = false then [] else [x]) = [x]; rw [if_neg b0]
        rw [this, mkt_one h2]
        exact hx
theorem ALL_self {so ma : Nat → Nat} {un : Nat → Option Nat} {nv : Nat} {t : List Nat} : t ∈ ALL so un t := mem_sub (subs_self (by decide))
theorem ALL_room {so ma : Nat → Nat} {un : Nat → Option Nat} {nv : Nat} {t : List Nat} {N0 E : List (List Nat)} (hsv : SV so un ma nv) (hs2 : ∀ o : Nat, so o ≠ 3 → so o ≤ 2) (h : tok so un ma nv t) (hN : (N0 ++ E).Nodup) (hE : ∀ e ∈ E, e ∈ ALL so un t) : (N0 ++ E).length ≤ N0.length + 260 := by
  have h1 := nodup_le (List.nodup_append.mp hN).2.1 hE
  have h2 := ALL_len hsv hs2 h
  rw [List.length_append]
  omega
