/-! ===== matches of a sum ===== -/
def nth (ps : List (List Nat)) (i : Nat) : List Nat := ps.getD i []
theorem nth_mem {ps : List (List Nat)} {i : Nat} (h : i < ps.length) : nth ps i ∈ ps := by
  unfold nth; rw [List.getD_eq_getElem?_getD, List.getElem?_eq_getElem h]; exact List.getElem_mem h
theorem map_nth {α : Type} {ps : List (List Nat)} {g : List Nat → α} : ps.map g = (List.range ps.length).map (fun i => g (nth ps i)) := by
  apply List.ext_getElem
  · simp
  · intro i h1 h2
    simp only [List.length_map] at h1
    simp [nth, List.getD_eq_getElem?_getD, List.getElem?_eq_getElem h1]
theorem grp_sorted {i : Nat} : ∀ {b : List Nat} {d : List (List Nat)}, d.reverse.Pairwise leL → (grp i b d).Pairwise leL
  | [], _, _ => List.Pairwise.nil
  | _ :: _, [], _ => List.Pairwise.nil
  | x :: b, y :: d, h => by
    rw [List.reverse_cons] at h
    have h1 := List.pairwise_append.mp h
    rw [grp_cons]
    split
    · refine List.pairwise_append.mpr ⟨grp_sorted h1.1, List.pairwise_singleton _ _, fun a ha c hc => ?_⟩
      exact h1.2.2 a (List.mem_reverse.mpr (grp_mem ha)) c hc
    · exact grp_sorted h1.1
theorem ac_iff {so : Nat → Nat} {un : Nat → Option Nat} {sg : Nat → List Nat} {op c : Nat} {l t : List Nat} (hsu : SU so un) (ho : op < 10 ∧ so op ≠ 3) (h2 : so op = 2) (h : nok so un (c :: l)) (hl : (c :: l).length ≤ 20) (hi : isop op (c :: l) = true) (hv : von so un sg (c :: l)) (ht : nok so un t) (htl : t.length ≤ 20) :
    fil so un sg (c :: l) = t ↔ ∃ b : List Nat, Vr (pts (c :: l)).length (fun i => isOneP so un (nth (pts (c :: l)) i)) (fun i => opI (hd0 (nth (pts (c :: l)) i))) b (flat1 so un op t).reverse ∧ ∀ i : Nat, i < (pts (c :: l)).length → fil so un sg (nth (pts (c :: l)) i) = mkt so un op (grp i b (flat1 so un op t).reverse) := by
  obtain ⟨q1, q2⟩ := isop_head hi
  obtain ⟨k1, k2, k3⟩ := pts_of h.1.1
  have hc : ¬ c < 512 := by omega
  have har : 2 ≤ ar c := (h.1.2.2 c (List.mem_cons_self ..) q1).2 (by rw [q2]; exact h2)
  have hfo := fil_parts hsu h.1 hl hv
  obtain ⟨s1, s2, s3, s4⟩ := nf_sum hsu ho h2 h hi (by omega)
  obtain ⟨a1, a2, a3, a4⟩ := nf_as hsu ho h2 ht (by omega)
  have hwt := okts_wfs (noks_okts a4)
  have hst : (flat1 so un op t).Pairwise leL := by rw [← a2]; exact srt_sorted hwt
  have hps : ∀ i : Nat, i < (pts (c :: l)).length → okt so (nth (pts (c :: l)) i) ∧ (nth (pts (c :: l)) i).length ≤ 20 ∧ von so un sg (nth (pts (c :: l)) i) ∧ plain so un op (nth (pts (c :: l)) i) ∧ nok so un (fil so un sg (nth (pts (c :: l)) i)) ∧ (fil so un sg (nth (pts (c :: l)) i)).length < 512 := fun i hi' => by
    have hm := nth_mem hi'
    have hs := pts_short h.1.1 hm
    simp only [List.length_cons] at hl
    have hvi : von so un sg (nth (pts (c :: l)) i) := fun e he => hv e (mem_pts h.1.1 hm he)
    have hoi := okt_pts h.1 _ hm
    have hln := (filT_ok (un := un) hsu 21 _ hoi (by omega) (by omega) (von_vok hvi)).2
    exact ⟨hoi, by omega, hvi, s1 _ hm, fil_nok hsu 21 _ hoi (by omega) (by omega) hvi, by show (filT so un sg 21 _).length < 512; omega⟩
  rw [fil_op h.1 (by omega) hc (by omega), q2, stand_eq hsu ho h2 hfo.1 (map_ne h.1 (by omega)) hfo.2 ht (by omega), flats_map, List.map_map, map_nth]
  constructor
  · intro hp
    have hasof : ∀ i : Nat, i < (pts (c :: l)).length → _ := fun i hi' => nf_as (un := un) (op := op) hsu ho h2 (hps i hi').2.2.2.2.1 (hps i hi').2.2.2.2.2
    obtain ⟨b, g1, g2⟩ := asg_ex (k := (pts (c :: l)).length) (one := fun i => isOneP so un (nth (pts (c :: l)) i)) (hop := fun i => opI (hd0 (nth (pts (c :: l)) i))) (flat1 so un op t) [] [] (fun i => flat1 so un op (fil so un sg (nth (pts (c :: l)) i))) trivial hwt hst
      (fun i hi' => by
        obtain ⟨_, b2, _, b4⟩ := hasof i hi'
        show (flat1 so un op _).Pairwise leL
        rw [← b2]; exact srt_sorted (okts_wfs (noks_okts b4))) hp
      (fun i hi' hone => by
        obtain ⟨p1, p2, p3, p4, _⟩ := hps i hi'
        obtain ⟨r1, r2⟩ := one_plain hsu ho h2 p1 p2 p3 p4 hone
        exact ⟨fil so un sg (nth (pts (c :: l)) i), r1, r2⟩)
      (fun i0 h0 e => by simp at e)
    rw [List.append_nil] at g1 g2
    refine ⟨b, g1, fun i hi' => ?_⟩
    rw [g2 i hi']
    exact (hasof i hi').2.2.1.symm
  · rintro ⟨b, g1, g2⟩
    have e : ∀ i : Nat, i < (pts (c :: l)).length → flat1 so un op (fil so un sg (nth (pts (c :: l)) i)) = grp i b (flat1 so un op t).reverse := fun i hi' => by
      rw [g2 i hi']
      have hgm : ∀ q ∈ grp i b (flat1 so un op t).reverse, q ∈ flat1 so un op t := fun q hq => List.mem_reverse.mp (grp_mem hq)
      refine flat1_mkt hsu ho h2 (fun q hq => a1 q (hgm q hq)) (fun q hq => hwt q (hgm q hq)) ?_ (fun e0 hun => ?_)
      · have hlb := Vr_len g1
        have : (grp i b (flat1 so un op t).reverse).length ≤ (flat1 so un op t).reverse.length := by
          have gen : ∀ (b : List Nat) (d : List (List Nat)), (grp i b d).length ≤ d.length := by
            intro b
            induction b with
            | nil => intro d; simp [grp]
            | cons x b ih =>
              intro d
              cases d with
              | nil => simp [grp]
              | cons y d =>
                rw [grp_cons]
                have := ih d
                split
                · simp; omega
                · simp; omega
          exact gen _ _
        have hfl := (flat1_len (so := so) (un := un) (op := op) ht.1.1).1
        rw [List.length_reverse] at this; omega
      · have := g2 i hi'
        rw [e0] at this
        have hz : mkt so un op [] = [] := by unfold mkt; rw [if_pos h2, hun]
        rw [hz] at this
        have hk := (hps i hi').2.2.2.2.1.1.1
        rw [this] at hk
        exact absurd (wf_pos hk) (by simp)
    have e2 : (List.range (pts (c :: l)).length).map (fun i => (flat1 so un op ∘ fil so un sg) (nth (pts (c :: l)) i)) = (List.range (pts (c :: l)).length).map (fun i => grp i b (flat1 so un op t).reverse) :=
      List.map_congr_left (fun i hi' => e i (List.mem_range.mp hi'))
    rw [e2]
    exact (grp_perm g1).trans (List.reverse_perm _)
