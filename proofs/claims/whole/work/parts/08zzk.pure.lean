/-! ===== the stepper: where nothing can match ===== -/
/-- what a sum without a unit becomes: the sum of at least as many parts -/
theorem sum_parts {so ma : Nat → Nat} {un : Nat → Option Nat} {nv : Nat} {sg : Sbs} {l : List Nat} (hsv : SV so un ma nv) (hl : tok so un ma nv l) (hk : kd so l = 2) (ho : opn l < 10 ∧ so (opn l) ≠ 3) (hu : un (opn l) = none) (hv : von so un sg l) : isop (opn l) (fil so un sg l) = true ∧ ar (hd0 l) ≤ (pts (fil so un sg l)).length := by
  have hsu := SV_SU hsv
  obtain ⟨s1, s2, s3, s4⟩ := sum_ar hl hk
  have l20 := tok_len hl
  have pl := pts_len hl.1.1.1
  have rl := congrArg List.length (row_pts hl.1.1.1)
  rw [List.length_cons] at rl
  obtain ⟨n1, n2⟩ := fils_ok (sg := sg) (so := so) (un := un) (ma := ma) (nv := nv) hsu (Q := pts l) (fun q hq => ⟨tok_pts hl q hq, fun c hc h5 => hv c (pts_sub hl.1.1.1 hq hc) h5⟩) (by omega)
  have ge := flats_ge (op := opn l) hu (noks_okts n1)
  rw [List.length_map] at ge
  have e : fil so un sg l = stand so un (opn l) ((pts l).map (fil so un sg)) := by
    have er := row_pts hl.1.1.1
    have hh : okt so (hd0 l :: (pts l).flatten) := by rw [← er]; exact hl.1.1
    have := fil_op (so := so) (un := un) (sg := sg) (c := hd0 l) (l := (pts l).flatten) hh (by rw [← er]; omega) (by omega) (by omega)
    rw [← er] at this
    exact this
  have hp := stys_perm (so := so) (un := un) (op := opn l) (ts := (pts l).map (fil so un sg))
  have hlen := hp.length_eq
  have hfl := flats_len (so := so) (un := un) (op := opn l) (okts_wfs (noks_okts n1))
  have hw : wfs (stys so un (opn l) ((pts l).map (fil so un sg))) := wfs_perm hp (okts_wfs (flats_okts (noks_okts n1)))
  have hlt : (stys so un (opn l) ((pts l).map (fil so un sg))).length < 512 := by
    have := wf_len (wf_flat hw)
    have hpf := (hp.flatten).length_eq
    omega
  rw [e, stand_stys, mkt_many (fun _ => by omega), pts_mk hw (ar_code hlt)]
  constructor
  · show (decide (512 ≤ cdo (opn l) _) && decide (cdo (opn l) _ / 512 - 1 = opn l)) = true
    rw [Bool.and_eq_true, decide_eq_true_eq, decide_eq_true_eq]
    unfold cdo
    omega
  · omega
theorem match_head {so ma : Nat → Nat} {un : Nat → Option Nat} {nv : Nat} {sg : Sbs} {l s : List Nat} (hsv : SV so un ma nv) (hs2 : ∀ o : Nat, so o ≠ 3 → so o ≤ 2) (hl : tok so un ma nv l) (hs : tok so un ma nv s) (h5 : 512 ≤ hd0 l) (ho : opn l < 10 ∧ so (opn l) ≠ 3) (hn : ¬ (kd so l = 2 ∧ un (opn l) ≠ none)) (hm : MTG so un l s sg) : isop (opn l) s = true := by
  by_cases k2 : kd so l = 2
  · have hu : un (opn l) = none := by
      apply Classical.byContradiction
      intro g
      exact hn ⟨k2, g⟩
    rw [← hm.2]
    exact (sum_parts hsv hl k2 ho hu hm.1).1
  · have e := fil_hd hsv hl hs h5 k2 hs2 hm.1 hm.2
    exact (isop_hd hs.1.1.1).mpr ⟨by omega, by rw [e]; rfl⟩
