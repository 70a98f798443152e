/-! ===== solves ===== -/
theorem sol_none {so : Nat → Nat} {un : Nat → Option Nat} {pv : Int32} {G : List Goal} {be : Nat → Option (List Nat)} {pa ta c : Nat} {l t k : List Nat} (hsu : SU so un) (h : nok so un (c :: l)) (hl : (c :: l).length ≤ 20) (hc : ¬ c < 512) (h2 : so (c / 512 - 1) ≠ 2) (hd : hd0 t ≠ c) : ¬ Sol so un pv ((pa, c :: l, ta, t) :: G) be k := by
  rintro ⟨sg, _, s2, _⟩
  obtain ⟨hv, hf⟩ := s2 _ (List.mem_cons_self ..)
  have hv' : von so un sg (c :: l) := hv
  have hf' : fil so un sg (c :: l) = t := hf
  apply hd
  rw [← hf']
  by_cases ha : ar c = 0
  · rw [fil_const hc ha]; rfl
  · obtain ⟨q1, q2, q3⟩ := okt_op h.1 hc
    rw [fil_op h.1 (by omega) hc ha]
    unfold stand
    rw [flats_plain (fun q9 _ => by unfold plain flat1; rw [if_neg h2])]
    have hcc := cdo_of q1 (op := c / 512 - 1) rfl
    split
    · rw [mkt_many (fun g => absurd g h2), List.length_map, (pts_of h.1.1).2.1, ← hcc]; rfl
    · rw [mkt_many (fun g => absurd g h2), (srt_perm _).length_eq, List.length_map, (pts_of h.1.1).2.1, ← hcc]; rfl
theorem fx_solves_ok {n : Nat} {fs fu : Nat → Int32} {so : Nat → Nat} {un : Nat → Option Nat} {pv : Int32} (hn : 100000 ≤ n) (hsg : SG fs fu so un) (hsu : SU so un) : ∀ d : Nat, SOK (fx_solves d) n fs fu so un pv d
  | 0 => fun fp fgp fgt fb fw T W fm ff tm G be E hG hgp hgt hbn hpl => absurd hpl (Nat.not_lt_zero _)
  | d + 1 => fun fp fgp fgt fb fw T W fm ff tm G be E hG hgp hgt hbn hpl hp20 hT hW hcv he => by
    have ih := fx_solves_ok (pv := pv) hn hsg hsu d
    show PO G.length fp T fgp fgt fb fw W _ (gx_solves (fx_solves d) n fs fu fp (nI T) fgp fgt fb fw (nI W) fm pv ff tm (nI G.length))
    have hlen := plen_len hG
    unfold gx_solves
    by_cases qt : tm = 0
    · rw [if_pos qt]
      cases G with
      | nil =>
        rw [if_pos (show nI ([] : List Goal).length = (0 : Int32) from rfl)]
        exact solves_nil hn (by omega) hbn hcv he qt
      | cons g G =>
        obtain ⟨pa, p, ta, t⟩ := g
        have hg := hG _ (List.mem_cons_self ..)
        have hG2 : ∀ g ∈ G, gok so un fp T g := fun x hx => hG x (List.mem_cons_of_mem _ hx)
        have hpl' : p.length + plen G < d + 1 := hpl
        have hp20' : p.length + plen G ≤ 20 := hp20
        have hlen2 := plen_len hG2
        have hg0 := hg
        obtain ⟨⟨a1, a2, a3, a4, a5⟩, t1, t2, t3, t4⟩ := hg
        have a1' : la fp pa p := a1
        have a2' : nok so un p := a2
        have a5' : pa + p.length ≤ T := a5
        have t1' : la fp ta t := t1
        have t2' : nok so un t := t2
        have t4' : ta + t.length ≤ T := t4
        have hpp := wf_pos a2'.1.1
        have htp := wf_pos t2'.1.1
        simp only [List.length_cons, List.map_cons, List.reverse_cons] at hgp hgt ⊢
        have hgp2 := (la_app.mp hgp).1
        have hgt2 := (la_app.mp hgt).1
        have hpa : fgp G.length = nI pa := by have := (la_app.mp hgp).2.1; simpa using this
        have hta : fgt G.length = nI ta := by have := (la_app.mp hgt).2.1; simpa using this
        rw [if_neg (nI_ne0 (by omega) (by omega)), xl_eq, nI_pred, xr_n (by omega) (by decide), hpa, xr_n (by omega) (by decide), hta]
        -- what was there comes back
        have back : ∀ (o : MRes), PO G.length fp T fgp fgt fb fw W (fun k => E k ∨ Sol so un pv ((pa, p, ta, t) :: G) be k) o →
            PO (G.length + 1) fp T fgp fgt fb fw W (fun k => E k ∨ Sol so un pv ((pa, p, ta, t) :: G) be k) (xb10 o fun z0 z1 z2 z3 z4 z5 z6 z7 z8 z9 => xw 512 z2 (nI G.length) (nI pa) fun f1 => xw 512 z3 (nI G.length) (nI ta) fun f2 => some (z0, z1, f1, f2, z4, z5, z6, z7, z8, z9)) := by
          rintro o ⟨fp', fgp', fgt', fb', fw', fm', ff', tm', r1, r2, r3, r4, r5, r6⟩
          rw [r1, xb10_s, xw_n (by omega) (by decide), xw_n (by omega) (by decide)]
          refine ⟨fp', upd fgp' G.length (nI pa), upd fgt' G.length (nI ta), fb', fw', fm', ff', tm', rfl, r2, fun i hi => ?_, r4, r5, r6⟩
          by_cases q : i = G.length
          · rw [q, upd_eq, upd_eq, hpa, hta]; exact ⟨rfl, rfl⟩
          · rw [upd_ne q, upd_ne q]; exact r3 i (by omega)
        cases hp9 : p with
        | nil => rw [hp9] at hpp; simp at hpp
        | cons c l =>
          subst hp9
          simp only [List.length_cons] at hpl' hp20' a5'
          have hcc := cok_lt (col_cons.mp a2'.1.2.1).1
          rw [xr_n (by omega) (by decide), a1'.1, show (512 : Int32) = nI 512 from rfl]
          by_cases qv : c < 512
          · have hc5 : c < 5 := by rcases (col_cons.mp a2'.1.2.1).1 with g | g <;> omega
            have hl0 : l = [] := leaf_row a2'.1 (by unfold ar; rw [if_pos qv])
            subst hl0
            rw [if_neg (by rw [nI_le_iff (by decide) (by omega)]; omega), xr_n (by omega) (by decide), a1'.1]
            exact back _ (byVariable_ok ih hn hc5 hg0 hG2 hgp2 hgt2 hbn (by omega) (by omega) (by omega) (by omega) hcv he)
          · obtain ⟨q1, q2, q3⟩ := okt_op a2'.1 qv
            rw [if_pos (by rw [nI_le_iff (by decide) (by omega)]; omega), fx_operatorAt_ok a1'.1 hcc (by omega), xb1_s, opI_op q1, xr_n q3.1 (by decide), (hsg _ q3).1, show (2 : Int32) = nI 2 from rfl]
            have hso := (hsg _ q3).2.1
            by_cases q2 : so (c / 512 - 1) = 2
            · rw [if_pos (by rw [q2])]
              exact back _ (byShares_ok ih hn hsg hsu qv q2 hg0 hG2 hgp2 hgt2 hbn (by omega) (by omega) hT hW hcv he)
            · rw [if_neg (by rw [nI_inj (by omega) (by decide)]; exact q2), xr_n (by omega) (by decide), a1'.1]
              cases ht9 : t with
              | nil => rw [ht9] at htp; simp at htp
              | cons e m =>
                subst ht9
                have hec := cok_lt (col_cons.mp t2'.1.2.1).1
                simp only [List.length_cons] at t4'
                rw [xr_n (by omega) (by decide), t1'.1]
                by_cases qe : c = e
                · rw [if_pos (by rw [qe])]
                  by_cases q0 : so (c / 512 - 1) = 0
                  · exact back _ (byParts_free ih hn hsg hsu qv q0 qe.symm hg0 hG2 hgp2 hgt2 hbn (by omega) (by omega) (by omega) (by omega) hcv he)
                  · exact back _ (byParts_comm ih hn hsg hsu qv (by omega) qe.symm hg0 hG2 hgp2 hgt2 hbn (by omega) (by omega) (by omega) (by omega) hcv he)
                · rw [if_neg (by rw [nI_inj (by omega) (by omega)]; exact qe)]
                  have hno : ∀ k : List Nat, ¬ Sol so un pv ((pa, c :: l, ta, e :: m) :: G) be k := fun k => sol_none hsu a2' a4 qv q2 (fun h9 => qe h9.symm)
                  have := back (some (fp, nI T, fgp, fgt, fb, fw, nI W, fm, ff, tm)) (PO_iff (fun k => ⟨Or.inl, fun h9 => h9.elim id (fun h8 => absurd h8 (hno k))⟩) (PO_same he))
                  rw [xb10_s] at this
                  exact this
    · rw [if_neg qt]
      exact PO_iff (fun k => Iff.rfl) (PO_same (EXS_more qt (fun k hk => Or.inl hk) he))
