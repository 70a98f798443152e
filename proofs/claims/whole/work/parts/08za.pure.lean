/-! ===== put, whole ===== -/
theorem map_take_len {f : List Nat → List Nat} {ts : List (List Nat)} {j : Nat} (h : j ≤ ts.length) : ((ts.take j).map f).length = j := by rw [List.length_map, List.length_take]; omega
theorem drop_flat {ts : List (List Nat)} {j : Nat} (h : j < ts.length) : (ts.drop j).flatten.length = (nth ts j).length + (ts.drop (j + 1)).flatten.length := by
  rw [drop_nth h, List.flatten_cons, List.length_append]
theorem lx_put89_c {slf : PutF} {n bn b x no nv held dep d0 : Nat} {ga : Nat → Nat → Int32} {las : Nat → Bool} {so ma : Nat → Nat} {un : Nat → Option Nat} {nmL : Nat → List Nat} {fb : Nat → Int32} {sg : Nat → List Nat} {c : Nat} {l : List Nat} (hn : 100000 ≤ n) (he : ENV ga las so ma un no nv nmL) (hslf : PUT slf n ga las so ma un nv bn b fb sg d0) (hd0 : l.length ≤ d0) (hdep : dep + (c :: l).length ≤ 21) (hh : held + (c :: l).length ≤ 110) (ht : tok so un ma nv (c :: l)) (hc5 : ¬ c < 512) (har : ar c ≠ 0) :
    ∀ (k j m : Nat) (N : List (List Nat)) (v : Nat → Nat → Int32) (w : Nat → Nat → Int64), j + k = ar c → k < m → x < N.length → nth N x = c :: l → TBK v w las so ma un nv N → BNC N fb bn b sg (c :: l) → N.length + 1 + ((pts (c :: l)).drop j).flatten.length ≤ 1024 → SKV v N so held (((pts (c :: l)).take j).map (fil so un sg)) →
      ∃ (r : Int32) (v' : Nat → Nat → Int32) (w' : Nat → Nat → Int64) (E : List (List Nat)), lx_X8_put_89 slf n ga bn fb (nI x) (nI b) (nI dep) m (nI (cc c)) (nI held) (nI (ar c)) (nI j) v w = some (r, v', w') ∧ TBK v' w' las so ma un nv (N ++ E) ∧ VAL (N ++ E) so r (fil so un sg (c :: l)) ∧ E.length ≤ 1 + ((pts (c :: l)).drop j).flatten.length ∧ v' 0 1 = nI held ∧ ∀ z : Nat, z < held → v' 9 z = v 9 z
  | 0, j, m + 1, N, v, w, hj, _, hx, hnx, hT, hB, hN, hS => by
    have ej : j = ar c := by omega
    subst ej
    have hsv := he.2.1
    have hsu := SV_SU hsv
    have hpl := (pts_of ht.1.1.1).2.1
    have h20 := tok_len ht
    rw [← hpl, List.take_length] at hS
    obtain ⟨o1, o2, o3⟩ := okt_op ht.1.1 hc5
    obtain ⟨p1, p2, p3⟩ := ENV_op he o3.2
    obtain ⟨hv1, hv2⟩ := tok_von (sg := sg) hsv.1 hT.2 ht.2.2 hB
    obtain ⟨f1, f2⟩ := fil_parts hsu ht.1.1 h20 hv1
    have ef := fil_op (un := un) (sg := sg) ht.1.1 (by omega) hc5 har
    have fn := fil_nok (un := un) (sg := sg) hsu 21 (c :: l) ht.1.1 (by omega) (by omega) hv1
    have fs := filT_S hsv 21 (c :: l) ht.1.1 (by omega) (by omega) (von_vok hv1) ht.2.2 hv2
    have hcs := sS_c2 hsv ht.2.2
    have h6 := (tok_ar hsv (fun o h => (ENV_op he h).2.2) ht c List.mem_cons_self).1
    obtain ⟨v1, y1, y2, y3⟩ := begin_LST (n := n) (v := v) (N := N) he.1 hsv (ENV_no he) (show so (c / 512 - 1) ≤ 3 by omega) p1
    have e0 : nI 0 = (0 : Int32) := rfl
    have hSl := hS.1
    rw [List.length_map, hpl] at hSl
    have hlen : l.length = (pts (c :: l)).flatten.length := by rw [(pts_of ht.1.1.1).2.2]
    obtain ⟨r, v', w', E, z1, z2, z3, z4, z5, z6⟩ := lx_put136_c (slf := slf) (n := n) (bn := bn) (fb := fb) (P0 := nI x) (P1 := nI b) (P2 := nI dep) (x5 := nI (cc c)) (x7 := nI (ar c)) (held := held) hn he (show N.length < 1024 by omega) o3.2 (noks_okts f1) (fun _ z => by rw [List.map_eq_nil_iff] at z; rw [z] at hpl; simp at hpl; omega) (fun _ => by rw [List.length_map]; omega) f2 (by
      rw [List.length_map, hpl]
      have := wf_len (wf_flat (pts_of ht.1.1.1).1)
      rw [hpl] at this
      simp only [List.length_cons] at hh
      omega) ((pts (c :: l)).map (fil so un sg)).length 0 n v1 (by omega) (by rw [List.length_map]; omega) (TB_FRL hT.1 y2) ⟨by rw [y2.2.2]; exact hS.1, fun z hz => by rw [y2.1 9 (by decide) (by decide)]; exact hS.2 z hz⟩ y3
    rw [← ef] at z3 z4
    refine ⟨r, v', w', E, ?_, ⟨z2, fun t htE => ?_⟩, z4, ?_, z5, fun z _ => by rw [z6, y2.1 9 (by decide) (by decide)]⟩
    · show bx_X8_put_89 slf n ga bn fb (nI x) (nI b) (nI dep) (lx_X8_put_89 slf n ga bn fb (nI x) (nI b) (nI dep) m) (nI (cc c)) (nI held) (nI (ar c)) (nI (ar c)) v w = _
      unfold bx_X8_put_89
      have hcc : cck c := by
        have := (TB_get hT.1 hx).1.2.1
        rw [hnx] at this
        exact this c List.mem_cons_self
      rw [if_pos (Int32.le_refl _), fx_operatorIn_c hcc, xb1_s, opI_op (by omega), y1, xb1_s]
      exact z1
    · rcases List.mem_append.mp htE with g | g
      · exact hT.2 t g
      · rcases z3 with q | ⟨q1, q2⟩
        · rw [q] at g; exact absurd g List.not_mem_nil
        · rw [q1] at g
          rw [List.mem_singleton.mp g]
          exact ⟨fn, q2, fs⟩
    · rcases z3 with q | ⟨q1, q2⟩
      · rw [q]; exact Nat.zero_le _
      · rw [q1]; show 1 ≤ _; omega
  | k + 1, j, m + 1, N, v, w, hj, hm, hx, hnx, hT, hB, hN, hS => by
    have hsv := he.2.1
    have hpl := (pts_of ht.1.1.1).2.1
    have h20 := tok_len ht
    have hjp : j < (pts (c :: l)).length := by omega
    obtain ⟨p, p1, p2, p3⟩ := fx_partOf_c (n := n) hT.1 hx (j := j) (by rw [hnx]; show j < ar c; omega)
    rw [hnx] at p2
    have hsh := pts_short ht.1.1.1 (nth_mem hjp)
    have hmem : ∀ z ∈ nth (pts (c :: l)) j, z ∈ c :: l := fun z hz => mem_pts ht.1.1.1 (nth_mem hjp) hz
    have hfl := drop_flat hjp
    have hlen : l.length = (pts (c :: l)).flatten.length := by rw [(pts_of ht.1.1.1).2.2]
    have hjl : j + (nth (pts (c :: l)) j).length ≤ l.length := by
      have e := congrArg List.length (congrArg List.flatten (List.take_append_drop j (pts (c :: l))))
      rw [List.flatten_append, List.length_append, hfl] at e
      have e2 := wf_len (wf_flat (wf_take (pts_of ht.1.1.1).1 j))
      rw [List.length_take] at e2
      omega
    simp only [List.length_cons] at hdep hh
    have hSl := hS.1
    rw [map_take_len (by omega)] at hSl
    obtain ⟨r, v1, w1, E, y1, y2, y3, y4, y5, y6⟩ := hslf p (dep + 1) (held + j) N v w (by omega) (by rw [p2]; omega) (by rw [p2]; omega) hSl (by rw [p2]; omega) (by rw [p2]; omega) hT (by rw [p2]; exact fun z hz => hB z (hmem z hz))
    rw [p2] at y3 y4
    have hS1 : SKV v1 N so held (((pts (c :: l)).take j).map (fil so un sg)) := ⟨by rw [y5, map_take_len (by omega)], fun z hz => by
      rw [map_take_len (by omega)] at hz
      rw [y6 _ (by omega)]
      exact hS.2 z (by rw [map_take_len (by omega)]; exact hz)⟩
    obtain ⟨v2, u1, u2, u3⟩ := SKV_push (n := n) hS1 y3 (by rw [map_take_len (by omega)]; omega)
    rw [show ((pts (c :: l)).take j).map (fil so un sg) ++ [fil so un sg (nth (pts (c :: l)) j)] = ((pts (c :: l)).take (j + 1)).map (fil so un sg) by rw [take_nth hjp, List.map_append]; rfl] at u2
    obtain ⟨r', v', w', E', g1, g2, g3, g4, g5, g6⟩ := lx_put89_c hn he hslf hd0 (by simpa using hdep) (by simpa using hh) ht hc5 har k (j + 1) m (N ++ E) v2 w1 (by omega) (by omega) (nth_pre hx).1 (by rw [(nth_pre hx).2]; exact hnx) ⟨TB_FRS y2.1 u3, y2.2⟩ (BNC_ext hB) (by rw [List.length_append]; omega) u2
    refine ⟨r', v', w', E ++ E', ?_, by rw [← List.append_assoc]; exact g2, by rw [← List.append_assoc]; exact g3, by rw [List.length_append]; omega, g5, fun z hz => by rw [g6 z hz, u3.2.2 z hz, y6 z (by omega)]⟩
    rw [← g1]
    show bx_X8_put_89 slf n ga bn fb (nI x) (nI b) (nI dep) (lx_X8_put_89 slf n ga bn fb (nI x) (nI b) (nI dep) m) (nI (cc c)) (nI held) (nI (ar c)) (nI j) v w = _
    unfold bx_X8_put_89
    have h6 := (tok_ar hsv (fun o h => (ENV_op he h).2.2) ht c List.mem_cons_self).1
    rw [if_neg (by rw [nI_le_iff (by omega) (by omega)]; omega), p3, xb1_s, xl_eq, nI_1, y1, xb3_s, u1, xb1_s, xl_eq, nI_1]
theorem fx_put8_c {n bn b no nv : Nat} {ga : Nat → Nat → Int32} {las : Nat → Bool} {so ma : Nat → Nat} {un : Nat → Option Nat} {nmL : Nat → List Nat} {fb : Nat → Int32} {sg : Nat → List Nat} (hn : 100000 ≤ n) (he : ENV ga las so ma un no nv nmL) (hbn : bn ≤ 2000) : ∀ d : Nat, PUT (fx_X8_put d) n ga las so ma un nv bn b fb sg d
  | 0 => fun x dep held N v w hx hl _ _ _ _ hT _ => by
    have := wf_pos (TB_get hT.1 hx).1.1
    omega
  | d + 1 => fun x dep held N v w hx hl hdep hs hh hN hT hB => by
    have h1 := hT.1.1
    have hsv := he.2.1
    have tk := hT.2 _ (nth_mem hx)
    obtain ⟨⟨n1, n2, n3, n4, n5⟩, _⟩ := TB_get hT.1 hx
    obtain ⟨hv1, hv2⟩ := tok_von (sg := sg) hsv.1 hT.2 tk.2.2 hB
    show ∃ (r : Int32) (v' : Nat → Nat → Int32) (w' : Nat → Nat → Int64) (E : List (List Nat)), gx_X8_put (fx_X8_put d) n v w ga bn fb (nI x) (nI b) (nI dep) = some (r, v', w') ∧ _
    unfold gx_X8_put
    rw [fx_codeOf_c hT.1 hx, xb1_s]
    cases ht : nth N x with
    | nil => rw [ht] at n1; exact absurd n1.symm (by decide)
    | cons c l =>
      rw [ht] at n1 n2 n3 n4 n5 tk hl hdep hh hN hB hv1
      have hc := n2 c List.mem_cons_self
      have stay : VAL N so (nI x) (c :: l) := Or.inr ⟨tk.2.1, x, hx, ht, rfl⟩
      have eh : hd0 (c :: l) = c := rfl
      rw [eh] at n5
      rw [eh]
      by_cases q : c < 512
      · rw [if_neg (fun z => (le8 hc).mp z q)]
        obtain ⟨b1, b2⟩ := hB c List.mem_cons_self q
        have cl := cc_lt hc
        rw [xl_eq, cc_v q, nI_add, if_neg (by rw [show (0 : Int32) = nI 0 from rfl, nI_lt_iff (by omega) (by decide)]; omega), if_neg (by rw [nI_le_iff (by omega) (by omega)]; omega), xr_n b1 (by omega), fil_var q]
        have hleaf : l = [] := leaf_row tk.1.1 (by unfold ar; rw [if_pos q])
        rcases b2 with ⟨g1, g2⟩ | ⟨y, y1, y2, y3⟩
        · rw [g1, if_neg (by decide), g2]
          refine ⟨nI x, v, w, [], rfl, by rw [List.append_nil]; exact hT, by rw [List.append_nil]; rw [hleaf] at stay; exact stay, Nat.zero_le _, hs, fun _ _ => rfl⟩
        · rw [y2, if_pos (by rw [show (0 : Int32) = nI 0 from rfl, nI_le_iff (by decide) (by omega)]; omega)]
          refine ⟨nI y, v, w, [], rfl, by rw [List.append_nil]; exact hT, ?_, Nat.zero_le _, hs, fun _ _ => rfl⟩
          rw [List.append_nil]
          have tky := hT.2 _ (nth_mem y1)
          rw [y3] at tky
          exact Or.inr ⟨tky.2.1, y, y1, y3, rfl⟩
      · rw [if_pos ((le8 hc).mpr q), fx_maskOf_c hT.1 hx, xb1_s, ht]
        by_cases g : vrF (c :: l) 0 = 0
        · rw [if_pos g]
          have gr := (vrF_0 n3).mp g
          refine ⟨nI x, v, w, [], rfl, by rw [List.append_nil]; exact hT, ?_, Nat.zero_le _, hs, fun _ _ => rfl⟩
          have ef : fil so un sg (c :: l) = c :: l := filT_ground 21 _ tk.1 (by omega) gr
          rw [List.append_nil, ef]
          exact stay
        · have har : ar c ≠ 0 := fun e => g ((vrF_0 n3).mpr (fun z hz => by
            rw [leaf_row tk.1.1 e] at hz
            rw [List.mem_singleton.mp hz]; omega))
          simp only [List.length_cons] at hl hdep hh hN
          have hpl := (pts_of n1).2.1
          have hlen : l.length = (pts (c :: l)).flatten.length := by rw [(pts_of n1).2.2]
          rw [if_neg g, if_pos (by rw [show (20 : Int32) = nI 20 from rfl, nI_le_iff (by omega) (by decide)]; omega), fx_partsIn_c hc, xb1_s, hs]
          have e0 : nI 0 = (0 : Int32) := rfl
          obtain ⟨r, v', w', E, z1, z2, z3, z4, z5, z6⟩ := lx_put89_c (n := n) (x := x) (dep := dep) hn he (fx_put8_c (b := b) (fb := fb) (sg := sg) hn he hbn d) (by omega) (by simpa using hdep) (by simpa using hh) tk q har (ar c) 0 n N v w (by omega) (by omega) hx ht hT hB (by rw [List.drop_zero, ← hlen]; omega) ⟨by rw [hs]; rfl, fun j hj => absurd hj (Nat.not_lt_zero _)⟩
          rw [List.drop_zero, ← hlen] at z4
          exact ⟨r, v', w', E, z1, z2, z3, by simp only [List.length_cons]; omega, z5, z6⟩
