/-! ===== bits of longs ===== -/
def bt64 (x : Int64) (k : Nat) : Bool := x.toBitVec.getLsbD k
theorem shr64 {x : Int64} {k : Nat} (hk : k < 64) : (x >>> ((nI k).toInt64 &&& 63)).toBitVec = x.toBitVec.sshiftRight k := by
  have key : ∀ k : Fin 64, (((nI k.val).toInt64 &&& 63).toBitVec.smod 64).toNat = k.val := by decide +kernel
  rw [Int64.toBitVec_shiftRight]
  unfold BitVec.sshiftRight'
  rw [key ⟨k, hk⟩]
theorem bit64 {x : Int64} {k : Nat} (hk : k < 64) : ((x >>> ((nI k).toInt64 &&& 63)) &&& 1) = 1 ↔ bt64 x k = true := by
  have e : ((x >>> ((nI k).toInt64 &&& 63)) &&& 1).toBitVec = BitVec.setWidth 64 (BitVec.ofBool (x.toBitVec.getLsbD k)) := by
    show (x >>> ((nI k).toInt64 &&& 63)).toBitVec &&& 1#64 = _
    rw [shr64 hk, BitVec.and_one_eq_setWidth_ofBool_getLsbD, BitVec.getLsbD_sshiftRight]
    simp [hk]
  rw [← Int64.toBitVec_inj, e]
  unfold bt64
  cases x.toBitVec.getLsbD k <;> decide
theorem bit64_0 {x : Int64} {k : Nat} (hk : k < 64) : ((x >>> ((nI k).toInt64 &&& 63)) &&& 1) = 0 ↔ bt64 x k = false := by
  have e : ((x >>> ((nI k).toInt64 &&& 63)) &&& 1).toBitVec = BitVec.setWidth 64 (BitVec.ofBool (x.toBitVec.getLsbD k)) := by
    show (x >>> ((nI k).toInt64 &&& 63)).toBitVec &&& 1#64 = _
    rw [shr64 hk, BitVec.and_one_eq_setWidth_ofBool_getLsbD, BitVec.getLsbD_sshiftRight]
    simp [hk]
  rw [← Int64.toBitVec_inj, e]
  unfold bt64
  cases x.toBitVec.getLsbD k <;> decide
theorem one64 : ∀ k : Fin 64, ∀ j : Fin 64, ((1 : Int64) <<< ((nI k.val).toInt64 &&& 63)).toBitVec.getLsbD j.val = decide (j.val = k.val) := by decide +kernel
theorem or64 {x : Int64} {k j : Nat} (hk : k < 64) (hj : j < 64) : bt64 (x ||| ((1 : Int64) <<< ((nI k).toInt64 &&& 63))) j = (bt64 x j || decide (j = k)) := by
  unfold bt64
  rw [Int64.toBitVec_or, BitVec.getLsbD_or, one64 ⟨k, hk⟩ ⟨j, hj⟩]
theorem bt64_0 {k : Nat} : bt64 0 k = false := by
  unfold bt64; rw [show (0 : Int64).toBitVec = 0#64 from rfl, BitVec.getLsbD_zero]
theorem bt64_m1 : ∀ k : Fin 64, bt64 (-1) k.val = true := by decide +kernel
theorem xcmp_1 {y : Int64} : xcmp y 1 = 0 ↔ y = 1 := by
  unfold xcmp
  by_cases h : y < 1
  · rw [if_pos h]
    exact ⟨fun q => absurd q (by decide), fun q => by rw [q] at h; exact absurd h (by decide)⟩
  · rw [if_neg h]
    by_cases h2 : y = 1
    · rw [if_pos h2]; exact ⟨fun _ => h2, fun _ => rfl⟩
    · rw [if_neg h2]; exact ⟨fun q => absurd q (by decide), fun q => absurd q h2⟩
theorem fx_isCounted_ok {n k : Nat} {x : Int64} (hk : k < 64) : fx_isCounted n x (nI k) = some (if bt64 x k then 1 else 0) := by
  unfold fx_isCounted
  rw [xl_eq, xl_eq, xl_eq]
  by_cases q : bt64 x k = true
  · rw [if_pos (xcmp_1.mpr ((bit64 hk).mpr q)), if_pos q]
  · rw [if_neg (fun h => q ((bit64 hk).mp (xcmp_1.mp h))), if_neg q]
/-! ===== rows that are reached ===== -/
theorem fx_reachAt_ok {n l k : Nat} (hl : l < 2) (hk : k ≤ 51) : fx_reachAt n (nI l) (nI k) = some (nI (21 * (51 * l + k))) := by
  unfold fx_reachAt
  rw [xl_eq, show (51 : Int32) = nI 51 from rfl, nI_mul (by omega) (by decide) (by omega), xl_eq, nI_add, xl_eq, show (21 : Int32) = nI 21 from rfl, nI_mul (by omega) (by decide) (by omega)]
theorem lx_reachComes_ok {n : Nat} {fk : Nat → Int32} {p0 p1 x2 : Int32} : ∀ (l : List Nat) (k : Nat) (f : Nat → Int32) (a t m : Nat), la fk a l → wf k l → col l → a + l.length ≤ 2142 → t + l.length ≤ 60000 → l.length < m →
    lx_reachComes_16 n fk p0 p1 m x2 (nI k) (nI a) f (nI t) = some (x2, put f t l, nI (t + l.length))
  | [], k, f, a, t, m + 1, _, hw, _, _, _, _ => by
    have : k = 0 := hw
    subst this
    show bx_reachComes_16 n fk p0 p1 (lx_reachComes_16 n fk p0 p1 m) _ _ _ _ _ = _
    unfold bx_reachComes_16
    rw [if_pos (show nI 0 ≤ (0 : Int32) by decide)]; rfl
  | c :: l, 0, f, a, t, m + 1, _, hw, _, _, _, _ => absurd hw.1 (Nat.lt_irrefl 0)
  | c :: l, k + 1, f, a, t, m + 1, hl, hw, hc, ha, ht, hm => by
    have hk := wf_len hw
    simp only [List.length_cons] at hk ha ht hm ⊢
    have hcc := cok_lt (col_cons.mp hc).1
    show bx_reachComes_16 n fk p0 p1 (lx_reachComes_16 n fk p0 p1 m) _ _ _ _ _ = _
    unfold bx_reachComes_16
    rw [if_neg (nI_nle (by omega) (by omega)), xr_n (by omega) (by decide), hl.1, xw_n (by omega) (by decide), fx_partsAt_ok (upd_eq f t (nI c)) hcc (by omega)]
    show lx_reachComes_16 n fk p0 p1 m x2 (nI (k + 1) + (nI (ar c) - 1)) (nI a + 1) (upd f t (nI c)) (nI t + 1) = _
    rw [nI_bal, nI_1, nI_1]
    have h2 := hw.2
    rw [show k + 1 - 1 + ar c = k + ar c by omega] at h2
    rw [lx_reachComes_ok l (k + ar c) (upd f t (nI c)) (a + 1) (t + 1) m hl.2 h2 (col_cons.mp hc).2 (by omega) (by omega) (by omega), show t + (l.length + 1) = t + 1 + l.length by omega]; rfl
/-- a list of rows that are reached, as it is kept -/
def RQ (so : Nat → Nat) (un : Nat → Option Nat) (ma : Nat → Nat) (nv : Nat) (fre frm : Nat → Int32) (l : Nat) (Q : List (List Nat)) : Prop := Q.length ≤ 50 ∧ (∀ t ∈ Q, tok so un ma nv t) ∧ Q.Nodup ∧ frm l = nI Q.length ∧ ∀ i : Nat, i < Q.length → la fre (21 * (51 * l + i)) (nth Q i)
theorem RQ_get {so : Nat → Nat} {un : Nat → Option Nat} {ma : Nat → Nat} {nv l : Nat} {fre frm : Nat → Int32} {Q : List (List Nat)} (h : RQ so un ma nv fre frm l Q) {i : Nat} (hi : i < Q.length) : tok so un ma nv (nth Q i) ∧ la fre (21 * (51 * l + i)) (nth Q i) ∧ (nth Q i).length ≤ 20 ∧ i < 50 := by
  have h1 := h.2.1 _ (nth_mem hi)
  exact ⟨h1, h.2.2.2.2 i hi, tok_len h1, by have := h.1; omega⟩
theorem reachComes_ok {so : Nat → Nat} {un : Nat → Option Nat} {ma : Nat → Nat} {nv n l i top : Nat} {fre frm fp : Nat → Int32} {Q : List (List Nat)} (hn : 100000 ≤ n) (hl : l < 2) (h : RQ so un ma nv fre frm l Q) (hi : i < Q.length) (ht : top ≤ 50000) : fx_reachComes n fp (nI top) fre (nI l) (nI i) = some (nI top, put fp top (nth Q i), nI (top + (nth Q i).length)) := by
  obtain ⟨h1, h2, h3, h4⟩ := RQ_get h hi
  unfold fx_reachComes
  rw [fx_reachAt_ok hl (by omega), xb1_s]
  exact lx_reachComes_ok (nth Q i) 1 fp _ top n h2 h1.1.1.1 h1.1.1.2.1 (by omega) (by omega) (by omega)
theorem lx_isReached_26_ok {n l i a : Nat} {fp fre frm : Nat → Int32} {k9 : Int32 → Int32 → Option Int32} (hl : l < 2) (hi : i < 51) : ∀ (x r : List Nat) (k j m : Nat), la fre (21 * (51 * l + i) + j) r → la fp (a + j) x → wf k r → wf k x → col r → col x → j + r.length ≤ 21 → j + x.length ≤ 21 → a + 21 ≤ 60000 → x.length + 1 < m →
    lx_isReached_26 n fp fre frm (nI l) (nI a) k9 m (nI (a + j + x.length)) (nI i) 1 (nI (a + j)) = if r = x then some 1 else k9 (nI (a + j + x.length)) (nI (i + 1))
  | [], r, k, j, m + 1, _, _, hr, hq, _, _, _, _, _, _ => by
    have e : k = 0 := hq
    subst e
    cases r with
    | nil =>
      show bx_isReached_26 n fp fre frm (nI l) (nI a) k9 (lx_isReached_26 n fp fre frm (nI l) (nI a) k9 m) _ _ _ _ = _
      unfold bx_isReached_26
      simp only [List.length_nil, Nat.add_zero]
      rw [if_pos (Int32.le_refl _), if_neg (by decide), if_pos trivial]
    | cons c r => exact absurd hr.1 (Nat.lt_irrefl 0)
  | d :: q, [], k, j, m + 1, _, _, hr, hq, _, _, _, _, _, _ => by
    have e : k = 0 := hr
    have := hq.1; omega
  | d :: q, c :: r, k, j, m + 2, hlr, hlq, hr, hq, hcr, hcq, h1, h2, h3, hm => by
    simp only [List.length_cons] at h1 h2 hm ⊢
    have hc := cok_lt (col_cons.mp hcr).1
    have hd := cok_lt (col_cons.mp hcq).1
    have hlr2 : la fre (21 * (51 * l + i) + (j + 1)) r := by rw [show 21 * (51 * l + i) + (j + 1) = 21 * (51 * l + i) + j + 1 by omega]; exact hlr.2
    have hlq2 : la fp (a + (j + 1)) q := by rw [show a + (j + 1) = a + j + 1 by omega]; exact hlq.2
    have st : ∀ m9 : Nat, lx_isReached_26 n fp fre frm (nI l) (nI a) k9 (m9 + 1) (nI (a + j + (q.length + 1))) (nI i) 1 (nI (a + j)) = if c = d then lx_isReached_26 n fp fre frm (nI l) (nI a) k9 m9 (nI (a + j + (q.length + 1))) (nI i) 1 (nI (a + j + 1)) else lx_isReached_26 n fp fre frm (nI l) (nI a) k9 m9 (nI (a + j + (q.length + 1))) (nI i) 0 (nI (a + j + 1)) := fun m9 => by
      show bx_isReached_26 n fp fre frm (nI l) (nI a) k9 (lx_isReached_26 n fp fre frm (nI l) (nI a) k9 m9) _ _ _ _ = _
      unfold bx_isReached_26
      rw [if_neg (by rw [nI_le_iff (by omega) (by omega)]; omega), if_neg (show ¬ (1 : Int32) = 0 by decide), fx_reachAt_ok hl (by omega), xb1_s, xl_eq, nI_add, xl_eq, nI_sub (by omega), show 21 * (51 * l + i) + (a + j) - a = 21 * (51 * l + i) + j by omega, xr_n (by omega) (by decide), hlr.1, xr_n (by omega) (by decide), hlq.1]
      by_cases e : c = d
      · rw [if_pos (by rw [e]), if_pos e, xl_eq, nI_1]
      · rw [if_neg (by rw [nI_inj (by omega) (by omega)]; exact e), if_neg e, xl_eq, nI_1]
    rw [st (m + 1)]
    by_cases e : c = d
    · subst e
      rw [if_pos rfl, show a + j + (q.length + 1) = a + (j + 1) + q.length by omega, show a + j + 1 = a + (j + 1) by omega]
      rw [lx_isReached_26_ok hl hi q r (k - 1 + ar c) (j + 1) (m + 1) hlr2 hlq2 hr.2 hq.2 (col_cons.mp hcr).2 (col_cons.mp hcq).2 (by omega) (by omega) h3 (by omega)]
      by_cases e2 : r = q
      · rw [if_pos e2, if_pos (by rw [e2])]
      · rw [if_neg e2, if_neg (fun h => e2 (List.cons.inj h).2)]
    · rw [if_neg e, if_neg (fun h => e (List.cons.inj h).1)]
      show bx_isReached_26 n fp fre frm (nI l) (nI a) k9 (lx_isReached_26 n fp fre frm (nI l) (nI a) k9 m) _ _ _ _ = _
      unfold bx_isReached_26
      by_cases z : nI (a + j + (q.length + 1)) ≤ nI (a + j + 1)
      · rw [if_pos z, if_pos rfl, xl_eq, nI_1]
      · rw [if_neg z, if_pos rfl, if_pos rfl, xl_eq, nI_1]
theorem lx_isReached_9_ok {so : Nat → Nat} {un : Nat → Option Nat} {ma : Nat → Nat} {nv n l a : Nat} {fp fre frm : Nat → Int32} {Q : List (List Nat)} {x : List Nat} (hn : 100000 ≤ n) (hl : l < 2) (h : RQ so un ma nv fre frm l Q) (hx : tok so un ma nv x) (hxl : la fp a x) (ha : a + 21 ≤ 60000) : ∀ (d i m : Nat), i + d = Q.length → (∀ j : Nat, j < i → nth Q j ≠ x) → d < m →
    lx_isReached_9 n fp fre frm (nI l) (nI a) m (nI (a + x.length)) (nI i) = some (if x ∈ Q then 1 else 0)
  | 0, i, m + 1, hi, hj, hm => by
    have hQ := h.1
    have hnot : x ∉ Q := fun q => by
      obtain ⟨j, j1, j2⟩ := mem_nth q
      exact hj j (by omega) j2
    show bx_isReached_9 n fp fre frm (nI l) (nI a) (lx_isReached_9 n fp fre frm (nI l) (nI a) m) _ _ = _
    unfold bx_isReached_9
    rw [xr_n hl (by decide), h.2.2.2.1, if_pos (by rw [nI_le_iff (by omega) (by omega)]; omega), if_neg hnot]
  | d + 1, i, m + 1, hi, hj, hm => by
    have hQ := h.1
    have hxl20 := tok_len hx
    obtain ⟨k1, k2, k3, k4⟩ := RQ_get h (i := i) (by omega)
    have st : lx_isReached_9 n fp fre frm (nI l) (nI a) (m + 1) (nI (a + x.length)) (nI i) = if nth Q i = x then some 1 else lx_isReached_9 n fp fre frm (nI l) (nI a) m (nI (a + x.length)) (nI (i + 1)) := by
      show bx_isReached_9 n fp fre frm (nI l) (nI a) (lx_isReached_9 n fp fre frm (nI l) (nI a) m) _ _ = _
      unfold bx_isReached_9
      rw [xr_n hl (by decide), h.2.2.2.1, if_neg (by rw [nI_le_iff (by omega) (by omega)]; omega)]
      exact lx_isReached_26_ok (a := a) hl (by omega) x (nth Q i) 1 0 n k2 hxl k1.1.1.1 hx.1.1.1 k1.1.1.2.1 hx.1.1.2.1 (by omega) (by omega) ha (by omega)
    rw [st]
    by_cases q : nth Q i = x
    · rw [if_pos q, if_pos (by rw [← q]; exact nth_mem (by omega))]
    · rw [if_neg q]
      exact lx_isReached_9_ok hn hl h hx hxl ha d (i + 1) m (by omega) (fun j hj9 => by
        by_cases e : j = i
        · rw [e]; exact q
        · exact hj j (by omega)) (by omega)
theorem fx_isReached_ok {so : Nat → Nat} {un : Nat → Option Nat} {ma : Nat → Nat} {nv n l a : Nat} {fp fre frm : Nat → Int32} {Q : List (List Nat)} {x : List Nat} (hn : 100000 ≤ n) (hl : l < 2) (h : RQ so un ma nv fre frm l Q) (hx : tok so un ma nv x) (hxl : la fp a x) (ha : a + 21 ≤ 60000) : fx_isReached n fp fre frm (nI l) (nI a) = some (if x ∈ Q then 1 else 0) := by
  have hx20 := tok_len hx
  have hQ := h.1
  unfold fx_isReached
  rw [fx_behind_ok hxl hx.1.1.1 hx.1.1.2.1 (by omega) hn, xb1_s]
  exact lx_isReached_9_ok hn hl h hx hxl ha Q.length 0 n (by omega) (fun j hj => absurd hj (Nat.not_lt_zero _)) (by omega)
theorem lx_addsReach_36_ok {n l a c : Nat} {fp : Nat → Int32} {tm : Int32} {frm : Nat → Int32} (hl : l < 2) (hc : c < 50) (hm0 : frm l = nI c) : ∀ (x : List Nat) (j m : Nat) (fre : Nat → Int32), la fp (a + j) x → j + x.length ≤ 21 → a + 21 ≤ 60000 → x.length < m →
    lx_addsReach_36 n fp (nI l) (nI a) m (nI (a + j + x.length)) (nI (a + j)) tm fre frm = some (tm, put fre (21 * (51 * l + c) + j) x, upd frm l (nI (c + 1)))
  | [], j, m + 1, fre, _, _, _, _ => by
    show bx_addsReach_36 n fp (nI l) (nI a) (lx_addsReach_36 n fp (nI l) (nI a) m) _ _ _ _ _ = _
    unfold bx_addsReach_36
    simp only [List.length_nil, Nat.add_zero]
    rw [if_pos (Int32.le_refl _), xr_n hl (by decide), hm0, xl_eq, nI_1, xw_n hl (by decide)]; rfl
  | e :: x, j, m + 1, fre, hx, hj, ha, hm => by
    simp only [List.length_cons] at hj hm ⊢
    show bx_addsReach_36 n fp (nI l) (nI a) (lx_addsReach_36 n fp (nI l) (nI a) m) _ _ _ _ _ = _
    unfold bx_addsReach_36
    rw [if_neg (by rw [nI_le_iff (by omega) (by omega)]; omega), xr_n hl (by decide), hm0, fx_reachAt_ok hl (by omega), xb1_s, xl_eq, nI_add, xl_eq, nI_sub (by omega), show 21 * (51 * l + c) + (a + j) - a = 21 * (51 * l + c) + j by omega, xr_n (by omega) (by decide), hx.1, xw_n (by omega) (by decide), xl_eq, nI_1, show a + j + (x.length + 1) = a + (j + 1) + x.length by omega, show a + j + 1 = a + (j + 1) by omega]
    rw [lx_addsReach_36_ok hl hc hm0 x (j + 1) m (upd fre (21 * (51 * l + c) + j) (nI e)) (by rw [show a + (j + 1) = a + j + 1 by omega]; exact hx.2) (by omega) ha (by omega)]; rfl
/-- another list's rows and number stay -/
def RQo (fre frm fre' frm' : Nat → Int32) (l : Nat) : Prop := (∀ o : Nat, o ≠ l → o < 2 → frm' o = frm o) ∧ ∀ z : Nat, ¬ (21 * (51 * l) ≤ z ∧ z < 21 * (51 * l + 51)) → fre' z = fre z
theorem RQo_refl {fre frm : Nat → Int32} {l : Nat} : RQo fre frm fre frm l := ⟨fun _ _ _ => rfl, fun _ _ => rfl⟩
theorem RQo_trans {f1 m1 f2 m2 f3 m3 : Nat → Int32} {l : Nat} (h : RQo f1 m1 f2 m2 l) (h' : RQo f2 m2 f3 m3 l) : RQo f1 m1 f3 m3 l := ⟨fun o a b => (h'.1 o a b).trans (h.1 o a b), fun z a => (h'.2 z a).trans (h.2 z a)⟩
theorem RQ_other {so : Nat → Nat} {un : Nat → Option Nat} {ma : Nat → Nat} {nv l o : Nat} {fre frm fre' frm' : Nat → Int32} {Q : List (List Nat)} (h : RQ so un ma nv fre frm o Q) (ho : o ≠ l) (ho2 : o < 2) (hl : l < 2) (hh : RQo fre frm fre' frm' l) : RQ so un ma nv fre' frm' o Q := by
  refine ⟨h.1, h.2.1, h.2.2.1, (hh.1 o ho ho2).trans h.2.2.2.1, fun i hi => ?_⟩
  obtain ⟨k1, k2, k3, k4⟩ := RQ_get h hi
  exact la_congr (fun z hz => hh.2 _ (by omega)) k2
theorem fx_addsReach_ok {so : Nat → Nat} {un : Nat → Option Nat} {ma : Nat → Nat} {nv n l a : Nat} {fp fre frm : Nat → Int32} {tm : Int32} {Q : List (List Nat)} {x : List Nat} (hn : 100000 ≤ n) (hl : l < 2) (h : RQ so un ma nv fre frm l Q) (hx : tok so un ma nv x) (hxl : la fp a x) (ha : a + 21 ≤ 60000) :
    ∃ (tm' : Int32) (fre' frm' : Nat → Int32), fx_addsReach n fp tm fre frm (nI l) (nI a) = some (tm', fre', frm') ∧ RQo fre frm fre' frm' l ∧
      ((x ∈ Q ∧ tm' = tm ∧ RQ so un ma nv fre' frm' l Q) ∨ (x ∉ Q ∧ Q.length < 50 ∧ tm' = tm ∧ RQ so un ma nv fre' frm' l (Q ++ [x])) ∨ (x ∉ Q ∧ Q.length = 50 ∧ tm' = 1)) := by
  have hx20 := tok_len hx
  have hQ := h.1
  unfold fx_addsReach
  rw [fx_isReached_ok hn hl h hx hxl ha, xb1_s]
  by_cases q : x ∈ Q
  · rw [if_pos q, if_neg (by decide)]
    exact ⟨_, _, _, rfl, RQo_refl, Or.inl ⟨q, rfl, h⟩⟩
  · rw [if_neg q, if_pos rfl, xr_n hl (by decide), h.2.2.2.1]
    by_cases q2 : Q.length = 50
    · rw [if_pos (by rw [q2]; rfl)]
      exact ⟨_, _, _, rfl, RQo_refl, Or.inr (Or.inr ⟨q, q2, rfl⟩)⟩
    · rw [if_neg (by rw [show (50 : Int32) = nI 50 from rfl, nI_inj (by omega) (by decide)]; exact q2), fx_behind_ok hxl hx.1.1.1 hx.1.1.2.1 (by omega) hn, xb1_s]
      have lp := lx_addsReach_36_ok (n := n) (tm := tm) (a := a) hl (show Q.length < 50 by omega) h.2.2.2.1 x 0 n fre hxl (by omega) ha (by omega)
      rw [Nat.add_zero, Nat.add_zero] at lp
      rw [lp]
      refine ⟨_, _, _, rfl, ⟨fun o ho _ => by rw [upd_ne ho], fun z hz => by rw [put_out (by omega)]⟩, Or.inr (Or.inl ⟨q, by omega, rfl, by rw [List.length_append, List.length_singleton]; omega, fun t ht => ?_, ?_, ?_, fun i hi => ?_⟩)⟩
      · rcases List.mem_append.mp ht with g | g
        · exact h.2.1 t g
        · rw [List.mem_singleton.mp g]; exact hx
      · refine List.nodup_append.mpr ⟨h.2.2.1, by simp, fun b hb2 c hc e => ?_⟩
        rw [List.mem_singleton.mp hc] at e
        rw [e] at hb2; exact q hb2
      · rw [upd_eq, List.length_append, List.length_singleton]
      · rw [List.length_append, List.length_singleton] at hi
        by_cases z : i < Q.length
        · obtain ⟨k1, k2, k3, k4⟩ := RQ_get h z
          rw [nth_app1 z]
          exact la_put (Or.inl (by omega)) k2
        · have e : i = Q.length := by omega
          rw [e, nth_app2]; exact put_la
