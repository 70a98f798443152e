/-! ===== a clause of a signature ===== -/
abbrev OpE := List Nat × Nat × Nat × Option Nat
abbrev CR := Option (List OpE × List (List Nat)) × Nat × Nat
def opN (ops : List OpE) (i : Nat) : OpE := ops.getD i ([], 0, 0, none)
/-- names by their numbers -/
def nmF (ops : List OpE) (vs : List (List Nat)) (i : Nat) : List Nat := if i < 10 then (opN ops i).1 else nth vs (i - 10)
def newn (ops : List OpE) (vs : List (List Nat)) (w : List Nat) : Option Nat := nam (nmF ops vs) ops.length vs.length w 15 0
def rname (L : List Nat) (ops : List OpE) (vs : List (List Nat)) (p : Nat) : Option (List Nat) × Nat × Nat :=
  if bk L p < wd L (bk L p) ∧ isNm (sli L (bk L p) (wd L (bk L p))) = true ∧ newn ops vs (sli L (bk L p) (wd L (bk L p))) = none then (some (sli L (bk L p) (wd L (bk L p))), wd L (bk L p), bk L p) else (none, wd L (bk L p), bk L p)
def runit (L : List Nat) (ops : List OpE) (vs : List (List Nat)) (p : Nat) : Option (Option Nat) × Nat × Nat :=
  if wd L (bk L p) ≤ bk L p then (some none, wd L (bk L p), bk L p)
  else if sli L (bk L p) (wd L (bk L p)) = wUnit then
    (if wd L (bk L (wd L (bk L p))) ≤ bk L (wd L (bk L p)) then (none, wd L (bk L (wd L (bk L p))), bk L (wd L (bk L p)))
     else match newn ops vs (sli L (bk L (wd L (bk L p))) (wd L (bk L (wd L (bk L p))))) with
       | none => (none, wd L (bk L (wd L (bk L p))), bk L (wd L (bk L p)))
       | some k => if k < ops.length ∧ (opN ops k).2.1 = 0 ∧ (opN ops k).2.2.1 = 0 then (some (some k), wd L (bk L (wd L (bk L p))), bk L (wd L (bk L p))) else (none, wd L (bk L (wd L (bk L p))), bk L (wd L (bk L p))))
  else (none, wd L (bk L p), bk L p)
def rnum (L : List Nat) (p : Nat) : Option Nat × Nat × Nat := if dg L (bk L p) = bk L p + 1 ∧ gb L (bk L p) ≤ 51 then (some (gb L (bk L p) - 48), dg L (bk L p), bk L p) else (none, dg L (bk L p), bk L p)
def semi (L : List Nat) (ops : List OpE) (vs : List (List Nat)) (p : Nat) : CR := if isG L p 59 then (some (ops, vs), bk L p + 1, bk L p) else (none, bk L p, bk L p)
/-- operators and variables as they are being read -/
def NWR (ops : List OpE) (vs : List (List Nat)) (fn fnm fs9 fm9 fu9 : Nat → Int32) : Prop := ops.length ≤ 10 ∧ vs.length ≤ 5 ∧ (∀ i : Nat, nmv ops.length vs.length i = true → fnm i = nI (nmF ops vs i).length ∧ la fn (6 * i) (nmF ops vs i) ∧ (nmF ops vs i).length ≤ 6 ∧ ∀ c ∈ nmF ops vs i, 97 ≤ c ∧ c ≤ 122) ∧ ∀ i : Nat, i < ops.length → fs9 i = nI (opN ops i).2.1 ∧ fm9 i = nI (opN ops i).2.2.1 ∧ fu9 i = oI (opN ops i).2.2.2
/-- what holds of them -/
def OPS (ops : List OpE) (vs : List (List Nat)) : Prop := (∀ i : Nat, i < ops.length → (opN ops i).2.1 ≤ 2 ∧ ((opN ops i).2.1 = 0 → (opN ops i).2.2.1 ≤ 3 ∧ (opN ops i).2.2.2 = none) ∧ ((opN ops i).2.1 = 1 → (opN ops i).2.2.1 = 2 ∧ (opN ops i).2.2.2 = none) ∧ ((opN ops i).2.1 = 2 → (opN ops i).2.2.1 = 2 ∧ ∀ u : Nat, (opN ops i).2.2.2 = some u → u < ops.length ∧ (opN ops u).2.1 = 0 ∧ (opN ops u).2.2.1 = 0)) ∧ (∀ i j : Nat, nmv ops.length vs.length i = true → nmv ops.length vs.length j = true → nmF ops vs i = nmF ops vs j → i = j) ∧ ∀ i : Nat, nmv ops.length vs.length i = true → isNm (nmF ops vs i) = true
theorem opN_app1 {ops : List OpE} {x : OpE} {i : Nat} (h : i < ops.length) : opN (ops ++ [x]) i = opN ops i := by
  unfold opN
  rw [List.getD_eq_getElem?_getD, List.getD_eq_getElem?_getD, List.getElem?_append_left h]
theorem opN_app2 {ops : List OpE} {x : OpE} : opN (ops ++ [x]) ops.length = x := by
  unfold opN
  rw [List.getD_eq_getElem?_getD, List.getElem?_append_right (Nat.le_refl _), Nat.sub_self]; rfl
theorem isNm_iff {w : List Nat} (h : isNm w = true) : 1 ≤ w.length ∧ w.length ≤ 6 := by
  unfold isNm at h
  rw [Bool.and_eq_true, Bool.and_eq_true, decide_eq_true_eq, decide_eq_true_eq] at h
  exact h.1
theorem nar_nI {c : Nat} (h : c < 128) : vp_nar .byte (nI c) = nI c := by
  have e : sb c = nI c := sb_lo ⟨c, h⟩
  have k : ∀ c : Fin 128, (nI c.val).toInt8.toInt32 = nI c.val := by decide +kernel
  have k2 := k ⟨c, h⟩
  have k3 : (nI c).toInt8.toInt32 = nI c := k2
  rw [← k3, nar_is]
/-- the bytes of a name are kept -/
theorem lx_readsName_ok {n b e k : Nat} {f fnm : Nat → Int32} {L : List Nat} {size no nv : Int32} (h : TPE f L) (he : e ≤ L.length) (hlet : ∀ i : Nat, b ≤ i → i < e → isLe L i = true) (hk : k < 15) (hm0 : fnm k = nI (e - b)) (h6 : e - b ≤ 6) :
    ∀ (d j m : Nat) (fn : Nat → Int32), j + d = e - b → d < m → lx_readsName_41 n f size no nv (nI k) m (nI j) (nI e) (nI b) fn fnm = some (1, nI e, nI b, put fn (6 * k + j) ((sli L b e).drop j), fnm)
  | 0, j, m + 1, fn, hj, hm => by
    have hs := sli_len (L := L) (b := b) he
    show bx_readsName_41 n f size no nv (nI k) (lx_readsName_41 n f size no nv (nI k) m) (nI j) (nI e) (nI b) fn fnm = _
    unfold bx_readsName_41
    rw [xr_n hk (by decide), hm0, if_pos (by rw [nI_le_iff (by omega) (by omega)]; omega), List.drop_eq_nil_of_le (by omega)]; rfl
  | d + 1, j, m + 1, fn, hj, hm => by
    have h4 := h.1
    have hs := sli_len (L := L) (b := b) he
    have hjl : j < (sli L b e).length := by omega
    have l1 := (isb_lt (hlet (b + j) (by omega) (by omega))).2
    have es : sb (gb L (b + j)) = nI (gb L (b + j)) := sb_lo ⟨gb L (b + j), by omega⟩
    have ed : (sli L b e).drop j = gb L (b + j) :: (sli L b e).drop (j + 1) := by
      rw [List.drop_eq_getElem_cons hjl]
      have : (sli L b e)[j] = gb L (b + j) := by
        rw [← gb_sli (e := e) (by omega)]
        unfold gb
        rw [List.getD_eq_getElem?_getD, List.getElem?_eq_getElem hjl]; rfl
      rw [this]
    show bx_readsName_41 n f size no nv (nI k) (lx_readsName_41 n f size no nv (nI k) m) (nI j) (nI e) (nI b) fn fnm = _
    unfold bx_readsName_41
    rw [xr_n hk (by decide), hm0, if_neg (by rw [nI_le_iff (by omega) (by omega)]; omega), xl_eq, show (6 : Int32) = nI 6 from rfl, nI_mul (by omega) (by omega) (by omega), xl_eq, nI_add, xl_eq, nI_add, xr_n (by omega) (by decide), h.2.2 _ (by omega), es, nar_nI (by omega), xw_n (by omega) (by decide), xl_eq, nI_1, lx_readsName_ok h he hlet hk hm0 h6 d (j + 1) m _ (by omega) (by omega), ed]
    rfl
theorem fx_readsName_ok {n p k : Nat} {f fn fnm : Nat → Int32} {L : List Nat} {ops : List OpE} {vs : List (List Nat)} {b0 : Int32} {fs9 fm9 fu9 : Nat → Int32} (hn : 100000 ≤ n) (h : TPE f L) (hp : p ≤ L.length) (hk : k < 15) (hw : NWR ops vs fn fnm fs9 fm9 fu9) :
    ((rname L ops vs p).1 = none ∧ fx_readsName n f (nI L.length) (nI p) b0 fn fnm (nI ops.length) (nI vs.length) (nI k) = some (0, nI (rname L ops vs p).2.1, nI (rname L ops vs p).2.2, fn, fnm)) ∨
    (∃ w : List Nat, (rname L ops vs p).1 = some w ∧ isNm w = true ∧ newn ops vs w = none ∧ (∀ c ∈ w, 97 ≤ c ∧ c ≤ 122) ∧ fx_readsName n f (nI L.length) (nI p) b0 fn fnm (nI ops.length) (nI vs.length) (nI k) = some (1, nI (rname L ops vs p).2.1, nI (rname L ops vs p).2.2, put fn (6 * k) w, upd fnm k (nI w.length))) := by
  have h4 := h.1
  have hb1 := bk_le (L := L) hp
  have hw1 := wd_le (L := L) hb1
  have hw2 := wd_ge (L := L) (p := bk L p)
  have hs := sli_len (L := L) (b := bk L p) hw1
  have nn := fx_newNamed_ok (n := n) (nmL := nmF ops vs) hn h hw2 hw1 wd_let hw.1 hw.2.1 hw.2.2.1
  by_cases c1 : wd L (bk L p) ≤ bk L p
  · have hr : rname L ops vs p = (none, wd L (bk L p), bk L p) := by unfold rname; rw [if_neg (fun z => by omega)]
    rw [hr]
    refine Or.inl ⟨rfl, ?_⟩
    unfold fx_readsName
    rw [fx_word_ok hn h hp, xb3_s, if_pos c1, if_pos rfl]
  · by_cases c2 : isNm (sli L (bk L p) (wd L (bk L p))) = true
    · have h16 := isNm_iff c2
      cases hq : newn ops vs (sli L (bk L p) (wd L (bk L p))) with
      | none =>
        have hr : rname L ops vs p = (some (sli L (bk L p) (wd L (bk L p))), wd L (bk L p), bk L p) := by unfold rname; rw [if_pos ⟨by omega, c2, hq⟩]
        rw [hr]
        refine Or.inr ⟨_, rfl, c2, hq, fun c hc => ?_, ?_⟩
        · obtain ⟨i, i1, i2⟩ := List.getElem_of_mem hc
          have e9 : gb (sli L (bk L p) (wd L (bk L p))) i = c := by
            unfold gb
            rw [List.getD_eq_getElem?_getD, List.getElem?_eq_getElem i1]; exact i2
          rw [← e9, gb_sli (by omega)]
          exact (isb_lt (wd_let (p := bk L p) (bk L p + i) (by omega) (by omega))).2
        · have lp := lx_readsName_ok (n := n) (size := nI L.length) (no := nI ops.length) (nv := nI vs.length) (fnm := upd fnm k (nI (wd L (bk L p) - bk L p))) h hw1 wd_let hk (upd_eq _ _ _) (by omega) (wd L (bk L p) - bk L p) 0 n fn (by omega) (by omega)
          rw [show nI 0 = (0 : Int32) from rfl, Nat.add_zero, List.drop_zero] at lp
          have c3' : naw (nmF ops vs) ops.length vs.length L (bk L p) (wd L (bk L p)) = none := hq
          unfold fx_readsName
          rw [fx_word_ok hn h hp, xb3_s, if_neg c1, if_neg (by decide), fx_isName_ok hn h hw2 hw1 wd_let, xb1_s, if_pos c2, if_neg (by decide), nn, xb1_s, c3', if_pos (show oI none = -1 from rfl), xl_eq, nI_sub hw2, xw_n hk (by decide), lp, hs]
      | some q =>
        have hq15 := (nam_v hq).2.2
        have c3' : naw (nmF ops vs) ops.length vs.length L (bk L p) (wd L (bk L p)) = some q := hq
        have hr : rname L ops vs p = (none, wd L (bk L p), bk L p) := by unfold rname; rw [if_neg (fun z => by rw [hq] at z; exact absurd z.2.2 (by simp))]
        rw [hr]
        refine Or.inl ⟨rfl, ?_⟩
        unfold fx_readsName
        rw [fx_word_ok hn h hp, xb3_s, if_neg c1, if_neg (by decide), fx_isName_ok hn h hw2 hw1 wd_let, xb1_s, if_pos c2, if_neg (by decide), nn, xb1_s, c3', if_neg (show ¬ oI (some q) = -1 from m1_ne (by omega))]
    · have hr : rname L ops vs p = (none, wd L (bk L p), bk L p) := by unfold rname; rw [if_neg (fun z => c2 z.2.1)]
      rw [hr]
      refine Or.inl ⟨rfl, ?_⟩
      unfold fx_readsName
      rw [fx_word_ok hn h hp, xb3_s, if_neg c1, if_neg (by decide), fx_isName_ok hn h hw2 hw1 wd_let, xb1_s, if_neg c2, if_pos rfl]
