/-! ===== what lasts is kept where terms are filled ===== -/
theorem cnt_perm {f : Nat → Nat} {a b : List Nat} (h : a.Perm b) : cnt f a = cnt f b := by
  induction h with
  | nil => rfl
  | cons x _ ih => show f x + _ = f x + _; rw [ih]
  | swap x y l => show f y + (f x + cnt f l) = f x + (f y + cnt f l); omega
  | trans _ _ h1 h2 => rw [h1, h2]
/-- counts that sums and units don't have -/
def LQ (so : Nat → Nat) (un : Nat → Option Nat) (f : Nat → Nat) : Prop := (∀ c : Nat, 512 ≤ c → so (c / 512 - 1) = 2 → f c = 0) ∧ ∀ p u : Nat, un p = some u → f (cdo u 0) = 0
theorem cnt_flat1 {so : Nat → Nat} {un : Nat → Option Nat} {f : Nat → Nat} {op : Nat} {t : List Nat} (hf : LQ so un f) (h : wf 1 t) : cnt f (flat1 so un op t).flatten = cnt f t := by
  unfold flat1
  by_cases q2 : so op = 2
  · rw [if_pos q2]
    by_cases qo : isop op t = true
    · rw [if_pos qo]
      obtain ⟨a, b⟩ := (isop_hd h).mp qo
      have e := congrArg (cnt f) (row_pts h)
      rw [e]
      show _ = f (hd0 t) + cnt f (pts t).flatten
      rw [hf.1 _ a (by rw [b]; exact q2), Nat.zero_add]
    · rw [if_neg qo]
      by_cases qu : isun un op t = true
      · rw [if_pos qu]
        obtain ⟨u, u1, u2⟩ := isun_row (so := so) h qu
        rw [u2]
        show 0 = f (cdo u 0) + 0
        rw [hf.2 op u u1]
      · rw [if_neg qu, List.flatten_cons, List.flatten_nil, List.append_nil]
  · rw [if_neg q2, List.flatten_cons, List.flatten_nil, List.append_nil]
theorem cnt_flats {so : Nat → Nat} {un : Nat → Option Nat} {f : Nat → Nat} {op : Nat} (hf : LQ so un f) : ∀ {ts : List (List Nat)}, wfs ts → cnt f (flats so un op ts).flatten = cnt f ts.flatten
  | [], _ => rfl
  | t :: ts, h => by
    show cnt f (flat1 so un op t ++ flats so un op ts).flatten = cnt f (t ++ ts.flatten)
    rw [List.flatten_append, cnt_app, cnt_app, cnt_flat1 hf (h t List.mem_cons_self), cnt_flats hf (fun q hq => h q (List.mem_cons_of_mem _ hq))]
theorem cnt_stand {so : Nat → Nat} {un : Nat → Option Nat} {f : Nat → Nat} {op : Nat} {ts : List (List Nat)} (hf : LQ so un f) (h : wfs ts) (hN : ts.flatten.length < 512) (hop : op < 10) : cnt f (stand so un op ts) = cnt f ts.flatten + (if so op = 2 then 0 else f (cdo op ts.length)) := by
  have hp := stys_perm (so := so) (un := un) (op := op) (ts := ts)
  have e1 : cnt f (stys so un op ts).flatten = cnt f ts.flatten := by
    rw [cnt_perm (hp.flatten), cnt_flats hf h]
  have hl := (flats_len (so := so) (un := un) (op := op) h).1
  have hll := hp.length_eq
  rw [stand_stys]
  by_cases q2 : so op = 2
  · rw [if_pos q2, Nat.add_zero, ← e1]
    by_cases z : 2 ≤ (stys so un op ts).length
    · rw [mkt_many (fun _ => z)]
      show f (cdo op (stys so un op ts).length) + cnt f (stys so un op ts).flatten = _
      rw [hf.1 _ (by unfold cdo; omega) (by rw [show cdo op (stys so un op ts).length / 512 - 1 = op by unfold cdo; omega]; exact q2), Nat.zero_add]
    · have : (stys so un op ts).length = 0 ∨ (stys so un op ts).length = 1 := by omega
      rcases this with g | g
      · have e := List.length_eq_zero_iff.mp g
        rw [e]
        cases hu : un op with
        | none =>
          have em : mkt so un op [] = [] := by unfold mkt; rw [if_pos q2, hu]
          rw [em]; rfl
        | some u =>
          rw [mkt_nil q2 hu]
          show f (cdo u 0) + 0 = 0
          rw [hf.2 op u hu]
      · obtain ⟨y, hy⟩ := List.length_eq_one_iff.mp g
        rw [hy, mkt_one q2, List.flatten_cons, List.flatten_nil, List.append_nil]
  · rw [if_neg q2, mkt_many (fun z => absurd z q2)]
    have el : (stys so un op ts).length = ts.length := by rw [hll, flats_n2 q2]
    show f (cdo op (stys so un op ts).length) + cnt f (stys so un op ts).flatten = _
    rw [e1, el, Nat.add_comm]
/-- a filled pattern's counts -/
def cfl (f : Nat → Nat) (sg : Nat → List Nat) (c : Nat) : Nat := if c < 512 then cnt f (sg c) else f c
theorem cnt_filT {so : Nat → Nat} {un : Nat → Option Nat} {sg : Nat → List Nat} {f : Nat → Nat} (hsu : SU so un) (hf : LQ so un f) : ∀ (d : Nat) (t : List Nat), okt so t → t.length ≤ d → t.length ≤ 21 → vok so sg 20 t → cnt f (filT so un sg d t) = cnt (cfl f sg) t
  | 0, t, h, hl, _, _ => by
    have := wf_pos h.1
    omega
  | d + 1, [], h, _, _, _ => absurd h.1.symm (by decide)
  | d + 1, c :: l, h, hl, h21, hv => by
    simp only [List.length_cons] at hl h21
    rw [filT_s]
    by_cases q : c < 512
    · have hleaf : l = [] := leaf_row h (by unfold ar; rw [if_pos q])
      rw [if_pos q, hleaf]
      show _ = cfl f sg c + 0
      unfold cfl
      rw [if_pos q]; rfl
    · rw [if_neg q]
      by_cases ha : ar c = 0
      · rw [if_pos ha, leaf_row h ha]
        show f c + 0 = cfl f sg c + 0
        unfold cfl
        rw [if_neg q]
      · rw [if_neg ha]
        obtain ⟨p1, p2, p3⟩ := pts_of h.1
        obtain ⟨o1, o2, o3⟩ := okt_op h q
        obtain ⟨m1, m2⟩ := map_okts (d := d) hsu h (by omega) (by omega) hv
        rw [cnt_stand hf (okts_wfs m1) m2 o3.1, List.length_map, p2]
        have e : ∀ (ts : List (List Nat)), (∀ q ∈ ts, q ∈ pts (c :: l)) → cnt f (ts.map (filT so un sg d)).flatten = cnt (cfl f sg) ts.flatten := by
          intro ts
          induction ts with
          | nil => intro _; rfl
          | cons x ts ih =>
            intro hx
            have hxm := hx x List.mem_cons_self
            rw [List.map_cons, List.flatten_cons, List.flatten_cons, cnt_app, cnt_app, ih (fun q hq => hx q (List.mem_cons_of_mem _ hq)), cnt_filT hsu hf d x (okt_pts h x hxm) (by have := pts_short h.1 hxm; omega) (by have := pts_short h.1 hxm; omega) (fun z hz h5 => hv z (mem_pts h.1 hxm hz) h5)]
        rw [e _ (fun q hq => hq), p3]
        show cnt (cfl f sg) l + _ = cfl f sg c + cnt (cfl f sg) l
        have ec : cdo (c / 512 - 1) (ar c) = c := (cdo_of o1 rfl).symm
        have ecf : cfl f sg c = f c := by unfold cfl; rw [if_neg q]
        rw [ec, ecf]
        by_cases z : so (c / 512 - 1) = 2
        · rw [if_pos z, hf.1 c o1 z, Nat.zero_add]; rfl
        · rw [if_neg z, Nat.add_comm]
/-- over the five variables -/
def sv5 (f : Nat → Nat) : Nat := f 0 + f 1 + f 2 + f 3 + f 4
def chi (las : Nat → Bool) (h c : Nat) : Nat := if las (hed c) = true ∧ hed c = h then 1 else 0
theorem chi_LQ {ga : Nat → Nat → Int32} {las : Nat → Bool} {so ma : Nat → Nat} {un : Nat → Option Nat} {no nv h : Nat} {nmL : Nat → List Nat} (he : ENV ga las so ma un no nv nmL) : LQ so un (chi las h) := by
  have hL := he.2.2.2.2.2.2
  refine ⟨fun c hc h2 => ?_, fun p u hu => ?_⟩
  · unfold chi
    refine if_neg (fun z => ?_)
    have e : hed c = 5 + (c / 512 - 1) := by unfold hed; rw [if_neg (by omega)]; omega
    rw [e] at z
    exact (hL _ z.1).1 h2
  · unfold chi
    refine if_neg (fun z => ?_)
    have e : hed (cdo u 0) = 5 + u := by unfold hed cdo; rw [if_neg (by omega)]; omega
    rw [e] at z
    exact (hL _ z.1).2 p hu
theorem cfl_split {las : Nat → Bool} {sg : Nat → List Nat} {h : Nat} (hlas : ∀ z : Nat, z < 5 → las z = true) : ∀ {P : List Nat}, col P → cnt (cfl (chi las h) sg) P = (if h < 5 then 0 else fld las P h) + sv5 (fun v => fld las P v * fld las (sg v) h)
  | [], _ => by
    show 0 = (if h < 5 then 0 else 0) + (0 * _ + 0 * _ + 0 * _ + 0 * _ + 0 * _)
    simp
  | c :: P, hc => by
    have ih := cfl_split (sg := sg) (h := h) hlas (P := P) (col_cons.mp hc).2
    show cfl (chi las h) sg c + cnt (cfl (chi las h) sg) P = (if h < 5 then 0 else chi las h c + fld las P h) + sv5 (fun v => (chi las v c + fld las P v) * fld las (sg v) h)
    rw [ih]
    rcases (col_cons.mp hc).1 with g | g
    · have ehd : hed c = c := by unfold hed; rw [if_pos (by omega)]
      have ecf : cfl (chi las h) sg c = fld las (sg c) h := by unfold cfl; rw [if_pos (by omega)]; rfl
      have ex : ∀ v : Nat, chi las v c = if c = v then 1 else 0 := fun v => by
        unfold chi
        rw [ehd]
        by_cases z : c = v
        · rw [if_pos ⟨hlas c g, z⟩, if_pos z]
        · rw [if_neg (fun y => z y.2), if_neg z]
      have e5 : (if h < 5 then 0 else chi las h c + fld las P h) = (if h < 5 then 0 else fld las P h) := by
        by_cases z : h < 5
        · rw [if_pos z, if_pos z]
        · rw [if_neg z, if_neg z, ex, if_neg (by omega), Nat.zero_add]
      rw [ecf, e5]
      unfold sv5
      simp only [ex]
      have : c = 0 ∨ c = 1 ∨ c = 2 ∨ c = 3 ∨ c = 4 := by omega
      rcases this with rfl | rfl | rfl | rfl | rfl <;> simp [Nat.add_mul] <;> omega
    · have ecf : cfl (chi las h) sg c = chi las h c := by unfold cfl; rw [if_neg (by omega)]
      have ehd : hed c = c / 512 + 4 := by unfold hed; rw [if_neg (by omega)]
      have ex : ∀ v : Nat, v < 5 → chi las v c = 0 := fun v hv => by
        unfold chi
        rw [ehd]
        exact if_neg (fun y => by omega)
      rw [ecf]
      unfold sv5
      simp only [ex 0 (by decide), ex 1 (by decide), ex 2 (by decide), ex 3 (by decide), ex 4 (by decide), Nat.zero_add]
      by_cases z : h < 5
      · rw [if_pos z, if_pos z, ex h z]; omega
      · rw [if_neg z, if_neg z]; omega
/-- counts of a filled pattern -/
theorem fld_fil {ga : Nat → Nat → Int32} {las : Nat → Bool} {so ma : Nat → Nat} {un : Nat → Option Nat} {no nv h : Nat} {nmL : Nat → List Nat} {sg : Nat → List Nat} {p : List Nat} (he : ENV ga las so ma un no nv nmL) (hp : okt so p) (hl : p.length ≤ 20) (hv : von so un sg p) : fld las (fil so un sg p) h = (if h < 5 then 0 else fld las p h) + sv5 (fun v => fld las p v * fld las (sg v) h) := by
  have e := cnt_filT (SV_SU he.2.1) (chi_LQ (h := h) he) 21 p hp (by omega) (by omega) (von_vok hv)
  rw [cfl_split he.2.2.2.2.2.1 hp.2.1] at e
  exact e
/-! ===== the walk of fits ===== -/
theorem pkf_div {D : Nat → Nat} {i k : Nat} (h : D i < 64) : pkf D i (k + 1) / 64 = pkf D (i + 1) k := by
  show (D i + 64 * pkf D (i + 1) k) / 64 = _
  omega
theorem nI_and {a b : Nat} : nI a &&& nI b = nI (a &&& b) := by
  apply Int32.toBitVec_inj.mp
  show BitVec.ofNat 32 a &&& BitVec.ofNat 32 b = BitVec.ofNat 32 (a &&& b)
  apply BitVec.eq_of_getLsbD_eq
  intro i hi
  rw [BitVec.getLsbD_and, BitVec.getLsbD_ofNat, BitVec.getLsbD_ofNat, BitVec.getLsbD_ofNat, Nat.testBit_and]
  simp [hi]
theorem nL_shr {X k : Nat} (hX : X < 9223372036854775808) (hk : k < 64) : nL X >>> ((nI k).toInt64 &&& 63) = nL (X / 2 ^ k) := by
  apply Int64.toBitVec_inj.mp
  rw [shr64 hk]
  show (BitVec.ofNat 64 X).sshiftRight k = BitVec.ofNat 64 (X / 2 ^ k)
  have hm : (BitVec.ofNat 64 X).msb = false := by
    rw [BitVec.msb_eq_decide, BitVec.toNat_ofNat]
    exact decide_eq_false (by omega)
  rw [BitVec.sshiftRight_eq_of_msb_false hm]
  apply BitVec.eq_of_toNat_eq
  have h2 : X / 2 ^ k ≤ X := Nat.div_le_self _ _
  rw [BitVec.toNat_ushiftRight, BitVec.toNat_ofNat, BitVec.toNat_ofNat, Nat.mod_eq_of_lt (by omega), Nat.mod_eq_of_lt (by omega), Nat.shiftRight_eq_div_pow]
theorem times_c {D : Nat → Nat} {v : Nat} (hd : ∀ h : Nat, D h < 32) (hv : v < 5) : ((nL (pkf D 0 10) >>> (((6 : Int32) * nI v).toInt64 &&& 63)).toInt32 &&& 31) = nI (D v) := by
  have h64 : ∀ h : Nat, D h < 64 := fun h => by have := hd h; omega
  have l := pkf_lt10 (i := 0) h64
  have e6 : (6 : Int32) * nI v = nI (6 * v) := by rw [show (6 : Int32) = nI 6 from rfl, nI_mul (by omega) (by decide) (by omega)]
  rw [e6, nL_shr (by omega) (by omega)]
  have ed : pkf D 0 10 / 2 ^ (6 * v) = pkf D v (10 - v) := by
    have d1 : pkf D 0 10 / 64 = pkf D 1 9 := pkf_div (k := 9) (h64 0)
    have d2 : pkf D 1 9 / 64 = pkf D 2 8 := pkf_div (k := 8) (h64 1)
    have d3 : pkf D 2 8 / 64 = pkf D 3 7 := pkf_div (k := 7) (h64 2)
    have d4 : pkf D 3 7 / 64 = pkf D 4 6 := pkf_div (k := 6) (h64 3)
    have : v = 0 ∨ v = 1 ∨ v = 2 ∨ v = 3 ∨ v = 4 := by omega
    rcases this with rfl | rfl | rfl | rfl | rfl
    · simp
    · exact d1
    · show pkf D 0 10 / 4096 = pkf D 2 8
      omega
    · show pkf D 0 10 / 262144 = pkf D 3 7
      omega
    · show pkf D 0 10 / 16777216 = pkf D 4 6
      omega
  rw [ed]
  have ei : (nL (pkf D v (10 - v))).toInt32 = nI (pkf D v (10 - v)) := Int64.toInt32_ofNat'
  rw [ei, show (31 : Int32) = nI 31 from rfl, nI_and]
  have em : pkf D v (10 - v) &&& 31 = pkf D v (10 - v) % 32 := Nat.and_two_pow_sub_one_eq_mod _ 5
  rw [em]
  have es : pkf D v (10 - v) = D v + 64 * pkf D (v + 1) (9 - v) := by
    rw [show 10 - v = (9 - v) + 1 by omega]; rfl
  have := hd v
  rw [es]
  exact congrArg nI (by omega)
theorem opf_c {D : Nat → Nat} (hd : ∀ h : Nat, D h < 64) : nL (pkf D 0 10) &&& (-1073741824 : Int64) = nL (pkf (fun h => if h < 5 then 0 else D h) 0 10) := by
  have e : (-1073741824 : Int64) = nL (0 + 64 * (0 + 64 * (0 + 64 * (0 + 64 * (0 + 64 * 17179869183))))) := by decide +kernel
  rw [e, nL_and]
  have l5 : pkf D 5 5 < 64 ^ 5 := pkf_lt (k := 5) hd
  have em : pkf D 5 5 &&& 17179869183 = pkf D 5 5 % 17179869184 := Nat.and_two_pow_sub_one_eq_mod _ 34
  have e5 : pkf D 5 5 &&& 17179869183 = pkf D 5 5 := by
    rw [em]
    have : 64 ^ 5 = 1073741824 := by decide
    omega
  have ex : pkf D 0 10 = D 0 + 64 * (D 1 + 64 * (D 2 + 64 * (D 3 + 64 * (D 4 + 64 * pkf D 5 5)))) := rfl
  have ey : pkf (fun h => if h < 5 then 0 else D h) 0 10 = 0 + 64 * (0 + 64 * (0 + 64 * (0 + 64 * (0 + 64 * pkf D 5 5)))) := by
    have : pkf (fun h => if h < 5 then 0 else D h) 5 5 = pkf D 5 5 := pkf_congr (fun h h1 _ => if_neg (by omega))
    rw [← this]; rfl
  rw [ex, ey, dg_and (hd 0) (by decide), dg_and (hd 1) (by decide), dg_and (hd 2) (by decide), dg_and (hd 3) (by decide), dg_and (hd 4) (by decide), e5, Nat.and_zero, Nat.and_zero, Nat.and_zero, Nat.and_zero, Nat.and_zero]
