/-! ===== count: the class ===== -/
theorem lx_normalTerms_c {n no nv bits : Nat} {xx ga rt rs : Nat → Nat → Int32} {las : Nat → Bool} {so ma : Nat → Nat} {un : Nat → Option Nat} {nmL : Nat → List Nat} {A : List (List Nat)} {R : RulL} {b : Nat → Bool} (hn : 100000000 ≤ n) (he : ENV ga las so ma un no nv nmL) (hmv : MVA so ma un las nv) (hA : RWS 30 rt A) (ht : ∀ t ∈ A, tok so un ma nv t) (hU : RUP so ma un nv R) (hb9 : bits < 2 ^ R.length) (hbi : ∀ i : Nat, i < A.length → (b i = true ↔ nrm so un R (nI bits) (nth A i))) :
    ∀ (d k m : Nat) (s : Int32) (sp rf u v : Nat → Nat → Int32) (w : Nat → Nat → Int64), k + d = A.length → d < m → LSX sp v w las so ma un nv R bits →
      ∃ (r : Int32) (sp' rf' u' v' : Nat → Nat → Int32) (w' : Nat → Nat → Int64), lx_X9_normalTerms_19 n xx rt rs ga m s (nI k) sp rf u v w = some (r, sp', rf', u', v', w') ∧ (∃ (las : Nat → Bool) (N : List (List Nat)), TB v' w' las N) ∧
        (((∀ i : Nat, k ≤ i → i < A.length → ¬ TMs so un R (nI bits) (nth A i).length (nth A i)) ∧ r = orB b d k s) ∨ ((∃ i : Nat, i < A.length ∧ TMs so un R (nI bits) (nth A i).length (nth A i)) ∧ r = -1))
  | d, k, 0, s, sp, rf, u, v, w, _, hm, _ => by omega
  | 0, k, m + 1, s, sp, rf, u, v, w, hk, _, hL => by
    have hAl := hA.1
    have st : lx_X9_normalTerms_19 n xx rt rs ga (m + 1) s (nI k) sp rf u v w = bx_X9_normalTerms_19 n xx rt rs ga (lx_X9_normalTerms_19 n xx rt rs ga m) s (nI k) sp rf u v w := rfl
    rw [st]
    unfold bx_X9_normalTerms_19
    rw [hA.2.1, if_pos (by rw [nI_le_iff (by omega) (by omega)]; omega)]
    exact ⟨_, _, _, _, _, _, rfl, LSX_TB hL, Or.inl ⟨fun i h1 h2 => by omega, rfl⟩⟩
  | d + 1, k, m + 1, s, sp, rf, u, v, w, hk, hm, hL => by
    have hAl := hA.1
    have kA : k < A.length := by omega
    have tk9 := ht _ (nth_mem kA)
    have st : lx_X9_normalTerms_19 n xx rt rs ga (m + 1) s (nI k) sp rf u v w = bx_X9_normalTerms_19 n xx rt rs ga (lx_X9_normalTerms_19 n xx rt rs ga m) s (nI k) sp rf u v w := rfl
    rw [st]
    unfold bx_X9_normalTerms_19
    obtain ⟨r, sp1, rf1, u1, v1, w1, a1, ⟨N1, a2⟩, a3⟩ := list_20 (rf := rf) (u := u) hn he hmv (by decide) hU hb9 hL hA kA tk9
    rw [hA.2.1, if_neg (by rw [nI_le_iff (by omega) (by omega)]; omega), a1, xb6_s]
    rcases a3 with ⟨b1, b2, S, T, f1, f2, f3, f4⟩ | ⟨b1, b2⟩
    · have lS := f3.1
      have notT := f4.2.2.2.2
      rw [b1, if_neg (by decide), fx_used7_c f1 f3, xb1_s]
      have so1 : orB b (d + 1) k s = orB b d (k + 1) (if b k then s ||| ((1 : Int32) <<< (nI k &&& 31)) else s) := rfl
      have fin : ∀ s' : Int32, s' = (if b k then s ||| ((1 : Int32) <<< (nI k &&& 31)) else s) → ∃ (r : Int32) (sp' rf' u' v' : Nat → Nat → Int32) (w' : Nat → Nat → Int64), lx_X9_normalTerms_19 n xx rt rs ga m s' (nI (k + 1)) sp1 rf1 u1 v1 w1 = some (r, sp', rf', u', v', w') ∧ (∃ (las : Nat → Bool) (N : List (List Nat)), TB v' w' las N) ∧
          (((∀ i : Nat, k ≤ i → i < A.length → ¬ TMs so un R (nI bits) (nth A i).length (nth A i)) ∧ r = orB b (d + 1) k s) ∨ ((∃ i : Nat, i < A.length ∧ TMs so un R (nI bits) (nth A i).length (nth A i)) ∧ r = -1)) := fun s' hs' => by
        obtain ⟨r', sp', rf', u', v', w', c1, c2, c3⟩ := lx_normalTerms_c (xx := xx) (rs := rs) hn he hmv hA ht hU hb9 hbi d (k + 1) m s' sp1 rf1 u1 v1 w1 (by omega) (by omega) b2
        refine ⟨_, _, _, _, _, _, c1, c2, ?_⟩
        rcases c3 with ⟨d1, d2⟩ | d1
        · refine Or.inl ⟨fun i h1 h2 => ?_, by rw [d2, so1, hs']⟩
          by_cases e : i = k
          · rw [e]; exact notT
          · exact d1 i (by omega) h2
        · exact Or.inr d1
      by_cases z : S.length = 0
      · have nr : nrm so un R (nI bits) (nth A k) := fun y hy => by
          obtain ⟨q, q1, q2⟩ := hy
          have := (f4.2.2.2.1 q).mpr q1
          rw [List.eq_nil_of_length_eq_zero z] at this
          exact absurd this List.not_mem_nil
        have bk1 : b k = true := (hbi k kA).mpr nr
        rw [if_pos (by rw [z]; rfl), xl_eq, xl_eq, xl_eq, nI_1]
        exact fin _ (by rw [bk1, if_pos rfl])
      · have nr : ¬ nrm so un R (nI bits) (nth A k) := fun g => by
          have m0 := stq_mem (S := S) (k := 0) (by omega)
          exact g _ ⟨_, (f4.2.2.2.1 _).mp m0, rfl⟩
        have bk0 : b k = false := by
          cases q : b k with
          | false => rfl
          | true => exact absurd ((hbi k kA).mp q) nr
        rw [if_neg (by rw [show (0 : Int32) = nI 0 from rfl, nI_inj (by omega) (by decide)]; exact z), xl_eq, nI_1]
        exact fin _ (by rw [bk0]; rfl)
    · rw [b1, if_pos rfl]
      exact ⟨_, _, _, _, _, _, rfl, ⟨_, _, a2⟩, Or.inr ⟨⟨k, kA, b2⟩, rfl⟩⟩
theorem fx_normalTerms_c {n no nv : Nat} {xx ga rt rs sp rf u v : Nat → Nat → Int32} {w : Nat → Nat → Int64} {las las0 : Nat → Bool} {so ma : Nat → Nat} {un : Nat → Option Nat} {nmL : Nat → List Nat} {A N0 : List (List Nat)} {R : RulL} {on : Int32} (hn : 100000000 ≤ n) (he : ENV ga las so ma un no nv nmL) (hmv : MVA so ma un las nv) (hA : RWS 30 rt A) (ht : ∀ t ∈ A, tok so un ma nv t) (hB : RWS 16 rs (sdl R)) (hU : RUP so ma un nv R) (hx : xx 0 0 = ron on R.length) (hT : TB v w las0 N0) :
    ∃ (r : Int32) (sp' rf' u' v' : Nat → Nat → Int32) (w' : Nat → Nat → Int64), fx_X9_normalTerms n xx rt rs sp rf u v w ga = some (r, sp', rf', u', v', w') ∧ (∃ (las : Nat → Bool) (N : List (List Nat)), TB v' w' las N) ∧ NRT so un R (ron on R.length) A r := by
  obtain ⟨bits, b1, b2⟩ := ron_bits (on := on) hU.1
  have hb9 : ∀ i : Nat, i < A.length → ((fun i => @decide (nrm so un R (nI bits) (nth A i)) (Classical.propDecidable _)) i = true ↔ nrm so un R (nI bits) (nth A i)) := fun i _ => by
    show @decide _ (Classical.propDecidable _) = true ↔ _
    rw [@decide_eq_true_iff _ (Classical.propDecidable _)]
  obtain ⟨sp1, v1, w1, c1, c2⟩ := prepare_S (n := n) (sp := sp) (by omega) he hU hB b1 hT
  obtain ⟨r, sp', rf', u', v', w', d1, d2, d3⟩ := lx_normalTerms_c (xx := xx) (rs := rs) hn he hmv hA ht hU b1 hb9 A.length 0 n 0 sp1 rf u v1 w1 (by omega) (by have := hA.1; omega) c2
  unfold fx_X9_normalTerms
  rw [hx, b2, c1, xb3_s]
  refine ⟨_, _, _, _, _, _, d1, d2, ?_⟩
  rcases d3 with ⟨e1, e2⟩ | ⟨e1, e2⟩
  · exact Or.inl ⟨fun i hi => e1 i (Nat.zero_le _) hi, _, hb9, e2⟩
  · exact Or.inr ⟨e1, e2⟩
/-- sums -/
def smF (f : Nat → Nat) : Nat → Nat → Nat
  | 0, _ => 0
  | d + 1, k => f k + smF f d (k + 1)
theorem smF_congr {f g : Nat → Nat} : ∀ {d k : Nat}, (∀ i : Nat, k ≤ i → i < k + d → f i = g i) → smF f d k = smF g d k
  | 0, _, _ => rfl
  | d + 1, k, h => by
    show f k + smF f d (k + 1) = g k + smF g d (k + 1)
    rw [h k (Nat.le_refl _) (by omega), smF_congr (fun i h1 h2 => h i (by omega) (by omega))]
theorem smF_zero : ∀ {d k : Nat}, smF (fun _ => 0) d k = 0
  | 0, _ => rfl
  | d + 1, k => by
    show 0 + smF (fun _ => 0) d (k + 1) = 0
    rw [smF_zero]
theorem smF_add {f g : Nat → Nat} : ∀ {d k : Nat}, smF (fun i => f i + g i) d k = smF f d k + smF g d k
  | 0, _ => rfl
  | d + 1, k => by
    show f k + g k + smF (fun i => f i + g i) d (k + 1) = f k + smF f d (k + 1) + (g k + smF g d (k + 1))
    rw [smF_add]
    omega
theorem smF_swap {c : Nat → Nat → Nat} {B b : Nat} : ∀ {A a : Nat}, smF (fun r => smF (fun i => c r i) B b) A a = smF (fun i => smF (fun r => c r i) A a) B b
  | 0, a => by
    show 0 = smF (fun _ => 0) B b
    rw [smF_zero]
  | A + 1, a => by
    show smF (fun i => c a i) B b + smF (fun r => smF (fun i => c r i) B b) A (a + 1) = smF (fun i => c a i + smF (fun r => c r i) A (a + 1)) B b
    rw [smF_swap, smF_add]
theorem SMR_smF {P : Nat → Nat → Prop} {f : Nat → Nat} : ∀ {d k : Nat}, (∀ i : Nat, k ≤ i → i < k + d → P i (f i)) → SMR P d k (smF f d k)
  | 0, _, _ => rfl
  | d + 1, k, h => ⟨f k, smF f d (k + 1), h k (Nat.le_refl _) (by omega), SMR_smF (fun i h1 h2 => h i (by omega) (by omega)), rfl⟩
/-- two rows matched -/
theorem rows2_c {n no nv i j an : Nat} {ga va rt v u : Nat → Nat → Int32} {w : Nat → Nat → Int64} {las las0 : Nat → Bool} {so ma : Nat → Nat} {un : Nat → Option Nat} {nmL : Nat → List Nat} {B A N0 : List (List Nat)} (hn : 100000000 ≤ n) (he : ENV ga las so ma un no nv nmL) (hmv : MVA so ma un las nv) (han : an ≤ 1000) (hB : RWS an va B) (hA : RWS 30 rt A) (hT : TB v w las0 N0) (hi : i < B.length) (hj : j < A.length) (ti : tok so un ma nv (nth B i)) (tj : tok so un ma nv (nth A j)) :
    ∃ (v1 v2 v3 : Nat → Nat → Int32) (w2 w3 : Nat → Nat → Int64) (x1 x2 : Int32) (r : Int32) (u' v' : Nat → Nat → Int32) (w' : Nat → Nat → Int64), fx_X8_clear n v = some v1 ∧ fx_X8_fromRow n v1 w ga an va (nI i) = some (x1, v2, w2) ∧ fx_X8_fromRow n v2 w2 ga 30 rt (nI j) = some (x2, v3, w3) ∧ fx_X0_run n u v3 w3 ga x1 x2 = some (r, u', v', w') ∧ (∃ N : List (List Nat), TB v' w' las N) ∧
      ((r = 1 ∧ ∃ (pv : Int32) (F : List (List Nat)), MatL so un (nth B i) (nth A j) pv F ∧ u' 0 5 = nI F.length) ∨ (r = 0 ∧ TMm so un (nth B i) (nth A j))) := by
  have hn5 : 100000 ≤ n := by omega
  have hs2 := fun (o : Nat) (h : so o ≠ 3) => (ENV_op he h).2.2
  obtain ⟨v1, a1, a2, a3⟩ := fx_clear8_c (n := n) hn5 hT
  obtain ⟨x1, v2, w2, E2, b1, b2, b3, b4, b5, b6, b7⟩ := fx_fromRow_k (n := n) (held := 0) (N := []) hn5 he han hB hi ti (by decide) (TBK_nil (las' := las) a2) (by decide) a3
  obtain ⟨x2, v3, w3, E3, c1, c2, c3, c4, c5, c6, c7⟩ := fx_fromRow_k (n := n) (held := 0) hn5 he (by decide) hA hj tj (by decide) b2 (by rw [List.length_append]; simp only [List.length_nil]; omega) b6
  have lN : ([] ++ E2 ++ E3).length ≤ 40 := by simp only [List.length_append, List.length_nil]; omega
  obtain ⟨pv, hp⟩ := pvs_ex (nth B i)
  obtain ⟨d, MM, m1, m2⟩ := hmv _ _ ti tj
  have p1 := nth_pre (B := E3) b3
  have rcx : RCX n ga las so ma un no nv nmL (fun z => z ∈ ALL so un (nth A j)) 0 ([] ++ E2 ++ E3) x1 x2 (nth B i) (nth A j) pv := ⟨hn5, he, fun t hm q hq => ALL_pts he.2.1 tj hm q hq, fun t op b _ hm _ h2 hu => ALL_SS he.2.1 tj hm h2 hu, by decide, fun F f1 f2 => by have := ALL_room he.2.1 hs2 tj f1 f2; omega, ⟨p1.1, by rw [p1.2]; exact b4⟩, ⟨c3, c4⟩, hp⟩
  obtain ⟨r, u2, v4, w4, E4, d1, d2, d3, d4, d5⟩ := fx_run_c (u := u) rcx c2 c6 (ALL_self (so := so) (ma := ma) (un := un) (nv := nv)) m1 (by omega) m2
  refine ⟨v1, v2, v3, w2, w3, _, _, r, u2, v4, w4, a1, b1, c1, d1, ⟨_, d2.1⟩, ?_⟩
  rcases d5 with ⟨e1, Fs, e2, e3, e4⟩ | ⟨e1, e2⟩
  · exact Or.inl ⟨e1, pv, Fs.map (key pv), MatL_of d2.2 hp e2 e3 e4, by rw [e2.1, List.length_map]⟩
  · exact Or.inr ⟨e1, TMm_of hp e2⟩
abbrev MoaR := Option (Int32 × (Nat → Nat → Int32) × (Nat → Nat → Int64) × (Nat → Nat → Int32))
abbrev MoaK := Int32 → Int32 → (Nat → Nat → Int32) → (Nat → Nat → Int64) → (Nat → Nat → Int32) → MoaR
theorem lx_moa14_c {n no nv q : Nat} {xx ga rt rs : Nat → Nat → Int32} {las : Nat → Bool} {so ma : Nat → Nat} {un : Nat → Option Nat} {nmL : Nat → List Nat} {A : List (List Nat)} {R : RulL} {on : Int32} {k4 : MoaK} (hn : 100000000 ≤ n) (he : ENV ga las so ma un no nv nmL) (hmv : MVA so ma un las nv) (hA : RWS 30 rt A) (ht : ∀ t ∈ A, tok so un ma nv t) (hB : RWS 16 rs (sdl R)) (hU : RUP so ma un nv R) (hx : xx 0 0 = on) (hq : q < R.length) :
    ∀ (d k m a : Nat) (v u : Nat → Nat → Int32) (w : Nat → Nat → Int64) (las0 : Nat → Bool) (N0 : List (List Nat)), k + d = A.length → d < m → TB v w las0 N0 → (d = 0 ∨ onb on q = true ∨ onb on q = false) →
      (∃ (f : Nat → Nat) (v' u' : Nat → Nat → Int32) (w' : Nat → Nat → Int64), (∃ (las : Nat → Bool) (N : List (List Nat)), TB v' w' las N) ∧ lx_X9_matchesOfAll_14 n xx rt rs ga k4 m (nI a) (nI q) (nI k) v w u = k4 (nI (a + smF f d k)) (nI (q + 1)) v' w' u' ∧ ∀ i : Nat, k ≤ i → i < A.length → mcnt so un R on (nth A i) q (f i)) ∨
      ((∃ i : Nat, i < A.length ∧ onb on q = true ∧ TMm so un (rul R q).1 (nth A i)) ∧ ∃ (v' u' : Nat → Nat → Int32) (w' : Nat → Nat → Int64), (∃ (las : Nat → Bool) (N : List (List Nat)), TB v' w' las N) ∧ lx_X9_matchesOfAll_14 n xx rt rs ga k4 m (nI a) (nI q) (nI k) v w u = some (-1, v', w', u'))
  | d, k, 0, a, v, u, w, las0, N0, _, hm, _, _ => by omega
  | d, k, m + 1, a, v, u, w, las0, N0, hk, hm, hT, _ => by
    have hAl := hA.1
    have hR8 := hU.1
    have st : lx_X9_matchesOfAll_14 n xx rt rs ga k4 (m + 1) (nI a) (nI q) (nI k) v w u = bx_X9_matchesOfAll_14 n xx rt rs ga k4 (lx_X9_matchesOfAll_14 n xx rt rs ga k4 m) (nI a) (nI q) (nI k) v w u := rfl
    have ob : ((xx 0 0 >>> (nI q &&& 31)) &&& 1) = if onb on q = true then 1 else 0 := by
      rw [hx, hb_sh (by omega), onb_hb (by omega)]
    rw [st]
    unfold bx_X9_matchesOfAll_14
    rw [xl_eq, xl_eq, ob]
    cases y : onb on q with
    | false =>
      rw [if_neg (show ¬ (false = true) by decide), if_pos rfl, xl_eq, nI_1]
      refine Or.inl ⟨fun _ => 0, v, u, w, ⟨_, _, hT⟩, by rw [smF_zero]; rfl, fun i _ _ => Or.inr ⟨y, rfl⟩⟩
    | true =>
      rw [if_pos rfl, if_neg (show ¬ (1 : Int32) = 0 by decide), hA.2.1]
      cases d with
      | zero =>
        rw [if_pos (by rw [nI_le_iff (by omega) (by omega)]; omega), xl_eq, nI_1]
        exact Or.inl ⟨fun _ => 0, v, u, w, ⟨_, _, hT⟩, rfl, fun i h1 h2 => by omega⟩
      | succ d =>
        have kA : k < A.length := by omega
        obtain ⟨e1, _⟩ := sdl_get R q
        have e1' : nth (sdl R) (2 * q) = (rul R q).1 := e1
        have tl := (hU.2 _ (rul_mem2 hq)).2.1
        obtain ⟨v1, v2, v3, w2, w3, x1, x2, r, u1, v4, w4, a1, a2, a3, a4, ⟨N4, a5⟩, a6⟩ := rows2_c (u := u) (i := 2 * q) (j := k) hn he hmv (show 16 ≤ 1000 by decide) hB hA hT (by rw [sdl_len]; omega) kA (by rw [e1']; exact tl) (ht _ (nth_mem kA))
        rw [e1'] at a6
        rw [if_neg (by rw [nI_le_iff (by omega) (by omega)]; omega), a1, xb1_s, xl_eq, show (2 : Int32) = nI 2 from rfl, nI_mul (by omega) (by decide) (by omega), a2, xb3_s, a3, xb3_s, a4, xb4_s]
        rcases a6 with ⟨b1, pv, F, b2, b3⟩ | ⟨b1, b2⟩
        · rw [b1, if_neg (by decide), b3, xl_eq, xl_eq, nI_add, nI_1]
          rcases lx_moa14_c (k4 := k4) hn he hmv hA ht hB hU hx hq d (k + 1) m (a + F.length) v4 u1 w4 las N4 (by omega) (by omega) a5 (Or.inr (Or.inl y)) with ⟨f, v', u', w', c1, c2, c3⟩ | ⟨c1, c2⟩
          · refine Or.inl ⟨fun i => if i = k then F.length else f i, v', u', w', c1, ?_, fun i h1 h2 => ?_⟩
            · rw [c2]
              have e : smF (fun i => if i = k then F.length else f i) (d + 1) k = F.length + smF f d (k + 1) := by
                show (if k = k then F.length else f k) + smF (fun i => if i = k then F.length else f i) d (k + 1) = _
                rw [if_pos rfl]
                refine congrArg (fun z => F.length + z) (smF_congr (fun i h1 h2 => ?_))
                show (if i = k then F.length else f i) = f i
                rw [if_neg (by omega)]
              rw [e, Nat.add_assoc]
            · show mcnt so un R on (nth A i) q (if i = k then F.length else f i)
              by_cases e : i = k
              · rw [if_pos e, e]
                exact Or.inl ⟨y, pv, F, b2, rfl⟩
              · rw [if_neg e]
                exact c3 i (by omega) h2
          · exact Or.inr ⟨by rw [y] at c1; exact c1, c2⟩
        · rw [b1, if_pos rfl]
          exact Or.inr ⟨⟨k, kA, rfl, b2⟩, v4, u1, w4, ⟨_, _, a5⟩, rfl⟩
theorem lx_moa4_c {n no nv : Nat} {xx ga rt rs : Nat → Nat → Int32} {las : Nat → Bool} {so ma : Nat → Nat} {un : Nat → Option Nat} {nmL : Nat → List Nat} {A : List (List Nat)} {R : RulL} {on : Int32} (hn : 100000000 ≤ n) (he : ENV ga las so ma un no nv nmL) (hmv : MVA so ma un las nv) (hA : RWS 30 rt A) (ht : ∀ t ∈ A, tok so un ma nv t) (hB : RWS 16 rs (sdl R)) (hU : RUP so ma un nv R) (hx : xx 0 0 = on) :
    ∀ (d k m a : Nat) (v u : Nat → Nat → Int32) (w : Nat → Nat → Int64) (las0 : Nat → Bool) (N0 : List (List Nat)), k + d = R.length → d < m → TB v w las0 N0 →
      ∃ (r : Int32) (v' u' : Nat → Nat → Int32) (w' : Nat → Nat → Int64), lx_X9_matchesOfAll_4 n xx rt rs ga m (nI a) (nI k) v w u = some (r, v', w', u') ∧ (∃ (las : Nat → Bool) (N : List (List Nat)), TB v' w' las N) ∧
        ((∃ c : Nat → Nat → Nat, (∀ q : Nat, k ≤ q → q < R.length → ∀ i : Nat, i < A.length → mcnt so un R on (nth A i) q (c q i)) ∧ r = nI (a + smF (fun q => smF (fun i => c q i) A.length 0) d k)) ∨ (ATM so un R on A 0 ∧ r = -1))
  | d, k, 0, a, v, u, w, las0, N0, _, hm, _ => by omega
  | 0, k, m + 1, a, v, u, w, las0, N0, hk, _, hT => by
    have hR8 := hU.1
    have st : lx_X9_matchesOfAll_4 n xx rt rs ga (m + 1) (nI a) (nI k) v w u = bx_X9_matchesOfAll_4 n xx rt rs ga (lx_X9_matchesOfAll_4 n xx rt rs ga m) (nI a) (nI k) v w u := rfl
    rw [st]
    unfold bx_X9_matchesOfAll_4
    rw [fx_rules_c hB sdl_len, xb1_s, if_pos (by rw [nI_le_iff (by omega) (by omega)]; omega)]
    exact ⟨_, _, _, _, rfl, ⟨_, _, hT⟩, Or.inl ⟨fun _ _ => 0, fun q h1 h2 => by omega, rfl⟩⟩
  | d + 1, k, m + 1, a, v, u, w, las0, N0, hk, hm, hT => by
    have hR8 := hU.1
    have hAl := hA.1
    have st : lx_X9_matchesOfAll_4 n xx rt rs ga (m + 1) (nI a) (nI k) v w u = bx_X9_matchesOfAll_4 n xx rt rs ga (lx_X9_matchesOfAll_4 n xx rt rs ga m) (nI a) (nI k) v w u := rfl
    rw [st]
    unfold bx_X9_matchesOfAll_4
    rw [fx_rules_c hB sdl_len, xb1_s, if_neg (by rw [nI_le_iff (by omega) (by omega)]; omega)]
    rcases lx_moa14_c (k4 := lx_X9_matchesOfAll_4 n xx rt rs ga m) hn he hmv hA ht hB hU hx (show k < R.length by omega) A.length 0 n a v u w las0 N0 (by omega) (by omega) hT (by cases onb on k; exact Or.inr (Or.inr rfl); exact Or.inr (Or.inl rfl)) with ⟨f, v1, u1, w1, ⟨l1, N1, b1⟩, b2, b3⟩ | ⟨⟨i, b1, b2, b3⟩, v1, u1, w1, b4, b5⟩
    · have e0 : nI 0 = (0 : Int32) := rfl
      rw [e0] at b2
      rw [b2]
      obtain ⟨r, v', u', w', c1, c2, c3⟩ := lx_moa4_c hn he hmv hA ht hB hU hx d (k + 1) m (a + smF f A.length 0) v1 u1 w1 l1 N1 (by omega) (by omega) b1
      refine ⟨r, v', u', w', c1, c2, ?_⟩
      rcases c3 with ⟨c, d1, d2⟩ | c3
      · refine Or.inl ⟨fun q i => if q = k then f i else c q i, fun q h1 h2 i hi => ?_, ?_⟩
        · show mcnt so un R on (nth A i) q (if q = k then f i else c q i)
          by_cases e : q = k
          · rw [if_pos e, e]; exact b3 i (Nat.zero_le _) hi
          · rw [if_neg e]; exact d1 q (by omega) h2 i hi
        · rw [d2]
          have e : smF (fun q => smF (fun i => if q = k then f i else c q i) A.length 0) (d + 1) k = smF f A.length 0 + smF (fun q => smF (fun i => c q i) A.length 0) d (k + 1) := by
            show smF (fun i => if k = k then f i else c k i) A.length 0 + smF (fun q => smF (fun i => if q = k then f i else c q i) A.length 0) d (k + 1) = _
            have x1 : smF (fun i => if k = k then f i else c k i) A.length 0 = smF f A.length 0 := smF_congr (fun i _ _ => if_pos rfl)
            have x2 : smF (fun q => smF (fun i => if q = k then f i else c q i) A.length 0) d (k + 1) = smF (fun q => smF (fun i => c q i) A.length 0) d (k + 1) := smF_congr (fun q h1 _ => smF_congr (fun i _ _ => if_neg (by omega)))
            rw [x1, x2]
          rw [e, Nat.add_assoc]
      · exact Or.inr c3
    · have e0 : nI 0 = (0 : Int32) := rfl
      rw [e0] at b5
      rw [b5]
      exact ⟨_, _, _, _, rfl, b4, Or.inr ⟨⟨i, k, Nat.zero_le _, b1, by omega, b2, b3⟩, rfl⟩⟩
theorem fx_moa_c {n no nv : Nat} {xx ga rt rs v u : Nat → Nat → Int32} {w : Nat → Nat → Int64} {las las0 : Nat → Bool} {so ma : Nat → Nat} {un : Nat → Option Nat} {nmL : Nat → List Nat} {A N0 : List (List Nat)} {R : RulL} {on : Int32} (hn : 100000000 ≤ n) (he : ENV ga las so ma un no nv nmL) (hmv : MVA so ma un las nv) (hA : RWS 30 rt A) (ht : ∀ t ∈ A, tok so un ma nv t) (hB : RWS 16 rs (sdl R)) (hU : RUP so ma un nv R) (hx : xx 0 0 = on) (hT : TB v w las0 N0) :
    ∃ (r : Int32) (v' u' : Nat → Nat → Int32) (w' : Nat → Nat → Int64), fx_X9_matchesOfAll n xx rt rs v w ga u = some (r, v', w', u') ∧ (∃ (las : Nat → Bool) (N : List (List Nat)), TB v' w' las N) ∧ AMS so un R on A r := by
  obtain ⟨r, v', u', w', c1, c2, c3⟩ := lx_moa4_c hn he hmv hA ht hB hU hx R.length 0 n 0 v u w las0 N0 (by omega) (by have := hU.1; omega) hT
  refine ⟨r, v', u', w', c1, c2, ?_⟩
  rcases c3 with ⟨c, d1, d2⟩ | c3
  · refine Or.inl ⟨smF (fun i => smF (fun q => c q i) R.length 0) A.length 0, SMR_smF (fun i _ hi => SMR_smF (fun q _ hq => d1 q (Nat.zero_le _) (by omega) i (by omega))), ?_⟩
    rw [d2, Nat.zero_add, smF_swap]
  · exact Or.inr c3
theorem fx_count_c {n no nv : Nat} {xx ga rt rs sw sp rf u v : Nat → Nat → Int32} {w : Nat → Nat → Int64} {las las0 : Nat → Bool} {so ma : Nat → Nat} {un : Nat → Option Nat} {nmL : Nat → List Nat} {A N0 : List (List Nat)} {R : RulL} {on x : Int32} (hn : 100000000 ≤ n) (he : ENV ga las so ma un no nv nmL) (hmv : MVA so ma un las nv) (hA : RWS 30 rt A) (ht : ∀ t ∈ A, tok so un ma nv t) (hB : RWS 16 rs (sdl R)) (hU : RUP so ma un nv R) (hx : xx 0 0 = ron on R.length) (hT : TB v w las0 N0) :
    ∃ (r : Int32) (sp' rf' u' v' : Nat → Nat → Int32) (w' : Nat → Nat → Int64), fx_X9_count n xx rt rs sw sp rf u v w ga x = some (r, sp', rf', u', v', w') ∧ (∃ (las : Nat → Bool) (N : List (List Nat)), TB v' w' las N) ∧ CNTo so un no nv R (ron on R.length) A (sw 0 0) x r := by
  have hn5 : 100000 ≤ n := by omega
  unfold fx_X9_count
  by_cases hx9 : isn x 9
  · obtain ⟨q, w1, w2⟩ := isn_of (by decide) hx9
    rw [w2, nI_toInt (by omega)]
    have hw9 : q = 0 ∨ q = 1 ∨ q = 2 ∨ q = 3 ∨ q = 4 ∨ q = 5 ∨ q = 6 ∨ q = 7 ∨ q = 8 := by omega
    rcases hw9 with rfl | rfl | rfl | rfl | rfl | rfl | rfl | rfl | rfl
    · rw [if_neg (by decide), if_pos (by decide), he.1.2.2.1]
      exact ⟨_, _, _, _, _, _, rfl, ⟨_, _, hT⟩, Or.inl ⟨rfl, rfl⟩⟩
    · rw [if_neg (by decide), if_neg (by decide), if_pos (by decide), he.1.2.2.2.1]
      exact ⟨_, _, _, _, _, _, rfl, ⟨_, _, hT⟩, Or.inr (Or.inl ⟨rfl, rfl⟩)⟩
    · rw [if_neg (by decide), if_neg (by decide), if_neg (by decide), if_pos (by decide), hA.2.1]
      exact ⟨_, _, _, _, _, _, rfl, ⟨_, _, hT⟩, Or.inr (Or.inr (Or.inl ⟨rfl, rfl⟩))⟩
    · rw [if_neg (by decide), if_neg (by decide), if_neg (by decide), if_neg (by decide), if_pos (by decide), fx_rules_c hB sdl_len, xb1_s]
      exact ⟨_, _, _, _, _, _, rfl, ⟨_, _, hT⟩, Or.inr (Or.inr (Or.inr (Or.inl ⟨rfl, rfl⟩)))⟩
    · rw [if_neg (by decide), if_neg (by decide), if_neg (by decide), if_neg (by decide), if_neg (by decide), if_pos (by decide)]
      exact ⟨_, _, _, _, _, _, rfl, ⟨_, _, hT⟩, Or.inr (Or.inr (Or.inr (Or.inr (Or.inl ⟨rfl, hx⟩))))⟩
    · rw [if_neg (by decide), if_neg (by decide), if_neg (by decide), if_neg (by decide), if_neg (by decide), if_neg (by decide), if_pos (by decide)]
      exact ⟨_, _, _, _, _, _, rfl, ⟨_, _, hT⟩, Or.inr (Or.inr (Or.inr (Or.inr (Or.inr (Or.inl ⟨rfl, rfl⟩)))))⟩
    · obtain ⟨r, sp', rf', u', v', w', c1, c2, c3⟩ := fx_normalTerms_c (sp := sp) (rf := rf) (u := u) hn he hmv hA ht hB hU hx hT
      rw [if_neg (by decide), if_neg (by decide), if_neg (by decide), if_neg (by decide), if_neg (by decide), if_neg (by decide), if_neg (by decide), if_pos (by decide), c1, xb6_s]
      exact ⟨_, _, _, _, _, _, rfl, c2, Or.inr (Or.inr (Or.inr (Or.inr (Or.inr (Or.inr (Or.inl ⟨rfl, c3⟩))))))⟩
    · rw [if_neg (by decide), if_neg (by decide), if_neg (by decide), if_neg (by decide), if_neg (by decide), if_neg (by decide), if_neg (by decide), if_neg (by decide), if_pos (by decide), fx_greatest_c hn5 hA, xb1_s]
      exact ⟨_, _, _, _, _, _, rfl, ⟨_, _, hT⟩, Or.inr (Or.inr (Or.inr (Or.inr (Or.inr (Or.inr (Or.inr (Or.inl ⟨rfl, rfl⟩)))))))⟩
    · obtain ⟨r, v', u', w', c1, c2, c3⟩ := fx_moa_c (u := u) hn he hmv hA ht hB hU hx hT
      rw [if_neg (by decide), if_neg (by decide), if_neg (by decide), if_neg (by decide), if_neg (by decide), if_neg (by decide), if_neg (by decide), if_neg (by decide), if_neg (by decide), if_pos (by decide), c1, xb4_s]
      exact ⟨_, _, _, _, _, _, rfl, c2, Or.inr (Or.inr (Or.inr (Or.inr (Or.inr (Or.inr (Or.inr (Or.inr (Or.inl ⟨rfl, c3⟩))))))))⟩
  · have : x.toInt < 0 ∨ 8 < x.toInt := by
      unfold isn at hx9
      omega
    rw [if_pos this]
    exact ⟨_, _, _, _, _, _, rfl, ⟨_, _, hT⟩, Or.inr (Or.inr (Or.inr (Or.inr (Or.inr (Or.inr (Or.inr (Or.inr (Or.inr ⟨hx9, rfl⟩))))))))⟩
