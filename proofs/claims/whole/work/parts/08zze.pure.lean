/-! ===== the stepper: rebuild, in the class ===== -/
theorem range_snoc {β : Type} {f : Nat → β} {i : Nat} : (List.range (i + 1)).map f = (List.range i).map f ++ [f i] := by
  rw [List.range_succ, List.map_append]; rfl
theorem lx_rb85_c {n a k p j no nv : Nat} {ga sp : Nat → Nat → Int32} {w8 : Nat → Nat → Int64} {las : Nat → Bool} {N : List (List Nat)} {so ma : Nat → Nat} {un : Nat → Option Nat} {nmL : Nat → List Nat} {s b : List Nat} {r x5 P0 P1 : Int32} {k8 : Int32 → Int32 → Int32 → (Nat → Nat → Int32) → (Nat → Nat → Int64) → Option (Int32 × (Nat → Nat → Int32) × (Nat → Nat → Int64))} (hn : 100000 ≤ n) (he : ENV ga las so ma un no nv nmL) (ho : opn s < 10 ∧ so (opn s) ≠ 3) (ha : a < N.length) (ha2 : nth N a = s) (hk : k < 20) (hp : p < 20) (h6 : sp 6 p = nI a) (h8 : sp 8 k = nI j) (hj : j < (pts s).length) (hs : tok so un ma nv s) (hr : VAL N so r b) :
    ∀ (d i m : Nat) (v : Nat → Nat → Int32), i + d = (pts s).length → d < m → TBK v w8 las so ma un nv N → LST v N so un (opn s) ((List.range i).map (fun z => if z = j then b else nth (pts s) z)) →
      ∃ v' : Nat → Nat → Int32, lx_X7_rebuild_85 n sp ga P0 P1 k8 m r (nI k) x5 (nI p) (nI (cc (hd0 s))) (nI i) v w8 = (xb3 (fx_X8_close n v' w8 ga) fun r10 v11 w12 => k8 r10 (nI p) (x5 + 1) v11 w12) ∧ FRL v v' ∧ TBK v' w8 las so ma un nv N ∧ LST v' N so un (opn s) (setp (pts s) j b)
  | 0, i, m + 1, v, hi, _, hT, hL => by
    have ei : i = (pts s).length := by omega
    subst ei
    have nd := (TB_get hT.1 ha).1
    have hc := nd.2.1 _ (hd0_mem nd.1)
    rw [ha2] at hc
    have pl := pts_len hs.1.1.1
    refine ⟨v, ?_, FRL.refl, hT, hL⟩
    show bx_X7_rebuild_85 n sp ga P0 P1 k8 (lx_X7_rebuild_85 n sp ga P0 P1 k8 m) r (nI k) x5 (nI p) (nI (cc (hd0 s))) (nI (pts s).length) v w8 = _
    unfold bx_X7_rebuild_85
    rw [fx_partsIn_c hc, xb1_s, ← pl, if_pos (Int32.le_refl _)]
    simp only [xl_eq]
  | d + 1, i, m + 1, v, hi, hm, hT, hL => by
    have nd := (TB_get hT.1 ha).1
    have hc := nd.2.1 _ (hd0_mem nd.1)
    have h66 := nd.2.2.2.2
    rw [ha2] at hc h66
    have pl := pts_len hs.1.1.1
    have hsh : lx_X7_rebuild_85 n sp ga P0 P1 k8 (m + 1) r (nI k) x5 (nI p) (nI (cc (hd0 s))) (nI i) v w8 = bx_X7_rebuild_85 n sp ga P0 P1 k8 (lx_X7_rebuild_85 n sp ga P0 P1 k8 m) r (nI k) x5 (nI p) (nI (cc (hd0 s))) (nI i) v w8 := rfl
    have so10 : so (opn s) < 10 := by
      have := (ENV_op he ho.2).2.2
      omega
    rw [hsh]
    unfold bx_X7_rebuild_85
    rw [fx_partsIn_c hc, xb1_s, if_neg (by rw [nI_le_iff (by omega) (by omega)]; omega), xr_n hk (by decide), h8]
    by_cases z : i = j
    · rw [if_pos (by rw [z])]
      obtain ⟨v1, y1, y2, y3⟩ := lay_LST (n := n) hn he.2.1 hT.1 ho.1 so10 hL hr
      rw [y1, xb1_s, xl_eq, nI_1]
      obtain ⟨v', g1, g2, g3, g4⟩ := lx_rb85_c (P0 := P0) (P1 := P1) (x5 := x5) (k8 := k8) hn he ho ha ha2 hk hp h6 h8 hj hs hr d (i + 1) m v1 (by omega) (by omega) ⟨TB_FRL hT.1 y2, hT.2⟩ (by rw [range_snoc, if_pos z]; exact y3)
      exact ⟨v', g1, FRL.trans y2 g2, g3, g4⟩
    · rw [if_neg (by rw [nI_inj (by omega) (by omega)]; exact z), xr_n hp (by decide), h6]
      obtain ⟨q, q1, q2, q3⟩ := fx_partOf_c (n := n) hT.1 ha (j := i) (by rw [ha2, ← pl]; omega)
      rw [ha2] at q2
      have tq := hT.2 _ (nth_mem (show q < N.length by omega))
      obtain ⟨v1, y1, y2, y3⟩ := lay_LST (n := n) hn he.2.1 hT.1 ho.1 so10 hL (r := nI q) (t := nth (pts s) i) (Or.inr ⟨by rw [← q2]; exact tq.2.1, q, by omega, q2, rfl⟩)
      rw [q3, xb1_s, y1, xb1_s, xl_eq, nI_1]
      obtain ⟨v', g1, g2, g3, g4⟩ := lx_rb85_c (P0 := P0) (P1 := P1) (x5 := x5) (k8 := k8) hn he ho ha ha2 hk hp h6 h8 hj hs hr d (i + 1) m v1 (by omega) (by omega) ⟨TB_FRL hT.1 y2, hT.2⟩ (by rw [range_snoc, if_neg z]; exact y3)
      exact ⟨v', g1, FRL.trans y2 g2, g3, g4⟩
theorem PND_ext {u : Nat → Nat → Int32} {N E : List (List Nat)} {w : List Nat} {K : Nat} (h : PND u N w K) : PND u (N ++ E) w K := fun k hk => by
  obtain ⟨⟨y, a, b, c⟩, g⟩ := h k hk
  exact ⟨⟨y, (nth_pre a).1, by rw [(nth_pre a).2]; exact b, c⟩, g⟩
theorem PND_up {u : Nat → Nat → Int32} {N : List (List Nat)} {w : List Nat} {K : Nat} (h : PND u N w K) : WUP w K := fun k hk => by
  rcases (h k hk).2 with g | ⟨p, j, g, _⟩
  · exact Or.inl g.1
  · exact Or.inr ⟨p, j, g⟩
/-- what rebuild gives -/
def RBO (las : Nat → Bool) (so ma : Nat → Nat) (un : Nat → Option Nat) (nv : Nat) (N : List (List Nat)) (v : Nat → Nat → Int32) (k : Nat) (x : List Nat) (o : Option (Int32 × (Nat → Nat → Int32) × (Nat → Nat → Int64))) : Prop :=
  ∃ (r' : Int32) (v' : Nat → Nat → Int32) (w' : Nat → Nat → Int64) (E : List (List Nat)), o = some (r', v', w') ∧ TBK v' w' las so ma un nv (N ++ E) ∧ VAL (N ++ E) so r' x ∧ E.length ≤ k ∧ v' 0 1 = v 0 1 ∧ v' 9 = v 9
theorem lx_rb8_c {n K no nv : Nat} {ga sp : Nat → Nat → Int32} {las : Nat → Bool} {so ma : Nat → Nat} {un : Nat → Option Nat} {nmL : Nat → List Nat} {w : List Nat} {P0 P1 : Int32} (hn : 100000 ≤ n) (he : ENV ga las so ma un no nv nmL) (hw : tok so un ma nv w) (hK : K ≤ 20) :
    ∀ (k : Nat) (m dep : Nat) (b : List Nat) (r : Int32) (N : List (List Nat)) (v : Nat → Nat → Int32) (w8 : Nat → Nat → Int64), k < K → k < m → dep + k < 20 → PND sp N w K → TBK v w8 las so ma un nv N → N.length + k ≤ 1024 → VAL N so r b → nok so un b → sS so ma nv b → b.length ≤ 450 + (sbt w k).length →
      RBO las so ma un nv N v k (reb so un k b w) (lx_X7_rebuild_8 n sp ga P0 P1 m r (nI k) (nI dep) v w8) := by
  intro k
  induction k using Nat.strongRecOn with
  | _ k ih =>
    intro m dep b r N v w8 hk hm hd hP hT hN hr b1 b2 b3
    have h1 := hT.1.1
    obtain ⟨m', rfl⟩ : ∃ m' : Nat, m = m' + 1 := ⟨m - 1, by omega⟩
    have hsh : lx_X7_rebuild_8 n sp ga P0 P1 (m' + 1) r (nI k) (nI dep) v w8 = bx_X7_rebuild_8 n sp ga P0 P1 (lx_X7_rebuild_8 n sp ga P0 P1 m') r (nI k) (nI dep) v w8 := rfl
    rw [hsh]
    unfold bx_X7_rebuild_8
    rw [if_neg (by rw [show (20 : Int32) = nI 20 from rfl, nI_le_iff (by decide) (by omega)]; omega)]
    have e0 : (0 : Int32) = nI 0 := rfl
    rcases (hP k hk).2 with ⟨z1, _⟩ | ⟨p, j, hPT, s7, s8⟩
    · subst z1
      rw [if_pos (by decide)]
      exact ⟨r, v, w8, [], rfl, by rw [List.append_nil]; exact hT, by rw [List.append_nil, reb_0 hw]; exact hr, Nat.le_refl _, rfl, rfl⟩
    · have hpk := hPT.1
      rw [if_neg (by rw [e0, nI_le_iff (by omega) (by decide)]; omega), if_neg (by rw [show (20 : Int32) = nI 20 from rfl, nI_le_iff (by decide) (by omega)]; omega)]
      by_cases rg : r < 0
      · rw [if_pos rg]
        rcases hr with ⟨g1, g2⟩ | ⟨g1, i, i1, i2, i3⟩
        · exact ⟨r, v, w8, [], rfl, by rw [List.append_nil]; exact hT, Or.inl ⟨great_reb he.2.1 hw (PND_up hP) k b hk b1 b2 b3 g1, g2⟩, Nat.zero_le _, rfl, rfl⟩
        · rw [i3, e0, nI_lt_iff (by omega) (by decide)] at rg; omega
      · rw [if_neg rg, xr_n (by omega) (by decide), s7, if_neg (by rw [e0, nI_lt_iff (by omega) (by decide)]; omega), if_pos (by rw [show (20 : Int32) = nI 20 from rfl, nI_lt_iff (by omega) (by decide)]; omega), xr_n (by omega) (by decide)]
        obtain ⟨⟨a, a1, a2, a3⟩, _⟩ := hP p (by omega)
        obtain ⟨g1, g2, g3, g4, g5, g6, g7, g8⟩ := up_ok he.2.1 hw hPT b1 b2 b3
        have ts := (sbt_tokl hw hPT.2.1).1
        have nd := (TB_get hT.1 a1).1
        have hc := nd.2.1 _ (hd0_mem nd.1)
        have h66 := nd.2.2.2.2
        have co := fx_codeOf_c (n := n) hT.1 a1
        rw [a2] at hc co h66
        have pl := pts_len ts.1.1.1
        have h5 : 512 ≤ hd0 (sbt w p) := by
          apply Classical.byContradiction
          intro g
          have : ar (hd0 (sbt w p)) = 0 := by unfold ar; rw [if_pos (by omega)]
          have := hPT.2.2.1
          omega
        obtain ⟨o1, o2, o3⟩ := ENV_op he g1.2
        have op9 : opI (hd0 (sbt w p)) = nI (opn (sbt w p)) := opI_op h5
        obtain ⟨v1, y1, y2, y3⟩ := begin_LST (n := n) (v := v) (N := N) he.1 he.2.1 (ENV_no he) (by omega) o1
        rw [a3, co, xb1_s, fx_operatorIn_c hc, xb1_s, op9, y1, xb1_s]
        obtain ⟨v2, q1, q2, q3, q4⟩ := lx_rb85_c (n := n) (P0 := P0) (P1 := P1) (x5 := nI dep) (k8 := lx_X7_rebuild_8 n sp ga P0 P1 m') hn he g1 a1 a2 (show k < 20 by omega) (show p < 20 by omega) a3 s8 hPT.2.2.1 ts hr (pts (sbt w p)).length 0 n v1 (by omega) (by omega) ⟨TB_FRL hT.1 y2, hT.2⟩ y3
        rw [e0, q1]
        obtain ⟨r3, v3, w3, E3, t1, t2, t3, t4, t5⟩ := close_ANS (n := n) hn he.2.2.1 he.1 he.2.1 q3.1 (by omega) g1 (by omega) q4 (noks_okts g2) (fun _ e => absurd e g4) (fun _ => by rw [setp_len]; omega) g3
        rw [t1, xb3_s, nI_1]
        have T3 : TBK v3 w3 las so ma un nv (N ++ E3) := ⟨t2, fun t ht => by
          rcases List.mem_append.mp ht with z | z
          · exact hT.2 t z
          · rcases t3 with e | ⟨e, eg⟩
            · rw [e] at z; exact absurd z List.not_mem_nil
            · rw [e] at z
              rw [List.mem_singleton.mp z]
              exact ⟨g6, eg, g7⟩⟩
        have El : E3.length ≤ 1 := by
          rcases t3 with e | ⟨e, _⟩
          · rw [e]; exact Nat.zero_le _
          · rw [e]; exact Nat.le_refl _
        have Nl : (N ++ E3).length = N.length + E3.length := List.length_append
        obtain ⟨r', v', w', E, d1, d2, d3, d4, d5, d6⟩ := ih p hpk m' (dep + 1) _ r3 (N ++ E3) v3 w3 (by omega) (by omega) (by omega) (PND_ext hP) T3 (by omega) t4 g6 g7 g8
        refine ⟨r', v', w', E3 ++ E, d1, by rw [← List.append_assoc]; exact d2, ?_, by rw [List.length_append]; omega, ?_, ?_⟩
        · rw [← List.append_assoc, reb_step hw hPT]; exact d3
        · rw [d5, t5.2.2 1 (by decide), q2.2.2, y2.2.2]
        · rw [d6, t5.2.1, q2.1 9 (by decide) (by decide), y2.1 9 (by decide) (by decide)]
theorem fx_rebuild_c {n K k no nv : Nat} {ga sp v : Nat → Nat → Int32} {w8 : Nat → Nat → Int64} {las : Nat → Bool} {N : List (List Nat)} {so ma : Nat → Nat} {un : Nat → Option Nat} {nmL : Nat → List Nat} {w b : List Nat} {r : Int32} (hn : 100000 ≤ n) (he : ENV ga las so ma un no nv nmL) (hw : tok so un ma nv w) (hK : K ≤ 20) (hk : k < K) (hP : PND sp N w K) (hT : TBK v w8 las so ma un nv N) (hN : N.length + 20 ≤ 1024) (hr : VAL N so r b) (b1 : nok so un b) (b2 : sS so ma nv b) (b3 : b.length ≤ 450) :
    RBO las so ma un nv N v k (reb so un k b w) (fx_X7_rebuild n sp v w8 ga r (nI k)) := by
  unfold fx_X7_rebuild
  exact lx_rb8_c (P0 := r) (P1 := nI k) hn he hw hK k n 0 b r N v w8 hk (by omega) (by omega) hP hT (by omega) hr b1 b2 (by omega)
