/-! ===== both answer the same: meet, count, texts, the rest ===== -/
theorem SMR_uniq {P : Nat → Nat → Prop} (hP : ∀ i a b : Nat, P i a → P i b → a = b) : ∀ {d k x y : Nat}, SMR P d k x → SMR P d k y → x = y
  | 0, _, _, _, h, h' => h.trans h'.symm
  | d + 1, k, x, y, h, h' => by
    obtain ⟨a, b, h1, h2, h3⟩ := h
    obtain ⟨a', b', g1, g2, g3⟩ := h'
    rw [h3, g3, hP k a a' h1 g1, SMR_uniq hP h2 g2]
theorem SMR_in {P : Nat → Nat → Prop} : ∀ {d k x : Nat}, SMR P d k x → ∀ i : Nat, k ≤ i → i < k + d → ∃ a : Nat, P i a
  | 0, k, _, _, i, h1, h2 => by omega
  | d + 1, k, x, h, i, h1, h2 => by
    obtain ⟨a, b, g1, g2, _⟩ := h
    by_cases e : i = k
    · rw [e]; exact ⟨a, g1⟩
    · exact SMR_in g2 i (by omega) (by omega)
theorem AMS_uniq {so : Nat → Nat} {un : Nat → Option Nat} {R : RulL} {on : Int32} {A : List (List Nat)} {r r' : Int32} (h : AMS so un R on A r) (h' : AMS so un R on A r') : r = r' := by
  have mu1 : ∀ (t : List Nat) (q a b : Nat), mcnt so un R on t q a → mcnt so un R on t q b → a = b := fun t q a b h1 h2 => by
    rcases h1 with ⟨o1, pv, F, m1, m2⟩ | ⟨o1, m1⟩ <;> rcases h2 with ⟨o2, pv', F', n1, n2⟩ | ⟨o2, n1⟩
    · rw [← m2, ← n2, MatL_uniq m1 n1]
    · rw [o1] at o2; exact nomatch o2
    · rw [o1] at o2; exact nomatch o2
    · rw [m1, n1]
  have no : ∀ tot : Nat, SMR (fun i c => SMR (mcnt so un R on (nth A i)) R.length 0 c) A.length 0 tot → ¬ ATM so un R on A 0 := fun tot hs ha => by
    obtain ⟨i, q, _, i2, q1, q2, q3⟩ := ha
    obtain ⟨c, hc⟩ := SMR_in hs i (Nat.zero_le _) (by omega)
    obtain ⟨a, ha⟩ := SMR_in hc q (Nat.zero_le _) (by omega)
    rcases ha with ⟨_, pv, F, m1, _⟩ | ⟨o1, _⟩
    · exact MatL_not m1 q3
    · rw [o1] at q2; exact nomatch q2
  rcases h with ⟨tot, h1, h2⟩ | ⟨h1, h2⟩ <;> rcases h' with ⟨tot', g1, g2⟩ | ⟨g1, g2⟩
  · rw [h2, g2, SMR_uniq (fun i a b x y => SMR_uniq (mu1 (nth A i)) x y) h1 g1]
  · exact absurd g1 (no tot h1)
  · exact absurd h1 (no tot' g1)
  · rw [h2, g2]
theorem an_count {so : Nat → Nat} {un : Nat → Option Nat} {no nv : Nat} {R : RulL} {on : Int32} {A : List (List Nat)} {shn x r r' : Int32} (h : CNTo so un no nv R on A shn x r) (h' : CNTo so un no nv R on A shn x r') : r = r' := by
  have ne : ∀ a b : Nat, a < 9 → b < 9 → x = nI a → x = nI b → a = b := fun a b ha hb9 e1 e2 => (nI_inj (by omega) (by omega)).mp (e1.symm.trans e2)
  have ni : ∀ a : Nat, a < 9 → x = nI a → isn x 9 := fun a ha e => isn_ix (by decide) ⟨ha, e⟩
  rcases h with ⟨e, h⟩ | ⟨e, h⟩ | ⟨e, h⟩ | ⟨e, h⟩ | ⟨e, h⟩ | ⟨e, h⟩ | ⟨e, h⟩ | ⟨e, h⟩ | ⟨e, h⟩ | ⟨e, h⟩ <;> rcases h' with ⟨e', h'⟩ | ⟨e', h'⟩ | ⟨e', h'⟩ | ⟨e', h'⟩ | ⟨e', h'⟩ | ⟨e', h'⟩ | ⟨e', h'⟩ | ⟨e', h'⟩ | ⟨e', h'⟩ | ⟨e', h'⟩
  all_goals first
    | exact h.trans h'.symm
    | exact NRT_uniq h h'
    | exact AMS_uniq h h'
    | exact absurd (ne _ _ (by decide) (by decide) e e') (by decide)
    | exact absurd (ni _ (by decide) e') e
    | exact absurd (ni _ (by decide) e) e'
theorem an_term {so : Nat → Nat} {L : List Nat} {o : PR} {Tm T1 T2 : List (List Nat)} {f1 f2 t1 t2 r1 r2 : Int32} (hl : Tm.length ≤ 30) (hnd : Tm.Nodup) (h : TRM so L o Tm T1 f1 t1 r1) (h' : TRM so L o Tm T2 f2 t2 r2) : T1 = T2 ∧ f1 = f2 ∧ t1 = t2 ∧ (t1 = 0 → r1 = r2) := by
  have nx : ∀ {t : List Nat} {i j : Nat}, i < Tm.length → j < Tm.length → nth Tm i = t → nth Tm j = t → i = j := fun {t i j} hi hj e1 e2 => nth_inj hnd hi hj (e1.trans e2.symm)
  rcases h with ⟨a1, a2, a3, a4, a5⟩ | ⟨⟨t, a0⟩, a1, a2, a3, a4, a5⟩ | ⟨t, a1, a2, a3, a4⟩ <;> rcases h' with ⟨b1, b2, b3, b4, b5⟩ | ⟨⟨t', b0⟩, b1, b2, b3, b4, b5⟩ | ⟨t', b1, b2, b3, b4⟩
  · rw [a4, b4, a3, b3, a2, b2, a5, b5]; exact ⟨rfl, rfl, rfl, fun _ => rfl⟩
  · rw [a1] at b0; exact nomatch b0
  · rw [a1] at b1; exact nomatch b1
  · rw [b1] at a0; exact nomatch a0
  · rw [a4, b4, a3, b3, a2, b2, a5, b5]; exact ⟨rfl, rfl, rfl, fun _ => rfl⟩
  · exact absurd b2 a1
  · rw [b1] at a1; exact nomatch a1
  · exact absurd a2 b1
  · rw [a1] at b1
    obtain rfl := Option.some.inj b1
    rw [a3, b3]
    rcases a4 with ⟨c1, c2, c3, c4⟩ | ⟨c1, ⟨j, c2, c3, c4⟩, c5, c6⟩ | ⟨c1, c2, c3, c4, c5, c6⟩ <;> rcases b4 with ⟨d1, d2, d3, d4⟩ | ⟨d1, ⟨j', d2, d3, d4⟩, d5, d6⟩ | ⟨d1, d2, d3, d4, d5, d6⟩
    · rw [c3, d3, c2, d2, c4, d4]; exact ⟨rfl, rfl, rfl, fun _ => rfl⟩
    · rcases c1 with q | ⟨q, _⟩
      · rw [q] at d1; exact nomatch d1
      · exact absurd (by rw [← d3]; exact nth_mem d2) q
    · rcases c1 with q | ⟨_, q⟩
      · rw [q] at d1; exact nomatch d1
      · omega
    · rcases d1 with q | ⟨q, _⟩
      · rw [q] at c1; exact nomatch c1
      · exact absurd (by rw [← c3]; exact nth_mem c2) q
    · obtain rfl := nx c2 d2 c3 d3
      rw [c6, d6, c5, d5, c4, d4]; exact ⟨rfl, rfl, rfl, fun _ => rfl⟩
    · exact absurd (by rw [← c3]; exact nth_mem c2) d2
    · rcases d1 with q | ⟨_, q⟩
      · rw [q] at c1; exact nomatch c1
      · omega
    · exact absurd (by rw [← d3]; exact nth_mem d2) c2
    · rw [c6, d6, c5, d5, c4, d4]; exact ⟨rfl, rfl, rfl, fun _ => rfl⟩
theorem an_keep {so ma : Nat → Nat} {un : Nat → Option Nat} {nv : Nat} {nmL : Nat → List Nat} {A : List (List Nat)} {sh : Option (List Nat)} {fk fk' : Nat → Int32} {r r' th x9 terms' : Int32} {rt rt' : Nat → Nat → Int32} (hK : KT so un ma nv fk A) (hA : RWS 30 rt A) (hsh : ∀ x : List Nat, sh = some x → tok so un ma nv x)
    (h : (sh = none ∧ r = 0 ∧ th = 1 ∧ fk' = fk ∧ terms' = nI A.length) ∨
       (∃ x : List Nat, sh = some x ∧ ((∃ j : Nat, j < A.length ∧ nth A j = x ∧ r = nI j ∧ th = 0 ∧ fk' = fk ∧ terms' = nI A.length) ∨ (x ∉ A ∧ A.length = 30 ∧ r = 0 ∧ th = 1 ∧ fk' = fk ∧ terms' = nI A.length) ∨ (x ∉ A ∧ A.length < 30 ∧ r = nI A.length ∧ th = 0 ∧ fk' = put fk (21 * A.length) x ∧ terms' = nI (A.length + 1)))))
    (h' : (sh = none ∧ r' = 0 ∧ x9 = 2 ∧ rt' = rt) ∨
       (∃ x : List Nat, sh = some x ∧ ((∃ j : Nat, j < A.length ∧ nth A j = x ∧ r' = nI j ∧ x9 = 0 ∧ rt' = rt) ∨ (x ∉ A ∧ A.length = 30 ∧ r' = 0 ∧ x9 = 2 ∧ rt' = rt) ∨ (x ∉ A ∧ A.length < 30 ∧ r' = nI A.length ∧ x9 = 0 ∧ RWS 30 rt' (A ++ [x]))))) :
    AG [(1, 2)] th x9 r r' ∧ ((fk' = fk ∧ terms' = nI A.length ∧ rt' = rt) ∨ (∃ x : List Nat, sh = some x ∧ x ∉ A ∧ A.length < 30 ∧ fk' = put fk (21 * A.length) x ∧ terms' = nI (A ++ [x]).length ∧ RWS 30 rt' (A ++ [x]))) := by
  rcases h with ⟨a1, a2, a3, a4, a5⟩ | ⟨x, a1, a2⟩ <;> rcases h' with ⟨b1, b2, b3, b4⟩ | ⟨x', b1, b2⟩
  · exact ⟨AG_t a3 b3 (by simp), Or.inl ⟨a4, a5, b4⟩⟩
  · rw [a1] at b1; exact nomatch b1
  · rw [b1] at a1; exact nomatch a1
  · rw [a1] at b1
    obtain rfl := Option.some.inj b1
    rcases a2 with ⟨j, c1, c2, c3, c4, c5, c6⟩ | ⟨c1, c2, c3, c4, c5, c6⟩ | ⟨c1, c2, c3, c4, c5, c6⟩ <;> rcases b2 with ⟨j', d1, d2, d3, d4, d5⟩ | ⟨d1, d2, d3, d4, d5⟩ | ⟨d1, d2, d3, d4, d5⟩
    · obtain rfl := nth_inj hK.2.2.1 c1 d1 (c2.trans d2.symm)
      exact ⟨AG_0 c4 d4 (c3.trans d3.symm), Or.inl ⟨c5, c6, d5⟩⟩
    · exact absurd (by rw [← c2]; exact nth_mem c1) d1
    · exact absurd (by rw [← c2]; exact nth_mem c1) d1
    · exact absurd (by rw [← d2]; exact nth_mem d1) c1
    · exact ⟨AG_t c4 d4 (by simp), Or.inl ⟨c5, c6, d5⟩⟩
    · omega
    · exact absurd (by rw [← d2]; exact nth_mem d1) c1
    · omega
    · exact ⟨AG_0 c4 d4 (c3.trans d3.symm), Or.inr ⟨x, a1, c1, c2, c5, by rw [List.length_append]; exact c6, d5⟩⟩
theorem an_operator {so ma : Nat → Nat} {un : Nat → Option Nat} {A : List (List Nat)} {no : Nat} {x y r r' th x9 : Int32} (h10 : no ≤ 10)
    (h : (∃ o w : Nat, (o < no ∧ x = nI o) ∧ (w < 4 ∧ y = nI w) ∧ r = opr so un ma A o w ∧ th = 0) ∨ (isn x no ∧ ¬ isn y 4 ∧ r = 0 ∧ th = 2) ∨ (¬ isn x no ∧ r = 0 ∧ th = 1))
    (h' : (∃ o w : Nat, (o < no ∧ x = nI o) ∧ (w < 4 ∧ y = nI w) ∧ x9 = 0 ∧ r' = opr so un ma A o w) ∨ (isn x no ∧ ¬ isn y 4 ∧ x9 = 4 ∧ r' = 0) ∨ (¬ isn x no ∧ x9 = 3 ∧ r' = 0)) : AG [(1, 3), (2, 4)] th x9 r r' := by
  have bn : no < 2147483648 := by omega
  rcases h with ⟨o, w, a1, a2, a3, a4⟩ | ⟨a1, a2, a3, a4⟩ | ⟨a1, a2, a3⟩ <;> rcases h' with ⟨o', w', b1, b2, b3, b4⟩ | ⟨b1, b2, b3, b4⟩ | ⟨b1, b2, b3⟩
  · obtain rfl := ixu bn a1 b1
    obtain rfl := ixu (by decide) a2 b2
    exact AG_0 a4 b3 (a3.trans b4.symm)
  · exact absurd (isn_ix (by decide) a2) b2
  · exact absurd (isn_ix bn a1) b1
  · exact absurd (isn_ix (by decide) b2) a2
  · exact AG_t a4 b3 (by simp)
  · exact absurd a1 b1
  · exact absurd (isn_ix bn b1) a1
  · exact absurd b1 a1
  · exact AG_t a3 b2 (by simp)
theorem an_about {so : Nat → Nat} {un : Nat → Option Nat} {no : Nat} {A : List (List Nat)} {R : RulL} {on x y r r' th x9 : Int32} (hA : A.length ≤ 30)
    (h : (∃ i w : Nat, (i < A.length ∧ x = nI i) ∧ (w < 9 ∧ y = nI w) ∧ r = abt so un no R on (nth A i) w ∧ th = 0) ∨ (isn x A.length ∧ ¬ isn y 9 ∧ r = 0 ∧ th = 2) ∨ (¬ isn x A.length ∧ r = 0 ∧ th = 1))
    (h' : (∃ i w : Nat, (i < A.length ∧ x = nI i) ∧ (w < 9 ∧ y = nI w) ∧ r' = abt so un no R on (nth A i) w ∧ x9 = 0) ∨ (isn x A.length ∧ ¬ isn y 9 ∧ r' = 0 ∧ x9 = 4) ∨ (¬ isn x A.length ∧ r' = 0 ∧ x9 = 3)) : AG [(1, 3), (2, 4)] th x9 r r' := by
  have bl : A.length < 2147483648 := by omega
  rcases h with ⟨i, w, a1, a2, a3, a4⟩ | ⟨a1, a2, a3, a4⟩ | ⟨a1, a2, a3⟩ <;> rcases h' with ⟨i', w', b1, b2, b3, b4⟩ | ⟨b1, b2, b3, b4⟩ | ⟨b1, b2, b3⟩
  · obtain rfl := ixu bl a1 b1
    obtain rfl := ixu (by decide) a2 b2
    exact AG_0 a4 b4 (a3.trans b3.symm)
  · exact absurd (isn_ix (by decide) a2) b2
  · exact absurd (isn_ix bl a1) b1
  · exact absurd (isn_ix (by decide) b2) a2
  · exact AG_t a4 b4 (by simp)
  · exact absurd a1 b1
  · exact absurd (isn_ix bl b1) a1
  · exact absurd b1 a1
  · exact AG_t a3 b3 (by simp)
theorem an_meet {so : Nat → Nat} {un : Nat → Option Nat} {A : List (List Nat)} {R : RulL} {on x y z r th : Int32} {o : MeeR} {o1 o3 : MeeR} (hA : A.length ≤ 30)
    (h : (∃ i i' j : Nat, (i < A.length ∧ x = nI i) ∧ (i' < A.length ∧ y = nI i') ∧ (j < 5 ∧ z = nI j) ∧ MEET so un R on (nth A i) (nth A i') j r th) ∨
       (isn x A.length ∧ isn y A.length ∧ ¬ isn z 5 ∧ r = 0 ∧ th = 2) ∨ (¬ (isn x A.length ∧ isn y A.length) ∧ r = 0 ∧ th = 1))
    (h' : (∃ i i' j : Nat, (i < A.length ∧ x = nI i) ∧ (i' < A.length ∧ y = nI i') ∧ (j < 5 ∧ z = nI j) ∧ MEO so un R on (nth A i) (nth A i') j o) ∨
       (isn x A.length ∧ isn y A.length ∧ ¬ isn z 5 ∧ o = o1) ∨ (¬ (isn x A.length ∧ isn y A.length) ∧ o = o3)) :
    (∃ (x9 r' : Int32) (se re sf rg sp rf u v : Nat → Nat → Int32) (ns ng : Int64) (w : Nat → Nat → Int64), o = some (x9, r', se, ns, re, sf, ng, rg, sp, rf, u, v, w) ∧ (∃ (las : Nat → Bool) (N : List (List Nat)), TB v w las N) ∧ AG [(3, 2)] th x9 r r') ∨ (o = o1 ∧ th = 2) ∨ (o = o3 ∧ th = 1) := by
  have bl : A.length < 2147483648 := by omega
  rcases h with ⟨i, i2, j, a1, a2, a3, a4⟩ | ⟨a1, a2, a3, a4, a5⟩ | ⟨a1, a2, a3⟩ <;> rcases h' with ⟨i', i2', j', b1, b2, b3, b4⟩ | ⟨b1, b2, b3, b4⟩ | ⟨b1, b2⟩
  · obtain rfl := ixu bl a1 b1
    obtain rfl := ixu bl a2 b2
    obtain rfl := ixu (by decide) a3 b3
    obtain ⟨x9, r', th', se, re, sf, rg, sp, rf, u, v, ns, ng, w, c1, c2, c3, c4⟩ := b4
    obtain ⟨e1, e2⟩ := MEET_uniq a4 c3
    refine Or.inl ⟨x9, r', se, re, sf, rg, sp, rf, u, v, ns, ng, w, c1, c2, ?_⟩
    rcases c4 with ⟨d1, d2⟩ | ⟨d1, d2⟩
    · exact AG_0 (e2.trans d1) d2 e1
    · exact AG_t (e2.trans d1) d2 (by simp)
  · exact absurd (isn_ix (by decide) a3) b3
  · exact absurd ⟨isn_ix bl a1, isn_ix bl a2⟩ b1
  · exact absurd (isn_ix (by decide) b3) a3
  · exact Or.inr (Or.inl ⟨b4, a5⟩)
  · exact absurd ⟨a1, a2⟩ b1
  · exact absurd ⟨isn_ix bl b1, isn_ix bl b2⟩ a1
  · exact absurd ⟨b1, b2⟩ a1
  · exact Or.inr (Or.inr ⟨b2, a3⟩)
theorem RUL_on {so : Nat → Nat} {L : List Nat} {g : Nat → PR} {R R' : RulL} {on on' f th r : Int32} (h : RUL so L g R R' on on' f th r) : (R' = R ∧ on' = on) ∨ (R.length < 8 ∧ ∃ x : List Nat × List Nat, R' = R ++ [x] ∧ on' = if R.length = 0 then 1 else on ||| ((1 : Int32) <<< (nI R.length &&& 31))) := by
  rcases h with ⟨_, _, _, h1, h2, _⟩ | ⟨t, _, ⟨_, _, _, h1, h2, _⟩ | ⟨_, ⟨_, _, _, h1, h2, _⟩ | ⟨t', _, ⟨_, _, _, h1, h2, _⟩ | ⟨_, _, ⟨_, _, h1, h2, _⟩ | ⟨_, _, _, _, h8, _, h1, _, h2⟩⟩⟩⟩⟩
  · exact Or.inl ⟨h1, h2⟩
  · exact Or.inl ⟨h1, h2⟩
  · exact Or.inl ⟨h1, h2⟩
  · exact Or.inl ⟨h1, h2⟩
  · exact Or.inl ⟨h1, h2⟩
  · exact Or.inr ⟨h8, _, h1, h2⟩
theorem an_rule {so : Nat → Nat} {L : List Nat} {g : Nat → PR} {R R1 R2 : RulL} {on on1 on0 on2 f1 f2 t1 t2 r1 r2 : Int32} (h : RUL so L g R R1 on on1 f1 t1 r1) (h' : RUL so L g R R2 on0 on2 f2 t2 r2) : R1 = R2 ∧ f1 = f2 ∧ t1 = t2 ∧ r1 = r2 := by
  rcases h with ⟨a1, a2, a3, a4, _, a6⟩ | ⟨t, a1, a2⟩ <;> rcases h' with ⟨b1, b2, b3, b4, _, b6⟩ | ⟨t', b1, b2⟩
  · rw [a4, b4, a3, b3, a2, b2, a6, b6]; exact ⟨rfl, rfl, rfl, rfl⟩
  · rw [a1] at b1; exact nomatch b1
  · rw [a1] at b1; exact nomatch b1
  · rw [a1] at b1
    obtain rfl := Option.some.inj b1
    rcases a2 with ⟨a1, a2, a3, a4, _, a6⟩ | ⟨c1, a2⟩ <;> rcases b2 with ⟨b1, b2, b3, b4, _, b6⟩ | ⟨d1, b2⟩
    · rw [a4, b4, a3, b3, a2, b2, a6, b6]; exact ⟨rfl, rfl, rfl, rfl⟩
    · exact absurd (a1.symm.trans d1) (by decide)
    · exact absurd (b1.symm.trans c1) (by decide)
    · rcases a2 with ⟨a1, a2, a3, a4, _, a6⟩ | ⟨s, a1, a2⟩ <;> rcases b2 with ⟨b1, b2, b3, b4, _, b6⟩ | ⟨s', b1, b2⟩
      · rw [a4, b4, a3, b3, a2, b2, a6, b6]; exact ⟨rfl, rfl, rfl, rfl⟩
      · rw [a1] at b1; exact nomatch b1
      · rw [a1] at b1; exact nomatch b1
      · rw [a1] at b1
        obtain rfl := Option.some.inj b1
        rcases a2 with ⟨a1, a2, a3, a4, _, a6⟩ | ⟨c2, c3, a2⟩ <;> rcases b2 with ⟨b1, b2, b3, b4, _, b6⟩ | ⟨d2, d3, b2⟩
        · rw [a4, b4, a3, b3, a2, b2, a6, b6]; exact ⟨rfl, rfl, rfl, rfl⟩
        · exact absurd d2 a1
        · exact absurd c2 b1
        · have bad : ∀ {p q : Prop}, (great so t = true ∨ great so s = true ∨ hdc t < 512 ∨ ¬ vsb t s ∨ R.length = 8) → great so t = false → great so s = false → 512 ≤ hdc t → vsb t s → R.length < 8 → False := fun {p q} z g1 g2 g3 g4 g5 => by
            rcases z with z | z | z | z | z
            · rw [z] at g1; exact nomatch g1
            · rw [z] at g2; exact nomatch g2
            · omega
            · exact z g4
            · omega
          rcases a2 with ⟨a1, a2, a3, _, a5⟩ | ⟨a1, a2, a3, a4, a5, a6, a7, a8, _⟩ <;> rcases b2 with ⟨b1, b2, b3, _, b5⟩ | ⟨b1, b2, b3, b4, b5, b6, b7, b8, _⟩
          · rw [a3, b3, a2, b2, a5, b5, c3, d3]; exact ⟨rfl, rfl, rfl, rfl⟩
          · exact (bad (p := True) (q := True) a1 b1 b2 b3 b4 b5).elim
          · exact (bad (p := True) (q := True) b1 a1 a2 a3 a4 a5).elim
          · rw [a7, b7, a6, b6, a8, b8, c3, d3]; exact ⟨rfl, rfl, rfl, rfl⟩
/-- a rule more: the bits of the class -/
theorem on_rule {so : Nat → Nat} {L : List Nat} {g : Nat → PR} {R R1 R2 : RulL} {on on1 on0 on2 f1 f2 t1 t2 r1 r2 xc xc' : Int32} (hR8 : R.length ≤ 8) (h : RUL so L g R R1 on on1 f1 t1 r1) (h' : RUL so L g R R2 on0 on2 f2 t2 r2) (hx : xc = ron on R.length) (hc : (R2 = R ∧ xc' = xc) ∨ (R2.length = R.length + 1 ∧ xc' = xc ||| ((1 : Int32) <<< (nI R.length &&& 31)))) : xc' = ron on1 R1.length := by
  obtain ⟨e, _⟩ := an_rule h h'
  rcases RUL_on h with ⟨h1, h2⟩ | ⟨h8, x, h1, h2⟩ <;> rcases hc with ⟨c1, c2⟩ | ⟨c1, c2⟩
  · rw [c2, hx, h1, h2]
  · rw [← e, h1] at c1; omega
  · rw [← e, h1] at c1
    have := congrArg List.length c1
    rw [List.length_append] at this
    simp at this
  · rw [c2, hx, h1, h2, List.length_append]
    exact (ron_add h8).symm
