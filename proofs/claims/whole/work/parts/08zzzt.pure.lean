/-! ===== both answer the same: steps, what is reached, what is counted ===== -/
theorem an_steps {so : Nat → Nat} {un : Nat → Option Nat} {A : List (List Nat)} {R : RulL} {on x r r' th x9 : Int32} (hA : A.length ≤ 30)
    (h : (∃ (i : Nat) (S : List StpE), (i < A.length ∧ x = nI i) ∧ StL so un R on (nth A i).length (nth A i) S ∧ r = nI S.length ∧ th = 0) ∨
       (∃ (i : Nat), (i < A.length ∧ x = nI i) ∧ TMs so un R on (nth A i).length (nth A i) ∧ r = 0 ∧ th = 2) ∨ (¬ isn x A.length ∧ r = 0 ∧ th = 1))
    (h' : (∃ (i : Nat) (S : List StpE), (i < A.length ∧ x = nI i) ∧ StL so un R on (nth A i).length (nth A i) S ∧ r' = nI S.length ∧ x9 = 0) ∨
       (∃ (i : Nat), (i < A.length ∧ x = nI i) ∧ TMs so un R on (nth A i).length (nth A i) ∧ r' = 0 ∧ x9 = 2) ∨ (¬ isn x A.length ∧ r' = 0 ∧ x9 = 3)) : AG [(1, 3), (2, 2)] th x9 r r' := by
  have bl : A.length < 2147483648 := by omega
  rcases h with ⟨i, S, a1, a2, a3, a4⟩ | ⟨i, a1, a2, a3, a4⟩ | ⟨a1, a2, a3⟩ <;> rcases h' with ⟨i', S', b1, b2, b3, b4⟩ | ⟨i', b1, b2, b3, b4⟩ | ⟨b1, b2, b3⟩
  · obtain rfl := ixu bl a1 b1
    rw [StL_uniq a2 b2] at a3
    exact AG_0 a4 b4 (a3.trans b3.symm)
  · obtain rfl := ixu bl a1 b1
    exact absurd b2 a2.2.2.2.2
  · exact absurd (isn_ix bl a1) b1
  · obtain rfl := ixu bl a1 b1
    exact absurd a2 b2.2.2.2.2
  · exact AG_t a4 b4 (by simp)
  · exact absurd (isn_ix bl a1) b1
  · exact absurd (isn_ix bl b1) a1
  · exact absurd (isn_ix bl b1) a1
  · exact AG_t a3 b3 (by simp)
theorem an_step {so ma : Nat → Nat} {un : Nat → Option Nat} {nv : Nat} {nmL : Nat → List Nat} {A : List (List Nat)} {R : RulL} {on x k r r' th x9 iss shn iss' shn' : Int32} {shr tx shr' tx' : Nat → Int32} {sw rw0 sw' rw' : Nat → Nat → Int32} (hA : A.length ≤ 30) (hs : SH2 so ma un nv nmL shr tx iss shn sw rw0)
    (h : (∃ (i : Nat) (S : List StpE), (i < A.length ∧ x = nI i) ∧ StL so un R on (nth A i).length (nth A i) S ∧
          ((∃ q : Nat, q < S.length ∧ k = nI q ∧ th = 0 ∧ r = nI (txt nmL (nthS S q).2.2).length ∧ SHW so un ma nv nmL (some (nthS S q).2.2) shr' tx' iss' shn') ∨
           (¬ isn k S.length ∧ th = 2 ∧ r = 0 ∧ shr' = shr ∧ tx' = tx ∧ iss' = iss ∧ shn' = shn))) ∨
       (∃ (i : Nat), (i < A.length ∧ x = nI i) ∧ TMs so un R on (nth A i).length (nth A i) ∧ th = 3 ∧ r = 0 ∧ shr' = shr ∧ tx' = tx ∧ iss' = iss ∧ shn' = shn) ∨
       (¬ isn x A.length ∧ th = 1 ∧ r = 0 ∧ shr' = shr ∧ tx' = tx ∧ iss' = iss ∧ shn' = shn))
    (h' : (∃ (i : Nat) (S : List StpE), (i < A.length ∧ x = nI i) ∧ StL so un R on (nth A i).length (nth A i) S ∧
          ((∃ q : Nat, q < S.length ∧ k = nI q ∧ x9 = 0 ∧ r' = nI (txt nmL (nthS S q).2.2).length ∧ SHC sw' rw' so ma un nv nmL (some (nthS S q).2.2)) ∨
           (¬ isn k S.length ∧ x9 = 4 ∧ r' = 0 ∧ sw' = sw ∧ rw' = rw0))) ∨
       (∃ (i : Nat), (i < A.length ∧ x = nI i) ∧ TMs so un R on (nth A i).length (nth A i) ∧ x9 = 2 ∧ r' = 0 ∧ sw' = sw ∧ rw' = rw0) ∨
       (¬ isn x A.length ∧ x9 = 3 ∧ r' = 0 ∧ sw' = sw ∧ rw' = rw0)) :
    AG [(1, 3), (2, 4), (3, 2)] th x9 r r' ∧ SH2 so ma un nv nmL shr' tx' iss' shn' sw' rw' := by
  have bl : A.length < 2147483648 := by omega
  rcases h with ⟨i, S, a1, a2, a3⟩ | ⟨i, a1, a2, a3, a4, rfl, rfl, rfl, rfl⟩ | ⟨a1, a2, a3, rfl, rfl, rfl, rfl⟩ <;> rcases h' with ⟨i', S', b1, b2, b3⟩ | ⟨i', b1, b2, b3, b4, rfl, rfl⟩ | ⟨b1, b2, b3, rfl, rfl⟩
  · obtain rfl := ixu bl a1 b1
    obtain rfl := StL_uniq a2 b2
    have lS := a2.2.2.1
    rcases a3 with ⟨q, c1, c2, c3, c4, c5⟩ | ⟨c1, c2, c3, rfl, rfl, rfl, rfl⟩ <;> rcases b3 with ⟨q', d1, d2, d3, d4, d5⟩ | ⟨d1, d2, d3, rfl, rfl⟩
    · obtain rfl := ixu (show S.length < 2147483648 by omega) ⟨c1, c2⟩ ⟨d1, d2⟩
      exact ⟨AG_0 c3 d3 (c4.trans d4.symm), _, c5, d5⟩
    · exact absurd (isn_ix (by omega) ⟨c1, c2⟩) d1
    · exact absurd (isn_ix (by omega) ⟨d1, d2⟩) c1
    · exact ⟨AG_t c2 d2 (by simp), hs⟩
  · obtain rfl := ixu bl a1 b1
    exact absurd b2 a2.2.2.2.2
  · exact absurd (isn_ix bl a1) b1
  · obtain rfl := ixu bl a1 b1
    exact absurd a2 b2.2.2.2.2
  · exact ⟨AG_t a3 b3 (by simp), hs⟩
  · exact absurd (isn_ix bl a1) b1
  · exact absurd (isn_ix bl b1) a1
  · exact absurd (isn_ix bl b1) a1
  · exact ⟨AG_t a2 b2 (by simp), hs⟩
theorem an_stepAt {so : Nat → Nat} {un : Nat → Option Nat} {A : List (List Nat)} {R : RulL} {on x k y r r' th x9 : Int32} (hA : A.length ≤ 30)
    (h : (∃ (i : Nat) (S : List StpE), (i < A.length ∧ x = nI i) ∧ StL so un R on (nth A i).length (nth A i) S ∧
          ((∃ q : Nat, q < S.length ∧ k = nI q ∧ isn y 2 ∧ th = 0 ∧ r = if y = 0 then nI (nthS S q).1 else nI (nthS S q).2.1) ∨ (¬ (isn k S.length ∧ isn y 2) ∧ th = 2 ∧ r = 0))) ∨
       (∃ (i : Nat), (i < A.length ∧ x = nI i) ∧ TMs so un R on (nth A i).length (nth A i) ∧ th = 3 ∧ r = 0) ∨ (¬ isn x A.length ∧ th = 1 ∧ r = 0))
    (h' : (∃ (i : Nat) (S : List StpE), (i < A.length ∧ x = nI i) ∧ StL so un R on (nth A i).length (nth A i) S ∧
          ((∃ q : Nat, q < S.length ∧ k = nI q ∧ isn y 2 ∧ x9 = 0 ∧ r' = if y = 0 then nI (nthS S q).1 else nI (nthS S q).2.1) ∨ (¬ (isn k S.length ∧ isn y 2) ∧ x9 = 4 ∧ r' = 0))) ∨
       (∃ (i : Nat), (i < A.length ∧ x = nI i) ∧ TMs so un R on (nth A i).length (nth A i) ∧ x9 = 2 ∧ r' = 0) ∨ (¬ isn x A.length ∧ x9 = 3 ∧ r' = 0)) : AG [(1, 3), (2, 4), (3, 2)] th x9 r r' := by
  have bl : A.length < 2147483648 := by omega
  rcases h with ⟨i, S, a1, a2, a3⟩ | ⟨i, a1, a2, a3, a4⟩ | ⟨a1, a2, a3⟩ <;> rcases h' with ⟨i', S', b1, b2, b3⟩ | ⟨i', b1, b2, b3, b4⟩ | ⟨b1, b2, b3⟩
  · obtain rfl := ixu bl a1 b1
    obtain rfl := StL_uniq a2 b2
    have lS := a2.2.2.1
    rcases a3 with ⟨q, c1, c2, c3, c4, c5⟩ | ⟨c1, c2, c3⟩ <;> rcases b3 with ⟨q', d1, d2, d3, d4, d5⟩ | ⟨d1, d2, d3⟩
    · obtain rfl := ixu (show S.length < 2147483648 by omega) ⟨c1, c2⟩ ⟨d1, d2⟩
      exact AG_0 c4 d4 (c5.trans d5.symm)
    · exact absurd ⟨isn_ix (by omega) ⟨c1, c2⟩, c3⟩ d1
    · exact absurd ⟨isn_ix (by omega) ⟨d1, d2⟩, d3⟩ c1
    · exact AG_t c2 d2 (by simp)
  · obtain rfl := ixu bl a1 b1
    exact absurd b2 a2.2.2.2.2
  · exact absurd (isn_ix bl a1) b1
  · obtain rfl := ixu bl a1 b1
    exact absurd a2 b2.2.2.2.2
  · exact AG_t a3 b3 (by simp)
  · exact absurd (isn_ix bl a1) b1
  · exact absurd (isn_ix bl b1) a1
  · exact absurd (isn_ix bl b1) a1
  · exact AG_t a2 b2 (by simp)
theorem an_atTop {so : Nat → Nat} {un : Nat → Option Nat} {A : List (List Nat)} {R : RulL} {x y r r' th x9 : Int32} (hA : A.length ≤ 30)
    (h : (∃ (i : Nat) (S : List StpE), (i < A.length ∧ x = nI i) ∧ isn y R.length ∧ StL so un R ((1 : Int32) <<< (y &&& 31)) 1 (nth A i) S ∧ r = nI S.length ∧ th = 0) ∨
       (∃ (i : Nat), (i < A.length ∧ x = nI i) ∧ isn y R.length ∧ TMs so un R ((1 : Int32) <<< (y &&& 31)) 1 (nth A i) ∧ r = 0 ∧ th = 2) ∨ (¬ (isn x A.length ∧ isn y R.length) ∧ r = 0 ∧ th = 1))
    (h' : (∃ (i : Nat) (S : List StpE), (i < A.length ∧ x = nI i) ∧ isn y R.length ∧ StL so un R ((1 : Int32) <<< (y &&& 31)) 1 (nth A i) S ∧ r' = nI S.length ∧ x9 = 0) ∨
       (∃ (i : Nat), (i < A.length ∧ x = nI i) ∧ isn y R.length ∧ TMs so un R ((1 : Int32) <<< (y &&& 31)) 1 (nth A i) ∧ r' = 0 ∧ x9 = 2) ∨ (¬ (isn x A.length ∧ isn y R.length) ∧ r' = 0 ∧ x9 = 3)) : AG [(1, 3), (2, 2)] th x9 r r' := by
  have bl : A.length < 2147483648 := by omega
  rcases h with ⟨i, S, a1, a0, a2, a3, a4⟩ | ⟨i, a1, a0, a2, a3, a4⟩ | ⟨a1, a2, a3⟩ <;> rcases h' with ⟨i', S', b1, b0, b2, b3, b4⟩ | ⟨i', b1, b0, b2, b3, b4⟩ | ⟨b1, b2, b3⟩
  · obtain rfl := ixu bl a1 b1
    rw [StL_uniq a2 b2] at a3
    exact AG_0 a4 b4 (a3.trans b3.symm)
  · obtain rfl := ixu bl a1 b1
    exact absurd b2 a2.2.2.2.2
  · exact absurd ⟨isn_ix bl a1, a0⟩ b1
  · obtain rfl := ixu bl a1 b1
    exact absurd a2 b2.2.2.2.2
  · exact AG_t a4 b4 (by simp)
  · exact absurd ⟨isn_ix bl a1, a0⟩ b1
  · exact absurd ⟨isn_ix bl b1, b0⟩ a1
  · exact absurd ⟨isn_ix bl b1, b0⟩ a1
  · exact AG_t a3 b3 (by simp)
theorem an_walk {so ma : Nat → Nat} {un : Nat → Option Nat} {nv : Nat} {nmL : Nat → List Nat} {A : List (List Nat)} {R : RulL} {on x r r' th x9 iss shn iss' shn' : Int32} {shr tx shr' tx' : Nat → Int32} {sw rw0 sw' rw' : Nat → Nat → Int32} (hA : A.length ≤ 30) (hs : SH2 so ma un nv nmL shr tx iss shn sw rw0)
    (h : (∃ (i : Nat) (res : Option (Nat × List Nat)), (i < A.length ∧ x = nI i) ∧ WLK so un R on 40 (nth A i) res ∧
          ((res = none ∧ r = 0 ∧ th = 2 ∧ shr' = shr ∧ tx' = tx ∧ iss' = iss ∧ shn' = shn) ∨ (∃ (q : Nat) (y : List Nat), res = some (q, y) ∧ r = nI q ∧ th = 0 ∧ SHW so un ma nv nmL (some y) shr' tx' iss' shn'))) ∨
       (¬ isn x A.length ∧ th = 1 ∧ r = 0 ∧ shr' = shr ∧ tx' = tx ∧ iss' = iss ∧ shn' = shn))
    (h' : (∃ (i : Nat) (res : Option (Nat × List Nat)), (i < A.length ∧ x = nI i) ∧ WLK so un R on 40 (nth A i) res ∧
          ((res = none ∧ r' = 0 ∧ x9 = 2 ∧ sw' = sw ∧ rw' = rw0) ∨ (∃ (q : Nat) (y : List Nat), res = some (q, y) ∧ r' = nI q ∧ x9 = 0 ∧ SHC sw' rw' so ma un nv nmL (some y)))) ∨
       (¬ isn x A.length ∧ x9 = 3 ∧ r' = 0 ∧ sw' = sw ∧ rw' = rw0)) :
    AG [(1, 3), (2, 2)] th x9 r r' ∧ SH2 so ma un nv nmL shr' tx' iss' shn' sw' rw' := by
  have bl : A.length < 2147483648 := by omega
  rcases h with ⟨i, res, a1, a2, a3⟩ | ⟨a1, a2, a3, rfl, rfl, rfl, rfl⟩ <;> rcases h' with ⟨i', res', b1, b2, b3⟩ | ⟨b1, b2, b3, rfl, rfl⟩
  · obtain rfl := ixu bl a1 b1
    obtain rfl := WLK_uniq a2 b2
    rcases a3 with ⟨c1, c2, c3, rfl, rfl, rfl, rfl⟩ | ⟨q, y, c1, c2, c3, c4⟩ <;> rcases b3 with ⟨d1, d2, d3, rfl, rfl⟩ | ⟨q', y', d1, d2, d3, d4⟩
    · exact ⟨AG_t c3 d3 (by simp), hs⟩
    · rw [c1] at d1; exact nomatch d1
    · rw [c1] at d1; exact nomatch d1
    · rw [c1] at d1
      have e := Option.some.inj d1
      have e1 : q = q' := congrArg Prod.fst e
      have e2 : y = y' := congrArg Prod.snd e
      rw [← e1] at d2
      rw [← e2] at d4
      exact ⟨AG_0 c3 d3 (c2.trans d2.symm), _, c4, d4⟩
  · exact absurd (isn_ix bl a1) b1
  · exact absurd (isn_ix bl b1) a1
  · exact ⟨AG_t a2 b2 (by simp), hs⟩
theorem an_reach {so : Nat → Nat} {un : Nat → Option Nat} {A : List (List Nat)} {R : RulL} {on x y z r r' th x9 : Int32} (hA : A.length ≤ 30)
    (h : (∃ i j : Nat, (i < A.length ∧ x = nI i) ∧ (j < 5 ∧ y = nI j) ∧
          ((¬ TMc so un R on (nth A i) j z ∧ ∃ L : List (List Nat), L.Nodup ∧ (∀ w : List Nat, w ∈ L ↔ CNT so un R on (nth A i) j z w) ∧ r = nI L.length ∧ th = 0) ∨ (TMc so un R on (nth A i) j z ∧ r = 0 ∧ th = 3))) ∨
       (isn x A.length ∧ ¬ isn y 5 ∧ r = 0 ∧ th = 2) ∨ (¬ isn x A.length ∧ r = 0 ∧ th = 1))
    (h' : (∃ i j : Nat, (i < A.length ∧ x = nI i) ∧ (j < 5 ∧ y = nI j) ∧
          ((¬ TMc so un R on (nth A i) j z ∧ ∃ L : List (List Nat), L.Nodup ∧ (∀ w : List Nat, w ∈ L ↔ CNT so un R on (nth A i) j z w) ∧ r' = nI L.length ∧ x9 = 0) ∨ (TMc so un R on (nth A i) j z ∧ r' = 0 ∧ x9 = 2))) ∨
       (isn x A.length ∧ ¬ isn y 5 ∧ r' = 0 ∧ x9 = 1) ∨ (¬ isn x A.length ∧ r' = 0 ∧ x9 = 3)) : AG [(1, 3), (2, 1), (3, 2)] th x9 r r' := by
  have bl : A.length < 2147483648 := by omega
  rcases h with ⟨i, j, a1, a2, a3⟩ | ⟨a1, a2, a3, a4⟩ | ⟨a1, a2, a3⟩ <;> rcases h' with ⟨i', j', b1, b2, b3⟩ | ⟨b1, b2, b3, b4⟩ | ⟨b1, b2, b3⟩
  · obtain rfl := ixu bl a1 b1
    obtain rfl := ixu (by decide) a2 b2
    rcases a3 with ⟨c1, L, c2, c3, c4, c5⟩ | ⟨c1, c2, c3⟩ <;> rcases b3 with ⟨d1, L', d2, d3, d4, d5⟩ | ⟨d1, d2, d3⟩
    · rw [same_len c2 d2 (fun w => (c3 w).trans (d3 w).symm)] at c4
      exact AG_0 c5 d5 (c4.trans d4.symm)
    · exact absurd d1 c1
    · exact absurd c1 d1
    · exact AG_t c3 d3 (by simp)
  · exact absurd (isn_ix (by decide) a2) b2
  · exact absurd (isn_ix bl a1) b1
  · exact absurd (isn_ix (by decide) b2) a2
  · exact AG_t a4 b4 (by simp)
  · exact absurd a1 b1
  · exact absurd (isn_ix bl b1) a1
  · exact absurd b1 a1
  · exact AG_t a3 b3 (by simp)
theorem an_reached {so ma : Nat → Nat} {un : Nat → Option Nat} {nv : Nat} {nmL : Nat → List Nat} {A : List (List Nat)} {R : RulL} {on x y z u r r' th x9 iss shn iss' shn' : Int32} {shr tx shr' tx' : Nat → Int32} {sw rw0 sw' rw' : Nat → Nat → Int32} (hA : A.length ≤ 30) (hs : SH2 so ma un nv nmL shr tx iss shn sw rw0)
    (h : (∃ (i j : Nat) (L : List (List Nat)), (i < A.length ∧ x = nI i) ∧ (j < 5 ∧ y = nI j) ∧ ¬ TMc so un R on (nth A i) j z ∧ L.Pairwise klt ∧ (∀ w : List Nat, w ∈ L ↔ CNT so un R on (nth A i) j z w) ∧ L.length ≤ 50 ∧
          ((∃ q : Nat, q < L.length ∧ u = nI q ∧ th = 0 ∧ r = nI (txt nmL (nth L q)).length ∧ SHW so un ma nv nmL (some (nth L q)) shr' tx' iss' shn') ∨ (¬ isn u L.length ∧ th = 3 ∧ r = 0 ∧ shr' = shr ∧ tx' = tx ∧ iss' = iss ∧ shn' = shn))) ∨
       (((∃ i j : Nat, (i < A.length ∧ x = nI i) ∧ (j < 5 ∧ y = nI j) ∧ TMc so un R on (nth A i) j z ∧ th = 4) ∨ (isn x A.length ∧ ¬ isn y 5 ∧ th = 2) ∨ (¬ isn x A.length ∧ th = 1)) ∧ r = 0 ∧ shr' = shr ∧ tx' = tx ∧ iss' = iss ∧ shn' = shn))
    (h' : (∃ (i j : Nat) (L : List (List Nat)), (i < A.length ∧ x = nI i) ∧ (j < 5 ∧ y = nI j) ∧ ¬ TMc so un R on (nth A i) j z ∧ L.Pairwise klt ∧ (∀ w : List Nat, w ∈ L ↔ CNT so un R on (nth A i) j z w) ∧ L.length ≤ 50 ∧
          ((∃ q : Nat, q < L.length ∧ u = nI q ∧ x9 = 0 ∧ r' = nI (txt nmL (nth L q)).length ∧ SHC sw' rw' so ma un nv nmL (some (nth L q))) ∨ (¬ isn u L.length ∧ x9 = 4 ∧ r' = 0 ∧ sw' = sw ∧ rw' = rw0))) ∨
       (((∃ i j : Nat, (i < A.length ∧ x = nI i) ∧ (j < 5 ∧ y = nI j) ∧ TMc so un R on (nth A i) j z ∧ x9 = 2) ∨ (isn x A.length ∧ ¬ isn y 5 ∧ x9 = 1) ∨ (¬ isn x A.length ∧ x9 = 3)) ∧ r' = 0 ∧ sw' = sw ∧ rw' = rw0)) :
    AG [(1, 3), (2, 1), (3, 4), (4, 2)] th x9 r r' ∧ SH2 so ma un nv nmL shr' tx' iss' shn' sw' rw' := by
  have bl : A.length < 2147483648 := by omega
  rcases h with ⟨i, j, L, a1, a2, a3, a4, a5, a6, a7⟩ | ⟨a, a0, rfl, rfl, rfl, rfl⟩ <;> rcases h' with ⟨i', j', L', b1, b2, b3, b4, b5, b6, b7⟩ | ⟨b, b0, rfl, rfl⟩
  · obtain rfl := ixu bl a1 b1
    obtain rfl := ixu (by decide) a2 b2
    obtain rfl : L = L' := set_uniq (fun _ _ => klt_asym) a4 b4 (fun w => (a5 w).trans (b5 w).symm)
    rcases a7 with ⟨q, c1, c2, c3, c4, c5⟩ | ⟨c1, c2, c3, rfl, rfl, rfl, rfl⟩ <;> rcases b7 with ⟨q', d1, d2, d3, d4, d5⟩ | ⟨d1, d2, d3, rfl, rfl⟩
    · obtain rfl := ixu (show L.length < 2147483648 by omega) ⟨c1, c2⟩ ⟨d1, d2⟩
      exact ⟨AG_0 c3 d3 (c4.trans d4.symm), _, c5, d5⟩
    · exact absurd (isn_ix (by omega) ⟨c1, c2⟩) d1
    · exact absurd (isn_ix (by omega) ⟨d1, d2⟩) c1
    · exact ⟨AG_t c2 d2 (by simp), hs⟩
  · rcases b with ⟨i', j', b1, b2, b3, b4⟩ | ⟨b1, b2, b3⟩ | ⟨b1, b2⟩
    · obtain rfl := ixu bl a1 b1
      obtain rfl := ixu (by decide) a2 b2
      exact absurd b3 a3
    · exact absurd (isn_ix (by decide) a2) b2
    · exact absurd (isn_ix bl a1) b1
  · rcases a with ⟨i', j', a1, a2, a3, a4⟩ | ⟨a1, a2, a3⟩ | ⟨a1, a2⟩
    · obtain rfl := ixu bl a1 b1
      obtain rfl := ixu (by decide) a2 b2
      exact absurd a3 b3
    · exact absurd (isn_ix (by decide) b2) a2
    · exact absurd (isn_ix bl b1) a1
  · refine ⟨?_, hs⟩
    rcases a with ⟨i, j, a1, a2, a3, a4⟩ | ⟨a1, a2, a3⟩ | ⟨a1, a2⟩ <;> rcases b with ⟨i', j', b1, b2, b3, b4⟩ | ⟨b1, b2, b3⟩ | ⟨b1, b2⟩
    · exact AG_t a4 b4 (by simp)
    · exact absurd (isn_ix (by decide) a2) b2
    · exact absurd (isn_ix bl a1) b1
    · exact absurd (isn_ix (by decide) b2) a2
    · exact AG_t a3 b3 (by simp)
    · exact absurd a1 b1
    · exact absurd (isn_ix bl b1) a1
    · exact absurd b1 a1
    · exact AG_t a2 b2 (by simp)
theorem MEET_uniq {so : Nat → Nat} {un : Nat → Option Nat} {R : RulL} {on : Int32} {t t' : List Nat} {j : Nat} {r r' th th' : Int32} (h : MEET so un R on t t' j r th) (h' : MEET so un R on t t' j r' th') : r = r' ∧ th = th' := by
  have up : ∀ {i k : Nat}, i ≤ k → TM2 so un R on t t' i → TM2 so un R on t t' k := fun {i k} hik q => q.elim (fun q => Or.inl (TMr_mono hik q)) (fun q => Or.inr (TMr_mono hik q))
  rcases h with ⟨k, a1, a2, a3, a4, a5, a6⟩ | ⟨a1, a2, a3, a4⟩ | ⟨k, a1, a2, a3, a4, a5⟩ <;> rcases h' with ⟨k', b1, b2, b3, b4, b5, b6⟩ | ⟨b1, b2, b3, b4⟩ | ⟨k', b1, b2, b3, b4, b5⟩
  · have e : k = k' := by
      rcases Nat.lt_trichotomy k k' with z | z | z
      · exact absurd a2 (b3 k z)
      · exact z
      · exact absurd b2 (a3 k' z)
    rw [a5, b5, a6, b6, e]; exact ⟨rfl, rfl⟩
  · exact absurd a2 (b1 k a1)
  · rcases Nat.lt_or_ge k' k with z | z
    · exact absurd (up (show k' + 1 ≤ k by omega) b3) a4
    · exact absurd a2 (b2 k z)
  · exact absurd b2 (a1 k' b1)
  · rw [a3, b3, a4, b4]; exact ⟨rfl, rfl⟩
  · exact absurd (up (show k' + 1 ≤ j by omega) b3) a2
  · rcases Nat.lt_or_ge k k' with z | z
    · exact absurd (up (show k + 1 ≤ k' by omega) a3) b4
    · exact absurd b2 (a2 k' z)
  · exact absurd (up (show k + 1 ≤ j by omega) a3) b2
  · rw [a4, b4, a5, b5]; exact ⟨rfl, rfl⟩
