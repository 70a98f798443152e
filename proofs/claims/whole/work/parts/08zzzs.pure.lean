/-! ===== both answer the same ===== -/
theorem ixu {x : Int32} {i j k : Nat} (hk : k < 2147483648) (h : i < k ∧ x = nI i) (h' : j < k ∧ x = nI j) : i = j := (nI_inj (by omega) (by omega)).mp (h.2.symm.trans h'.2)
theorem isn_ix {x : Int32} {i k : Nat} (hk : k < 2147483648) (h : i < k ∧ x = nI i) : isn x k := by
  rw [h.2]
  unfold isn
  rw [nI_toInt (by omega)]
  omega
/-- an answer, or what is thrown: the reference's and the class's -/
def AG (ps : List (Int32 × Int32)) (th x9 r r' : Int32) : Prop := (th = 0 ∧ x9 = 0 ∧ r = r') ∨ ((th, x9) ∈ ps)
theorem AG_0 {ps : List (Int32 × Int32)} {th x9 r r' : Int32} (h1 : th = 0) (h2 : x9 = 0) (h3 : r = r') : AG ps th x9 r r' := Or.inl ⟨h1, h2, h3⟩
theorem AG_t {ps : List (Int32 × Int32)} {th x9 r r' a b : Int32} (h1 : th = a) (h2 : x9 = b) (h3 : (a, b) ∈ ps) : AG ps th x9 r r' := Or.inr (by rw [h1, h2]; exact h3)
/-- what is shown, on both sides -/
def SH2 (so ma : Nat → Nat) (un : Nat → Option Nat) (nv : Nat) (nmL : Nat → List Nat) (shr tx : Nat → Int32) (iss shn : Int32) (sw rw0 : Nat → Nat → Int32) : Prop := ∃ sh : Option (List Nat), SHW so un ma nv nmL sh shr tx iss shn ∧ SHC sw rw0 so ma un nv nmL sh
theorem MatL_uniq {so : Nat → Nat} {un : Nat → Option Nat} {p t : List Nat} {v1 v2 : Int32} {F F' : List (List Nat)} (h : MatL so un p t v1 F) (h' : MatL so un p t v2 F') : F = F' := by
  obtain ⟨a1, a2, a3, a4⟩ := h
  obtain ⟨b1, b2, b3, b4⟩ := h'
  exact set_uniq (fun _ _ => klt_asym) a2.2 b2.2 (fun k => by
    rw [a4 k, b4 k]
    exact ⟨Mat_pv a1 b1, Mat_pv b1 a1⟩)
theorem MatL_not {so : Nat → Nat} {un : Nat → Option Nat} {p t : List Nat} {v1 : Int32} {F : List (List Nat)} (h : MatL so un p t v1 F) : ¬ TMm so un p t := not_TMm h.1 h.2.2.2 h.2.2.1
theorem key_pvs {p1 p2 : Int32} {p : List Nat} {sg : Nat → List Nat} (h1 : pvs p1 p) (h2 : pvs p2 p) : key p1 sg = key p2 sg := keyF_pv (fun v hv => by
  cases q : hb p1 v with
  | true => exact ((h2 v hv).mpr ((h1 v hv).mp q)).symm
  | false =>
    cases q2 : hb p2 v with
    | false => rfl
    | true => exact absurd ((h1 v hv).mpr ((h2 v hv).mp q2)) (by rw [q]; decide)) 5 0 (by omega)
theorem same_len {A B : List (List Nat)} (ha : A.Nodup) (hb9 : B.Nodup) (h : ∀ x : List Nat, x ∈ A ↔ x ∈ B) : A.length = B.length := by
  have h1 := nodup_le ha (fun x hx => (h x).mp hx)
  have h2 := nodup_le hb9 (fun x hx => (h x).mpr hx)
  omega
/-! matches, bound, fill, join, place -/
theorem an_matches {so : Nat → Nat} {un : Nat → Option Nat} {A : List (List Nat)} {x y r r' th x9 : Int32} (hA : A.length ≤ 30)
    (h : (∃ (i j : Nat) (pv1 : Int32) (F : List (List Nat)), (i < A.length ∧ x = nI i) ∧ (j < A.length ∧ y = nI j) ∧ MatL so un (nth A i) (nth A j) pv1 F ∧ r = nI F.length ∧ th = 0) ∨
       (∃ (i j : Nat), (i < A.length ∧ x = nI i) ∧ (j < A.length ∧ y = nI j) ∧ TMm so un (nth A i) (nth A j) ∧ r = 0 ∧ th = 2) ∨
       (¬ (isn x A.length ∧ isn y A.length) ∧ r = 0 ∧ th = 1))
    (h' : (∃ (i j : Nat) (pv1 : Int32) (F : List (List Nat)), (i < A.length ∧ x = nI i) ∧ (j < A.length ∧ y = nI j) ∧ MatL so un (nth A i) (nth A j) pv1 F ∧ r' = nI F.length ∧ x9 = 0) ∨
       (∃ (i j : Nat), (i < A.length ∧ x = nI i) ∧ (j < A.length ∧ y = nI j) ∧ TMm so un (nth A i) (nth A j) ∧ r' = 0 ∧ x9 = 2) ∨
       (¬ (isn x A.length ∧ isn y A.length) ∧ r' = 0 ∧ x9 = 3)) : AG [(1, 3), (2, 2)] th x9 r r' := by
  have bl : A.length < 2147483648 := by omega
  rcases h with ⟨i, j, pv, F, a1, a2, a3, a4, a5⟩ | ⟨i, j, a1, a2, a3, a4, a5⟩ | ⟨a1, a2, a3⟩ <;> rcases h' with ⟨i', j', pv', F', b1, b2, b3, b4, b5⟩ | ⟨i', j', b1, b2, b3, b4, b5⟩ | ⟨b1, b2, b3⟩
  · obtain rfl := ixu bl a1 b1
    obtain rfl := ixu bl a2 b2
    rw [MatL_uniq a3 b3] at a4
    exact AG_0 a5 b5 (a4.trans b4.symm)
  · obtain rfl := ixu bl a1 b1
    obtain rfl := ixu bl a2 b2
    exact absurd b3 (MatL_not a3)
  · exact absurd ⟨isn_ix bl a1, isn_ix bl a2⟩ b1
  · obtain rfl := ixu bl a1 b1
    obtain rfl := ixu bl a2 b2
    exact absurd a3 (MatL_not b3)
  · exact AG_t a5 b5 (by simp)
  · exact absurd ⟨isn_ix bl a1, isn_ix bl a2⟩ b1
  · exact absurd ⟨isn_ix bl b1, isn_ix bl b2⟩ a1
  · exact absurd ⟨isn_ix bl b1, isn_ix bl b2⟩ a1
  · exact AG_t a3 b3 (by simp)
theorem an_bound {so ma : Nat → Nat} {un : Nat → Option Nat} {nv : Nat} {nmL : Nat → List Nat} {A : List (List Nat)} {x y k z r r' th x9 iss shn iss' shn' : Int32} {shr tx shr' tx' : Nat → Int32} {sw rw0 sw' rw' : Nat → Nat → Int32} (hA : A.length ≤ 30) (h5 : nv ≤ 5) (ht : ∀ t ∈ A, tok so un ma nv t) (hs : SH2 so ma un nv nmL shr tx iss shn sw rw0)
    (h : (∃ (i j v : Nat), (i < A.length ∧ x = nI i) ∧ (j < A.length ∧ y = nI j) ∧ (v < nv ∧ z = nI v) ∧
          ((∃ (pv1 : Int32) (F : List (List Nat)), MatL so un (nth A i) (nth A j) pv1 F ∧
              ((∃ (q : Nat) (sg : Nat → List Nat), q < F.length ∧ k = nI q ∧ v ∈ nth A i ∧ von so un sg (nth A i) ∧ fil so un sg (nth A i) = nth A j ∧ nth F q = key pv1 sg ∧ th = 0 ∧ r = nI (txt nmL (sg v)).length ∧ SHW so un ma nv nmL (some (sg v)) shr' tx' iss' shn') ∨
               (¬ (isn k F.length ∧ v ∈ nth A i) ∧ th = 2 ∧ r = 0 ∧ shr' = shr ∧ tx' = tx ∧ iss' = iss ∧ shn' = shn))) ∨
           (TMm so un (nth A i) (nth A j) ∧ th = 3 ∧ r = 0 ∧ shr' = shr ∧ tx' = tx ∧ iss' = iss ∧ shn' = shn))) ∨
       (¬ (isn x A.length ∧ isn y A.length ∧ isn z nv) ∧ th = 1 ∧ r = 0 ∧ shr' = shr ∧ tx' = tx ∧ iss' = iss ∧ shn' = shn))
    (h' : (∃ (i j vv : Nat), (i < A.length ∧ x = nI i) ∧ (j < A.length ∧ y = nI j) ∧ (vv < nv ∧ z = nI vv) ∧
          ((∃ (pv1 : Int32) (F : List (List Nat)), MatL so un (nth A i) (nth A j) pv1 F ∧
              ((∃ (q : Nat) (sg : Nat → List Nat), q < F.length ∧ k = nI q ∧ vv ∈ nth A i ∧ von so un sg (nth A i) ∧ fil so un sg (nth A i) = nth A j ∧ nth F q = key pv1 sg ∧ x9 = 0 ∧ r' = nI (txt nmL (sg vv)).length ∧ SHC sw' rw' so ma un nv nmL (some (sg vv))) ∨
               (¬ (isn k F.length ∧ vv ∈ nth A i) ∧ x9 = 4 ∧ r' = 0 ∧ sw' = sw ∧ rw' = rw0))) ∨
           (TMm so un (nth A i) (nth A j) ∧ x9 = 2 ∧ r' = 0 ∧ sw' = sw ∧ rw' = rw0))) ∨
       (¬ (isn x A.length ∧ isn y A.length ∧ isn z nv) ∧ x9 = 3 ∧ r' = 0 ∧ sw' = sw ∧ rw' = rw0)) :
    AG [(1, 3), (2, 4), (3, 2)] th x9 r r' ∧ SH2 so ma un nv nmL shr' tx' iss' shn' sw' rw' := by
  have bl : A.length < 2147483648 := by omega
  rcases h with ⟨i, j, v, a1, a2, a3, a4⟩ | ⟨a1, a2, a3, rfl, rfl, rfl, rfl⟩ <;> rcases h' with ⟨i', j', v', b1, b2, b3, b4⟩ | ⟨b1, b2, b3, rfl, rfl⟩
  · obtain rfl := ixu bl a1 b1
    obtain rfl := ixu bl a2 b2
    obtain rfl := ixu (by omega) a3 b3
    rcases a4 with ⟨pv, F, c1, c2⟩ | ⟨c1, c2, c3, rfl, rfl, rfl, rfl⟩ <;> rcases b4 with ⟨pv', F', d1, d2⟩ | ⟨d1, d2, d3, rfl, rfl⟩
    · obtain rfl := MatL_uniq c1 d1
      have lF := c1.2.2.1
      rcases c2 with ⟨q, sg, e1, e2, e3, e4, e5, e6, e7, e8, e9⟩ | ⟨e1, e2, e3, rfl, rfl, rfl, rfl⟩ <;> rcases d2 with ⟨q', sg', f1, f2, f3, f4, f5, f6, f7, f8, f9⟩ | ⟨f1, f2, f3, rfl, rfl⟩
      · obtain rfl := ixu (show F.length < 2147483648 by omega) ⟨e1, e2⟩ ⟨f1, f2⟩
        have ek : key pv sg = key pv sg' := by rw [← e6, f6]; exact key_pvs d1.1 c1.1
        have es := key_inj c1.1 e4 f4 (ht _ (nth_mem a1.1)).1.1.2.1 ek v e3 (by omega)
        rw [es] at e8 e9
        exact ⟨AG_0 e7 f7 (e8.trans f8.symm), _, e9, f9⟩
      · exact absurd ⟨isn_ix (by omega) ⟨e1, e2⟩, e3⟩ f1
      · exact absurd ⟨isn_ix (by omega) ⟨f1, f2⟩, f3⟩ e1
      · exact ⟨AG_t e2 f2 (by simp), hs⟩
    · exact absurd d1 (MatL_not c1)
    · exact absurd c1 (MatL_not d1)
    · exact ⟨AG_t c2 d2 (by simp), hs⟩
  · exact absurd ⟨isn_ix bl a1, isn_ix bl a2, isn_ix (by omega) a3⟩ b1
  · exact absurd ⟨isn_ix bl b1, isn_ix bl b2, isn_ix (by omega) b3⟩ a1
  · exact ⟨AG_t a2 b2 (by simp), hs⟩
theorem an_fill {so ma : Nat → Nat} {un : Nat → Option Nat} {nv : Nat} {nmL : Nat → List Nat} {A : List (List Nat)} {x z y r r' th x9 iss shn iss' shn' : Int32} {shr tx shr' tx' : Nat → Int32} {sw rw0 sw' rw' : Nat → Nat → Int32} (hA : A.length ≤ 30) (h5 : nv ≤ 5) (hs : SH2 so ma un nv nmL shr tx iss shn sw rw0)
    (h : (∃ (i v j : Nat), (i < A.length ∧ x = nI i) ∧ (v < nv ∧ z = nI v) ∧ (j < A.length ∧ y = nI j) ∧
          ((great so (putv so un v (nth A j) (nth A i)) = false ∧ th = 0 ∧ r = nI (txt nmL (putv so un v (nth A j) (nth A i))).length ∧ SHW so un ma nv nmL (some (putv so un v (nth A j) (nth A i))) shr' tx' iss' shn') ∨
           (great so (putv so un v (nth A j) (nth A i)) = true ∧ th = 2 ∧ r = 0 ∧ shr' = shr ∧ tx' = tx ∧ iss' = iss ∧ shn' = shn))) ∨
       (¬ (isn x A.length ∧ isn z nv ∧ isn y A.length) ∧ th = 1 ∧ r = 0 ∧ shr' = shr ∧ tx' = tx ∧ iss' = iss ∧ shn' = shn))
    (h' : (∃ (i vv j : Nat), (i < A.length ∧ x = nI i) ∧ (vv < nv ∧ z = nI vv) ∧ (j < A.length ∧ y = nI j) ∧
          ((great so (putv so un vv (nth A j) (nth A i)) = false ∧ x9 = 0 ∧ r' = nI (txt nmL (putv so un vv (nth A j) (nth A i))).length ∧ SHC sw' rw' so ma un nv nmL (some (putv so un vv (nth A j) (nth A i)))) ∨
           (great so (putv so un vv (nth A j) (nth A i)) = true ∧ x9 = 2 ∧ r' = 0 ∧ sw' = sw ∧ rw' = rw0))) ∨
       (¬ (isn x A.length ∧ isn z nv ∧ isn y A.length) ∧ x9 = 3 ∧ r' = 0 ∧ sw' = sw ∧ rw' = rw0)) :
    AG [(1, 3), (2, 2)] th x9 r r' ∧ SH2 so ma un nv nmL shr' tx' iss' shn' sw' rw' := by
  have bl : A.length < 2147483648 := by omega
  rcases h with ⟨i, v, j, a1, a2, a3, a4⟩ | ⟨a1, a2, a3, rfl, rfl, rfl, rfl⟩ <;> rcases h' with ⟨i', v', j', b1, b2, b3, b4⟩ | ⟨b1, b2, b3, rfl, rfl⟩
  · obtain rfl := ixu bl a1 b1
    obtain rfl := ixu (by omega) a2 b2
    obtain rfl := ixu bl a3 b3
    rcases a4 with ⟨c1, c2, c3, c4⟩ | ⟨c1, c2, c3, rfl, rfl, rfl, rfl⟩ <;> rcases b4 with ⟨d1, d2, d3, d4⟩ | ⟨d1, d2, d3, rfl, rfl⟩
    · exact ⟨AG_0 c2 d2 (c3.trans d3.symm), _, c4, d4⟩
    · rw [c1] at d1; exact nomatch d1
    · rw [c1] at d1; exact nomatch d1
    · exact ⟨AG_t c2 d2 (by simp), hs⟩
  · exact absurd ⟨isn_ix bl a1, isn_ix (by omega) a2, isn_ix bl a3⟩ b1
  · exact absurd ⟨isn_ix bl b1, isn_ix (by omega) b2, isn_ix bl b3⟩ a1
  · exact ⟨AG_t a2 b2 (by simp), hs⟩
theorem an_join {so ma : Nat → Nat} {un : Nat → Option Nat} {nv no : Nat} {nmL : Nat → List Nat} {A : List (List Nat)} {o x y r r' th x9 iss shn iss' shn' : Int32} {shr tx shr' tx' : Nat → Int32} {sw rw0 sw' rw' : Nat → Nat → Int32} (hA : A.length ≤ 30) (h10 : no ≤ 10) (hs : SH2 so ma un nv nmL shr tx iss shn sw rw0)
    (h : (∃ (q i j : Nat), (q < no ∧ o = nI q) ∧ (i < A.length ∧ x = nI i) ∧ (j < A.length ∧ y = nI j) ∧ so q = 2 ∧
          ((great so (stand so un q [nth A i, nth A j]) = false ∧ th = 0 ∧ r = nI (txt nmL (stand so un q [nth A i, nth A j])).length ∧ SHW so un ma nv nmL (some (stand so un q [nth A i, nth A j])) shr' tx' iss' shn') ∨
           (great so (stand so un q [nth A i, nth A j]) = true ∧ th = 3 ∧ r = 0 ∧ shr' = shr ∧ tx' = tx ∧ iss' = iss ∧ shn' = shn))) ∨
       (∃ (q : Nat), (q < no ∧ o = nI q) ∧ isn x A.length ∧ isn y A.length ∧ so q ≠ 2 ∧ th = 2 ∧ r = 0 ∧ shr' = shr ∧ tx' = tx ∧ iss' = iss ∧ shn' = shn) ∨
       (¬ (isn o no ∧ isn x A.length ∧ isn y A.length) ∧ th = 1 ∧ r = 0 ∧ shr' = shr ∧ tx' = tx ∧ iss' = iss ∧ shn' = shn))
    (h' : (∃ (q i j : Nat), (q < no ∧ o = nI q) ∧ (i < A.length ∧ x = nI i) ∧ (j < A.length ∧ y = nI j) ∧ so q = 2 ∧
          ((great so (stand so un q [nth A i, nth A j]) = false ∧ x9 = 0 ∧ r' = nI (txt nmL (stand so un q [nth A i, nth A j])).length ∧ SHC sw' rw' so ma un nv nmL (some (stand so un q [nth A i, nth A j]))) ∨
           (great so (stand so un q [nth A i, nth A j]) = true ∧ x9 = 2 ∧ r' = 0 ∧ sw' = sw ∧ rw' = rw0))) ∨
       (∃ (q : Nat), (q < no ∧ o = nI q) ∧ isn x A.length ∧ isn y A.length ∧ so q ≠ 2 ∧ x9 = 1 ∧ r' = 0 ∧ sw' = sw ∧ rw' = rw0) ∨
       (¬ (isn o no ∧ isn x A.length ∧ isn y A.length) ∧ x9 = 3 ∧ r' = 0 ∧ sw' = sw ∧ rw' = rw0)) :
    AG [(1, 3), (2, 1), (3, 2)] th x9 r r' ∧ SH2 so ma un nv nmL shr' tx' iss' shn' sw' rw' := by
  have bl : A.length < 2147483648 := by omega
  have bn : no < 2147483648 := by omega
  rcases h with ⟨q, i, j, a1, a2, a3, a4, a5⟩ | ⟨q, a1, a2, a3, a4, a5, a6, rfl, rfl, rfl, rfl⟩ | ⟨a1, a2, a3, rfl, rfl, rfl, rfl⟩ <;> rcases h' with ⟨q', i', j', b1, b2, b3, b4, b5⟩ | ⟨q', b1, b2, b3, b4, b5, b6, rfl, rfl⟩ | ⟨b1, b2, b3, rfl, rfl⟩
  · obtain rfl := ixu bn a1 b1
    obtain rfl := ixu bl a2 b2
    obtain rfl := ixu bl a3 b3
    rcases a5 with ⟨c1, c2, c3, c4⟩ | ⟨c1, c2, c3, rfl, rfl, rfl, rfl⟩ <;> rcases b5 with ⟨d1, d2, d3, d4⟩ | ⟨d1, d2, d3, rfl, rfl⟩
    · exact ⟨AG_0 c2 d2 (c3.trans d3.symm), _, c4, d4⟩
    · rw [c1] at d1; exact nomatch d1
    · rw [c1] at d1; exact nomatch d1
    · exact ⟨AG_t c2 d2 (by simp), hs⟩
  · obtain rfl := ixu bn a1 b1
    exact absurd a4 b4
  · exact absurd ⟨isn_ix bn a1, isn_ix bl a2, isn_ix bl a3⟩ b1
  · obtain rfl := ixu bn a1 b1
    exact absurd b4 a4
  · exact ⟨AG_t a5 b5 (by simp), hs⟩
  · exact absurd ⟨isn_ix bn a1, a2, a3⟩ b1
  · exact absurd ⟨isn_ix bn b1, isn_ix bl b2, isn_ix bl b3⟩ a1
  · exact absurd ⟨isn_ix bn b1, b2, b3⟩ a1
  · exact ⟨AG_t a2 b2 (by simp), hs⟩
theorem an_place {so ma : Nat → Nat} {un : Nat → Option Nat} {nv : Nat} {nmL : Nat → List Nat} {A : List (List Nat)} {p k r r' th x9 iss shn iss' shn' : Int32} {shr tx shr' tx' : Nat → Int32} {sw rw0 sw' rw' : Nat → Nat → Int32} (hA : A.length ≤ 30) (ht : ∀ t ∈ A, tok so un ma nv t) (hs : SH2 so ma un nv nmL shr tx iss shn sw rw0)
    (h : (∃ (i j : Nat), i < A.length ∧ p = nI i ∧ j < (nth A i).length ∧ k = nI j ∧ th = 0 ∧ r = nI (txt nmL (sbt (nth A i) j)).length ∧ SHW so un ma nv nmL (some (sbt (nth A i) j)) shr' tx' iss' shn') ∨
       (∃ (i : Nat), i < A.length ∧ p = nI i ∧ ¬ isn k (nth A i).length ∧ th = 2 ∧ r = 0 ∧ shr' = shr ∧ tx' = tx ∧ iss' = iss ∧ shn' = shn) ∨
       (¬ isn p A.length ∧ th = 1 ∧ r = 0 ∧ shr' = shr ∧ tx' = tx ∧ iss' = iss ∧ shn' = shn))
    (h' : (∃ (i j : Nat), i < A.length ∧ p = nI i ∧ j < (nth A i).length ∧ k = nI j ∧ x9 = 0 ∧ r' = nI (txt nmL (sbt (nth A i) j)).length ∧ SHC sw' rw' so ma un nv nmL (some (sbt (nth A i) j))) ∨
       (∃ (i : Nat), i < A.length ∧ p = nI i ∧ ¬ isn k (nth A i).length ∧ x9 = 4 ∧ r' = 0 ∧ sw' = sw ∧ rw' = rw0) ∨
       (¬ isn p A.length ∧ x9 = 3 ∧ r' = 0 ∧ sw' = sw ∧ rw' = rw0)) :
    AG [(1, 3), (2, 4)] th x9 r r' ∧ SH2 so ma un nv nmL shr' tx' iss' shn' sw' rw' := by
  have bl : A.length < 2147483648 := by omega
  rcases h with ⟨i, j, a1, a2, a3, a4, a5, a6, a7⟩ | ⟨i, a1, a2, a3, a4, a5, rfl, rfl, rfl, rfl⟩ | ⟨a1, a2, a3, rfl, rfl, rfl, rfl⟩ <;> rcases h' with ⟨i', j', b1, b2, b3, b4, b5, b6, b7⟩ | ⟨i', b1, b2, b3, b4, b5, rfl, rfl⟩ | ⟨b1, b2, b3, rfl, rfl⟩
  · obtain rfl := ixu bl ⟨a1, a2⟩ ⟨b1, b2⟩
    have l20 := tok_len (ht _ (nth_mem a1))
    obtain rfl := ixu (show (nth A i).length < 2147483648 by omega) ⟨a3, a4⟩ ⟨b3, b4⟩
    exact ⟨AG_0 a5 b5 (a6.trans b6.symm), _, a7, b7⟩
  · obtain rfl := ixu bl ⟨a1, a2⟩ ⟨b1, b2⟩
    have l20 := tok_len (ht _ (nth_mem a1))
    exact absurd (isn_ix (by omega) ⟨a3, a4⟩) b3
  · exact absurd (isn_ix bl ⟨a1, a2⟩) b1
  · obtain rfl := ixu bl ⟨a1, a2⟩ ⟨b1, b2⟩
    have l20 := tok_len (ht _ (nth_mem a1))
    exact absurd (isn_ix (by omega) ⟨b3, b4⟩) a3
  · exact ⟨AG_t a4 b4 (by simp), hs⟩
  · exact absurd (isn_ix bl ⟨a1, a2⟩) b1
  · exact absurd (isn_ix bl ⟨b1, b2⟩) a1
  · exact absurd (isn_ix bl ⟨b1, b2⟩) a1
  · exact ⟨AG_t a2 b2 (by simp), hs⟩
