/-! ===== stands: what an operator makes of parts ===== -/
def cdo (op n : Nat) : Nat := 512 * (op + 1) + n
theorem ar_code {op n : Nat} (hn : n < 512) : ar (cdo op n) = n := by unfold ar cdo; rw [if_neg (by omega)]; omega
theorem cok_code {op n : Nat} (ho : op < 10) (hn : n < 512) : cok (cdo op n) := Or.inr (by unfold cdo; omega)
theorem fx_codeOf_ok {n op k : Nat} (ho : op < 10) (hk : k < 1000) : fx_codeOf n (nI op) (nI k) = some (nI (cdo op k)) := by
  unfold fx_codeOf
  rw [xl_eq, nI_1, xl_eq, show (512 : Int32) = nI 512 from rfl, nI_mul (by omega) (by decide) (by omega), xl_eq, nI_add]; rfl
/-- sorts and units of operators, as the reference has them -/
def SG (fs fu : Nat → Int32) (so : Nat → Nat) (un : Nat → Option Nat) : Prop :=
  ∀ o : Nat, o < 10 ∧ so o ≠ 3 → fs o = nI (so o) ∧ so o ≤ 2 ∧ (un o = none → fu o = -1) ∧ (∀ u : Nat, un o = some u → fu o = nI u ∧ u < 10)
/-- a term of an operator -/
def isop (op : Nat) (t : List Nat) : Bool := match t with
  | [] => false
  | c :: _ => decide (512 ≤ c) && decide (c / 512 - 1 = op)
def isun (un : Nat → Option Nat) (op : Nat) (t : List Nat) : Bool := match un op, t with
  | some u, c :: _ => decide (c = cdo u 0)
  | _, _ => false
def flat1 (so : Nat → Nat) (un : Nat → Option Nat) (op : Nat) (t : List Nat) : List (List Nat) :=
  if so op = 2 then (if isop op t then pts t else if isun un op t then [] else [t]) else [t]
def flats (so : Nat → Nat) (un : Nat → Option Nat) (op : Nat) : List (List Nat) → List (List Nat)
  | [] => []
  | t :: ts => flat1 so un op t ++ flats so un op ts
def mkt (so : Nat → Nat) (un : Nat → Option Nat) (op : Nat) (ys : List (List Nat)) : List Nat :=
  if so op = 2 then (match ys with
    | [] => (match un op with
      | none => []
      | some u => [cdo u 0])
    | [y] => y
    | _ => cdo op ys.length :: ys.flatten)
  else cdo op ys.length :: ys.flatten
/-- what an operator makes of parts -/
def stand (so : Nat → Nat) (un : Nat → Option Nat) (op : Nat) (ts : List (List Nat)) : List Nat :=
  mkt so un op (if so op = 0 then flats so un op ts else srt (flats so un op ts))
/-- rows one behind another, with their addresses -/
def prs : Nat → List (List Nat) → List (Nat × List Nat)
  | _, [] => []
  | a, q :: qs => (a, q) :: prs (a + q.length) qs
theorem prs_len : ∀ {qs : List (List Nat)} {a : Nat}, (prs a qs).length = qs.length
  | [], _ => rfl
  | q :: qs, a => by show (prs (a + q.length) qs).length + 1 = qs.length + 1; rw [prs_len]
theorem prs_snd : ∀ {qs : List (List Nat)} {a : Nat}, (prs a qs).map Prod.snd = qs
  | [], _ => rfl
  | q :: qs, a => by show q :: (prs (a + q.length) qs).map Prod.snd = q :: qs; rw [prs_snd]
theorem prs_ok {f : Nat → Int32} : ∀ {qs : List (List Nat)} {a T : Nat}, la f a qs.flatten → wfs qs → col qs.flatten → a + qs.flatten.length ≤ T → T ≤ 60000 → ∀ x ∈ prs a qs, okp f x ∧ x.1 + x.2.length ≤ T
  | [], _, _, _, _, _, _, _, x, hx => absurd hx List.not_mem_nil
  | q :: qs, a, T, hl, hw, hc, ha, hT, x, hx => by
    rw [List.flatten_cons] at hl hc ha
    rw [List.length_append] at ha
    have h1 := la_app.mp hl
    have h2 := col_app.mp hc
    rcases List.mem_cons.mp hx with g | g
    · subst g
      exact ⟨⟨h1.1, hw q (List.mem_cons_self ..), h2.1, by show a + q.length ≤ 60000; omega⟩, by show a + q.length ≤ T; omega⟩
    · exact prs_ok h1.2 (fun z hz => hw z (List.mem_cons_of_mem _ hz)) h2.2 (by omega) hT x g
theorem lx_stands_48_ok {n : Nat} {fs fu fp : Nat → Int32} {p0 p1 top : Int32} {k5 : Int32 → Int32 → (Nat → Int32) → Int32 → (Nat → Int32) → Option (Int32 × (Nat → Int32) × Int32 × (Nat → Int32))} {at0 ae : Int32} (hae : fx_behind n fp at0 = some ae) (hn : 100000 ≤ n) :
    ∀ (qs : List (List Nat)) (xs : List (Nat × List Nat)) (f : Nat → Int32) (a m : Nat), la fp a qs.flatten → wfs qs → col qs.flatten → a + qs.flatten.length ≤ 60000 → la f 0 (adr xs) → xs.length + qs.length ≤ 512 → qs.length < m →
    ∃ f' : Nat → Int32, lx_stands_48 n fs fu p0 p1 k5 m (nI xs.length) at0 (nI (a + qs.flatten.length)) (nI a) fp top f = k5 (nI (xs.length + qs.length)) ae fp top f' ∧ la f' 0 (adr (xs ++ prs a qs))
  | [], xs, f, a, m + 1, _, _, _, _, hs, hb, _ => by
    refine ⟨f, ?_, by simpa [prs] using hs⟩
    show bx_stands_48 n fs fu p0 p1 k5 (lx_stands_48 n fs fu p0 p1 k5 m) _ _ _ _ _ _ _ = _
    unfold bx_stands_48
    simp only [List.flatten_nil, List.length_nil, Nat.add_zero]
    rw [if_pos (Int32.le_refl _), hae]; rfl
  | q :: qs, xs, f, a, m + 1, hl, hw, hc, ha, hs, hb, hm => by
    rw [List.flatten_cons] at hl hc ha
    rw [List.length_append] at ha
    simp only [List.length_cons] at hb hm
    have h1 := la_app.mp hl
    have h2 := col_app.mp hc
    have hq := hw q (List.mem_cons_self ..)
    have hqp := wf_pos hq
    have hlx : (adr xs).length = xs.length := by simp [adr]
    obtain ⟨f', g1, g2⟩ := lx_stands_48_ok (fs := fs) (fu := fu) (p0 := p0) (p1 := p1) (top := top) (k5 := k5) hae hn qs (xs ++ [(a, q)]) (upd f xs.length (nI a)) (a + q.length) m h1.2 (fun z hz => hw z (List.mem_cons_of_mem _ hz)) h2.2 (by omega)
      (by
        rw [show adr (xs ++ [(a, q)]) = adr xs ++ [a] by simp [adr]]
        exact la_snoc (la_upd (Or.inr (by rw [hlx]; omega)) hs) (by rw [hlx, Nat.zero_add]; exact upd_eq _ _ _)) (by simp; omega) (by omega)
    refine ⟨f', ?_, ?_⟩
    · show bx_stands_48 n fs fu p0 p1 k5 (lx_stands_48 n fs fu p0 p1 k5 m) _ _ _ _ _ _ _ = _
      unfold bx_stands_48
      rw [List.flatten_cons, List.length_append]
      rw [if_neg (by rw [nI_le_iff (by omega) (by omega)]; omega), xw_n (by omega) (by decide), xl_eq, nI_1, fx_behind_ok h1.1 hq h2.1 (by omega) hn]
      show lx_stands_48 n fs fu p0 p1 k5 m (nI (xs.length + 1)) at0 (nI (a + (q.length + qs.flatten.length))) (nI (a + q.length)) fp top (upd f xs.length (nI a)) = _
      rw [List.length_append, List.length_singleton] at g1
      rw [show a + (q.length + qs.flatten.length) = a + q.length + qs.flatten.length by omega, g1, List.length_cons, show xs.length + 1 + qs.length = xs.length + (qs.length + 1) by omega]
    · rw [show xs ++ prs a (q :: qs) = xs ++ [(a, q)] ++ prs (a + q.length) qs by simp [prs]]; exact g2
/-- the flattened parts with their addresses -/
def fpr (so : Nat → Nat) (un : Nat → Option Nat) (op : Nat) (a : Nat) (t : List Nat) : List (Nat × List Nat) :=
  if so op = 2 then (if isop op t then prs (a + 1) (pts t) else if isun un op t then [] else [(a, t)]) else [(a, t)]
def fprs (so : Nat → Nat) (un : Nat → Option Nat) (op : Nat) : Nat → List (List Nat) → List (Nat × List Nat)
  | _, [] => []
  | a, t :: ts => fpr so un op a t ++ fprs so un op (a + t.length) ts
theorem fpr_snd {so : Nat → Nat} {un : Nat → Option Nat} {op a : Nat} {t : List Nat} : (fpr so un op a t).map Prod.snd = flat1 so un op t := by
  unfold fpr flat1
  split
  · split
    · exact prs_snd
    · split <;> rfl
  · rfl
theorem fprs_snd {so : Nat → Nat} {un : Nat → Option Nat} {op : Nat} : ∀ {ts : List (List Nat)} {a : Nat}, (fprs so un op a ts).map Prod.snd = flats so un op ts
  | [], _ => rfl
  | t :: ts, a => by
    show (fpr so un op a t ++ fprs so un op (a + t.length) ts).map Prod.snd = flat1 so un op t ++ flats so un op ts
    rw [List.map_append, fpr_snd, fprs_snd]
theorem fpr_ok {so : Nat → Nat} {un : Nat → Option Nat} {op a T : Nat} {t : List Nat} {f : Nat → Int32} (hl : la f a t) (hw : wf 1 t) (hc : col t) (ha : a + t.length ≤ T) (hT : T ≤ 60000) : ∀ x ∈ fpr so un op a t, okp f x ∧ x.1 + x.2.length ≤ T := by
  have hs : ∀ x ∈ [(a, t)], okp f x ∧ x.1 + x.2.length ≤ T := fun x hx => by
    rw [List.mem_singleton.mp hx]; exact ⟨⟨hl, hw, hc, by show a + t.length ≤ 60000; omega⟩, ha⟩
  unfold fpr
  split
  · split
    · cases t with
      | nil => exact fun x hx => absurd hx List.not_mem_nil
      | cons c l =>
        obtain ⟨h1, h2, h3⟩ := pts_of hw
        simp only [List.length_cons] at ha
        exact prs_ok (T := T) (by rw [h3]; exact hl.2) h1 (by rw [h3]; exact (col_cons.mp hc).2) (by rw [h3]; omega) hT
    · split
      · exact fun x hx => absurd hx List.not_mem_nil
      · exact hs
  · exact hs
theorem fprs_ok {so : Nat → Nat} {un : Nat → Option Nat} {op T : Nat} {f : Nat → Int32} : ∀ {ts : List (List Nat)} {a : Nat}, la f a ts.flatten → wfs ts → col ts.flatten → a + ts.flatten.length ≤ T → T ≤ 60000 → ∀ x ∈ fprs so un op a ts, okp f x ∧ x.1 + x.2.length ≤ T
  | [], _, _, _, _, _, _, x, hx => absurd hx List.not_mem_nil
  | t :: ts, a, hl, hw, hc, ha, hT, x, hx => by
    rw [List.flatten_cons] at hl hc ha
    rw [List.length_append] at ha
    have h1 := la_app.mp hl
    have h2 := col_app.mp hc
    rcases List.mem_append.mp hx with g | g
    · exact fpr_ok h1.1 (hw t (List.mem_cons_self ..)) h2.1 (by omega) hT x g
    · exact fprs_ok h1.2 (fun z hz => hw z (List.mem_cons_of_mem _ hz)) h2.2 (by omega) hT x g
theorem flat1_len {so : Nat → Nat} {un : Nat → Option Nat} {op : Nat} {t : List Nat} (hw : wf 1 t) : (flat1 so un op t).length ≤ t.length ∧ (flat1 so un op t).flatten.length ≤ t.length := by
  have hp := wf_pos hw
  unfold flat1
  split
  · split
    · cases t with
      | nil => exact ⟨Nat.le_refl _, Nat.le_refl _⟩
      | cons c l =>
        obtain ⟨h1, h2, h3⟩ := pts_of hw
        have := wf_len (wf_cons hw)
        rw [h2, h3]; simp only [List.length_cons]; omega
    · split
      · simp
      · simp; omega
  · simp; omega
theorem flats_len {so : Nat → Nat} {un : Nat → Option Nat} {op : Nat} : ∀ {ts : List (List Nat)}, wfs ts → (flats so un op ts).length ≤ ts.flatten.length ∧ (flats so un op ts).flatten.length ≤ ts.flatten.length
  | [], _ => ⟨Nat.le_refl _, Nat.le_refl _⟩
  | t :: ts, h => by
    have h1 := flat1_len (so := so) (un := un) (op := op) (h t (List.mem_cons_self ..))
    have h2 := flats_len (so := so) (un := un) (op := op) (ts := ts) (fun z hz => h z (List.mem_cons_of_mem _ hz))
    show (flat1 so un op t ++ flats so un op ts).length ≤ (t ++ ts.flatten).length ∧ (flat1 so un op t ++ flats so un op ts).flatten.length ≤ (t ++ ts.flatten).length
    rw [List.length_append, List.length_append, List.flatten_append, List.length_append]; omega
