/-! ===== filling depends on the variables of a term alone; keys tell what the variables have ===== -/
theorem filT_congr {so : Nat → Nat} {un : Nat → Option Nat} {s1 s2 : Nat → List Nat} : ∀ (d : Nat) (t : List Nat), wf 1 t → t.length ≤ d → (∀ c ∈ t, c < 512 → s1 c = s2 c) → filT so un s1 d t = filT so un s2 d t
  | 0, t, h, hd, _ => absurd (wf_pos h) (by omega)
  | d + 1, [], h, _, _ => absurd (wf_pos h) (by simp)
  | d + 1, c :: l, h, hd, hv => by
    simp only [List.length_cons] at hd
    rw [filT_s, filT_s]
    by_cases q : c < 512
    · rw [if_pos q, if_pos q]; exact hv c (List.mem_cons_self ..) q
    · rw [if_neg q, if_neg q]
      by_cases q4 : ar c = 0
      · rw [if_pos q4, if_pos q4]
      · rw [if_neg q4, if_neg q4]
        have e : (pts (c :: l)).map (filT so un s1 d) = (pts (c :: l)).map (filT so un s2 d) := List.map_congr_left (fun t ht => by
          have hs := pts_short h ht
          exact filT_congr d t ((pts_of h).1 t ht) (by omega) (fun e he => hv e (mem_pts h ht he)))
        rw [e]
theorem fil_congr {so : Nat → Nat} {un : Nat → Option Nat} {s1 s2 : Nat → List Nat} {t : List Nat} (h : wf 1 t) (hl : t.length ≤ 20) (hv : ∀ c ∈ t, c < 512 → s1 c = s2 c) : fil so un s1 t = fil so un s2 t := filT_congr 21 t h (by omega) hv
theorem pad_inj {a b : List Nat} (ha : wf 1 a) (hb' : wf 1 b) (h : pad a = pad b) : a = b := (wf_uniq ha hb' h).1
theorem pad_if {pv : Int32} {s : Nat → List Nat} {v : Nat} (h : ∀ v : Nat, v < 5 → hb pv v = true → wf 1 (s v) ∧ (s v).length ≤ 20) (hv : v < 5) : (pad (if hb pv v then s v else [])).length = 21 := by
  refine pad_len ?_
  split
  · rename_i q; have := (h v hv q).2; omega
  · simp
theorem keyF_inj {pv : Int32} {s1 s2 : Nat → List Nat} (h1 : ∀ v : Nat, v < 5 → hb pv v = true → wf 1 (s1 v) ∧ (s1 v).length ≤ 20) (h2 : ∀ v : Nat, v < 5 → hb pv v = true → wf 1 (s2 v) ∧ (s2 v).length ≤ 20) : ∀ (k v : Nat), v + k ≤ 5 → keyF pv s1 k v = keyF pv s2 k v → ∀ w : Nat, v ≤ w → w < v + k → hb pv w = true → s1 w = s2 w
  | 0, v, _, _, w, q1, q2, _ => by omega
  | k + 1, v, hv, e, w, q1, q2, hw => by
    have e' : pad (if hb pv v then s1 v else []) ++ keyF pv s1 k (v + 1) = pad (if hb pv v then s2 v else []) ++ keyF pv s2 k (v + 1) := e
    obtain ⟨a, b⟩ := List.append_inj e' ((pad_if h1 (by omega)).trans (pad_if h2 (by omega)).symm)
    by_cases q : w = v
    · subst q
      rw [if_pos hw, if_pos hw] at a
      exact pad_inj (h1 w (by omega) hw).1 (h2 w (by omega) hw).1 a
    · exact keyF_inj h1 h2 k (v + 1) (by omega) b w (by omega) (by omega) hw
/-- the variables of a pattern as a set -/
def pvs (pv : Int32) (p : List Nat) : Prop := ∀ v : Nat, v < 5 → (hb pv v = true ↔ v ∈ p)
theorem von_pv {so : Nat → Nat} {un : Nat → Option Nat} {sg : Nat → List Nat} {pv : Int32} {p : List Nat} (hp : pvs pv p) (h : von so un sg p) : ∀ v : Nat, v < 5 → hb pv v = true → wf 1 (sg v) ∧ (sg v).length ≤ 20 := fun v hv q => by
  have := h v ((hp v hv).mp q) (by omega)
  exact ⟨this.1.1.1, this.2⟩
theorem key_inj {so : Nat → Nat} {un : Nat → Option Nat} {s1 s2 : Nat → List Nat} {pv : Int32} {p : List Nat} (hp : pvs pv p) (h1 : von so un s1 p) (h2 : von so un s2 p) (hc : col p) (e : key pv s1 = key pv s2) : ∀ c ∈ p, c < 512 → s1 c = s2 c := fun c hcp q => by
  have h5 : c < 5 := by rcases hc c hcp with h | h <;> omega
  exact keyF_inj (von_pv hp h1) (von_pv hp h2) 5 0 (by omega) e c (Nat.zero_le _) (by omega) ((hp c h5).mpr hcp)
/-! ===== a term at a place of another ===== -/
theorem flat_at : ∀ {ts : List (List Nat)} {k : Nat}, k < ts.flatten.length → ∃ (X : List (List Nat)) (q : List Nat) (Y : List (List Nat)) (r : Nat), ts = X ++ q :: Y ∧ k = X.flatten.length + r ∧ r < q.length
  | [], k, h => absurd h (Nat.not_lt_zero _)
  | t :: ts, k, h => by
    rw [List.flatten_cons, List.length_append] at h
    by_cases q : k < t.length
    · exact ⟨[], t, ts, k, rfl, by simp, q⟩
    · obtain ⟨X, q1, Y, r, e1, e2, e3⟩ := flat_at (ts := ts) (k := k - t.length) (by omega)
      refine ⟨t :: X, q1, Y, r, by rw [e1]; rfl, ?_, e3⟩
      rw [List.flatten_cons, List.length_append]; omega
/-- what stands at a place, with what lies ahead of it and behind -/
theorem sub_ex {P : List Nat → Prop} (hw : ∀ t : List Nat, P t → wf 1 t) (hp : ∀ t : List Nat, P t → ∀ q ∈ pts t, P q) : ∀ (d : Nat) (w : List Nat) (pl : Nat), w.length ≤ d → P w → pl < w.length → ∃ A s B : List Nat, w = A ++ (s ++ B) ∧ A.length = pl ∧ P s
  | 0, w, pl, hd, _, hl => by omega
  | d + 1, [], pl, hd, _, hl => absurd hl (Nat.not_lt_zero _)
  | d + 1, c :: l, 0, hd, h, _ => ⟨[], c :: l, [], by simp, rfl, h⟩
  | d + 1, c :: l, pl + 1, hd, h, hl => by
    simp only [List.length_cons] at hd hl
    obtain ⟨k1, k2, k3⟩ := pts_of (hw _ h)
    obtain ⟨X, q, Y, r, e1, e2, e3⟩ := flat_at (ts := pts (c :: l)) (k := pl) (by rw [k3]; omega)
    have hq : q ∈ pts (c :: l) := by rw [e1]; exact List.mem_append_right _ (List.mem_cons_self ..)
    have hs := pts_short (hw _ h) hq
    obtain ⟨A, s, B, a1, a2, a3⟩ := sub_ex hw hp d q r (by omega) (hp _ h q hq) e3
    have el : l = X.flatten ++ (q ++ Y.flatten) := by rw [← k3, e1]; simp
    refine ⟨c :: (X.flatten ++ A), s, B ++ Y.flatten, ?_, ?_, a3⟩
    · rw [el, a1]; simp
    · simp only [List.length_cons, List.length_append]; omega
theorem sub_nok {so : Nat → Nat} {un : Nat → Option Nat} {w : List Nat} {pl : Nat} (h : nok so un w) (hl : pl < w.length) : ∃ A s B : List Nat, w = A ++ (s ++ B) ∧ A.length = pl ∧ nok so un s := sub_ex (P := nok so un) (fun _ q => q.1.1) (fun _ q => nok_pts q) w.length w pl (Nat.le_refl _) h hl
/-- what stands at a place -/
def sbt (w : List Nat) (pl : Nat) : List Nat := tk 1 (w.drop pl)
theorem sbt_app {A s B : List Nat} (h : wf 1 s) : sbt (A ++ (s ++ B)) A.length = s := by
  unfold sbt
  rw [List.drop_left]
  exact tk_app h
theorem sbt_nok {so : Nat → Nat} {un : Nat → Option Nat} {w : List Nat} {pl : Nat} (h : nok so un w) (hl : pl < w.length) : nok so un (sbt w pl) ∧ pl + (sbt w pl).length ≤ w.length ∧ (∀ c ∈ sbt w pl, c ∈ w) ∧ ∀ (f : Nat → Int32) (a : Nat), la f a w → la f (a + pl) (sbt w pl) := by
  obtain ⟨A, s, B, e1, e2, e3⟩ := sub_nok h hl
  have es : sbt w pl = s := by rw [e1, ← e2]; exact sbt_app e3.1.1
  rw [es]
  refine ⟨e3, ?_, fun c hc => ?_, fun f a hf => ?_⟩
  · rw [e1, List.length_append, List.length_append]; omega
  · rw [e1]; exact List.mem_append_right _ (List.mem_append_left _ hc)
  · rw [e1] at hf
    have := (la_app.mp (la_app.mp hf).2).1
    rw [e2] at this; exact this
/-! ===== a term rebuilt, wherever it lies ===== -/
theorem prs_shift {k : Nat} : ∀ {qs : List (List Nat)} {a : Nat}, prs (a + k) qs = (prs a qs).map (fun x => (x.1 + k, x.2))
  | [], _ => rfl
  | q :: qs, a => by
    show (a + k, q) :: prs (a + k + q.length) qs = (a + k, q) :: (prs (a + q.length) qs).map _
    rw [show a + k + q.length = a + q.length + k by omega, prs_shift]
theorem rebT_shift {so : Nat → Nat} {un : Nat → Option Nat} {p k : Nat} {b : List Nat} : ∀ (d a : Nat) (t : List Nat), rebT so un (p + k) b d (a + k, t) = rebT so un p b d (a, t)
  | 0, _, _ => rfl
  | d + 1, a, [] => by
    show (if a + k = p + k then b else []) = (if a = p then b else [])
    by_cases q : a = p
    · rw [if_pos q, if_pos (by omega)]
    · rw [if_neg q, if_neg (by omega)]
  | d + 1, a, c :: l => by
    rw [rebT_s, rebT_s]
    have e : (prs (a + k + 1) (pts (c :: l))).map (rebT so un (p + k) b d) = (prs (a + 1) (pts (c :: l))).map (rebT so un p b d) := by
      rw [show a + k + 1 = a + 1 + k by omega, prs_shift, List.map_map]
      exact List.map_congr_left (fun x _ => rebT_shift d x.1 x.2)
    rw [e]
    by_cases q : a = p
    · rw [if_pos q, if_pos (by omega)]
    · rw [if_neg q, if_neg (by omega)]
/-- a term with another one at one of its places -/
def reb (so : Nat → Nat) (un : Nat → Option Nat) (pl : Nat) (b w : List Nat) : List Nat := rebT so un pl b 21 (0, w)
theorem reb_at {so : Nat → Nat} {un : Nat → Option Nat} {pl wa : Nat} {b w : List Nat} : rebT so un (wa + pl) b 21 (wa, w) = reb so un pl b w := by
  have := rebT_shift (so := so) (un := un) (p := pl) (k := wa) (b := b) 21 0 w
  rw [Nat.zero_add, Nat.add_comm pl wa] at this
  exact this
/-! ===== steps of one group ===== -/
/-- the group's rows are just those of a set, or there are too many -/
def GX (so : Nat → Nat) (S0 : List StpE) (pl ru : Nat) (P : List Nat → Prop) (tm : Int32) (fpl fru fr : Nat → Int32) (M : Int32) : Prop :=
  (tm = 0 ∧ ∃ D : List (List Nat), (∀ r ∈ D, sok so r) ∧ D.Pairwise klt ∧ SL fpl fru fr (S0 ++ grpS pl ru D) ∧ M = nI (S0.length + D.length) ∧ S0.length + D.length ≤ 200 ∧ ∀ x : List Nat, x ∈ D ↔ P x) ∨
  (tm = 1 ∧ ∃ L : List (List Nat), L.Nodup ∧ 200 < S0.length + L.length ∧ ∀ x ∈ L, P x)
theorem GX_iff {so : Nat → Nat} {S0 : List StpE} {pl ru : Nat} {P Q : List Nat → Prop} {tm M : Int32} {fpl fru fr : Nat → Int32} (h : ∀ x : List Nat, P x ↔ Q x) (hg : GX so S0 pl ru P tm fpl fru fr M) : GX so S0 pl ru Q tm fpl fru fr M := by
  rcases hg with ⟨a, D, b, c, d, e, f, g⟩ | ⟨a, L, b, c, d⟩
  · exact Or.inl ⟨a, D, b, c, d, e, f, fun x => (g x).trans (h x)⟩
  · exact Or.inr ⟨a, L, b, c, fun x hx => (h x).mp (d x hx)⟩
theorem GX_more {so : Nat → Nat} {S0 : List StpE} {pl ru : Nat} {P Q : List Nat → Prop} {tm M : Int32} {fpl fru fr : Nat → Int32} (ht : ¬ tm = 0) (h : ∀ x : List Nat, P x → Q x) (hg : GX so S0 pl ru P tm fpl fru fr M) : GX so S0 pl ru Q tm fpl fru fr M := by
  rcases hg with ⟨a, _⟩ | ⟨a, L, b, c, d⟩
  · exact absurd a ht
  · exact Or.inr ⟨a, L, b, c, fun x hx => h x (d x hx)⟩
theorem klt_nodup {D : List (List Nat)} (h : D.Pairwise klt) : D.Nodup := h.imp (fun {a b} q e => by rw [e] at q; exact klt_irrefl q)
/-- steps that lie ahead of a group -/
def S0ok (S0 : List StpE) (pl ru : Nat) : Prop := (∀ s ∈ S0, s.1 < 1000 ∧ s.2.1 < 1000 ∧ s.2.2.length ≤ 20) ∧ ∀ (A : List StpE) (s : StpE), S0 = A ++ [s] → ¬ (s.1 = pl ∧ s.2.1 = ru)
/-- a row that may be told as a step of a term -/
def good (so : Nat → Nat) (w x : List Nat) : Prop := great so x = false ∧ x ≠ w
theorem addsStep_GX {n : Nat} {fs fu fp fpl fru fr : Nat → Int32} {so : Nat → Nat} {un : Nat → Option Nat} {M : Int32} {a wa pl ru : Nat} {q w : List Nat} {S0 : List StpE} {P : List Nat → Prop} (hn : 100000 ≤ n) (hsg : SG fs fu so un) (hq : la fp a q) (hqo : okt so q) (ha : a + q.length + 21 ≤ 60000) (hw : la fp wa w) (hwo : okt so w) (hwa : wa + w.length ≤ 60000) (hpl : pl < 1000) (hru : ru < 1000) (hS : S0ok S0 pl ru) (hG : GX so S0 pl ru P 0 fpl fru fr M) :
    ∃ (tm' : Int32) (fpl' fru' fr' : Nat → Int32) (M' : Int32), fx_addsStep n fs fp 0 fpl fru fr M (nI pl) (nI ru) (nI a) (nI wa) = some (tm', fpl', fru', fr', M') ∧ GX so S0 pl ru (fun x => P x ∨ (x = q ∧ good so w x)) tm' fpl' fru' fr' M' := by
  rcases hG with ⟨_, D, b, c, d, e, f, g⟩ | ⟨a9, _⟩
  · subst e
    obtain ⟨tm', fpl', fru', fr', M', r1, r2⟩ := fx_addsStep_ok (tm := 0) hn hsg hq hqo ha hw hwo hwa hpl hru hS.1 hS.2 b c d f
    refine ⟨tm', fpl', fru', fr', M', r1, ?_⟩
    rcases r2 with ⟨h1, h2, h3, h4⟩ | ⟨⟨h1, h2, h3⟩, h4, h5⟩ | ⟨⟨h1, h2, h3⟩, h4, D', i1, i2, i3, i4, i5, i6, i7⟩
    · refine Or.inl ⟨h2, D, b, c, h3, h4, f, fun x => ⟨fun h => Or.inl ((g x).mp h), ?_⟩⟩
      rintro (h | ⟨e1, e2, e3⟩)
      · exact (g x).mpr h
      · subst e1
        rcases h1 with h1 | h1 | h1
        · rw [h1] at e2; exact absurd e2 (by decide)
        · exact absurd h1 e3
        · exact h1
    · refine Or.inr ⟨h5, q :: D, List.nodup_cons.mpr ⟨h3, klt_nodup c⟩, by simp only [List.length_cons]; omega, fun x hx => ?_⟩
      rcases List.mem_cons.mp hx with h | h
      · exact Or.inr ⟨h, by rw [h]; exact ⟨h1, h2⟩⟩
      · exact Or.inl ((g x).mp h)
    · refine Or.inl ⟨h4, D', i1, i2, i6, i7, i5, fun x => ?_⟩
      rw [i3 x, g x]
      constructor
      · rintro (h | h)
        · exact Or.inl h
        · exact Or.inr ⟨h, by rw [h]; exact ⟨h1, h2⟩⟩
      · rintro (h | h)
        · exact Or.inl h
        · exact Or.inr h.1
  · exact absurd a9 (by decide)
