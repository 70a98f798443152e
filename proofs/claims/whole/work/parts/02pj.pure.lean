/-! ===== parts of a free or c operator ===== -/
theorem fx_aims_ok {n i : Nat} {fgp fgt : Nat → Int32} {a b : Int32} (h : i < 512) : fx_aims n fgp fgt (nI i) a b = some (upd fgp i a, upd fgt i b) := by
  unfold fx_aims
  rw [xw_n h (by decide), xw_n h (by decide)]
theorem PO_gp {n0 T W : Nat} {fp fgp fgt fgp1 fgt1 fb fw : Nat → Int32} {E : List Nat → Prop} {o : MRes} (h : ∀ i : Nat, i < n0 → fgp1 i = fgp i ∧ fgt1 i = fgt i) (hp : PO n0 fp T fgp1 fgt1 fb fw W E o) : PO n0 fp T fgp fgt fb fw W E o := by
  obtain ⟨a1, a2, a3, a4, a5, a6, a7, a8, b1, b2, b3, b4, b5, b6⟩ := hp
  exact ⟨a1, a2, a3, a4, a5, a6, a7, a8, b1, b2, fun i hi => ⟨(b3 i hi).1.trans (h i hi).1, (b3 i hi).2.trans (h i hi).2⟩, b4, b5, b6⟩
theorem PO_less {n0 n1 T W : Nat} {fp fgp fgt fb fw : Nat → Int32} {E : List Nat → Prop} {o : MRes} (h : n0 ≤ n1) (hp : PO n1 fp T fgp fgt fb fw W E o) : PO n0 fp T fgp fgt fb fw W E o := by
  obtain ⟨a1, a2, a3, a4, a5, a6, a7, a8, b1, b2, b3, b4, b5, b6⟩ := hp
  exact ⟨a1, a2, a3, a4, a5, a6, a7, a8, b1, b2, fun i hi => b3 i (by omega), b4, b5, b6⟩
def psh : List (List Nat) → List (List Nat) → Nat → Nat → List Goal → List Goal
  | p :: ps, t :: ts, xa, ya, Q => psh ps ts (xa + p.length) (ya + t.length) ((xa, p, ya, t) :: Q)
  | _, _, _, _, Q => Q
def all2 (P : List Nat → List Nat → Prop) : List (List Nat) → List (List Nat) → Prop
  | p :: ps, t :: ts => P p t ∧ all2 P ps ts
  | _, _ => True
theorem psh_all {P : List Nat → List Nat → Prop} : ∀ {ps ts : List (List Nat)} {xa ya : Nat} {Q : List Goal}, (∀ g ∈ psh ps ts xa ya Q, P g.2.1 g.2.2.2) ↔ (∀ g ∈ Q, P g.2.1 g.2.2.2) ∧ all2 P ps ts
  | [], _, _, _, _ => ⟨fun h => ⟨h, trivial⟩, fun h => h.1⟩
  | _ :: _, [], _, _, _ => ⟨fun h => ⟨h, trivial⟩, fun h => h.1⟩
  | p :: ps, t :: ts, xa, ya, Q => by
    show (∀ g ∈ psh ps ts (xa + p.length) (ya + t.length) ((xa, p, ya, t) :: Q), P g.2.1 g.2.2.2) ↔ (∀ g ∈ Q, P g.2.1 g.2.2.2) ∧ P p t ∧ all2 P ps ts
    rw [psh_all, List.forall_mem_cons]
    constructor
    · rintro ⟨⟨a, b⟩, c⟩; exact ⟨b, a, c⟩
    · rintro ⟨b, a, c⟩; exact ⟨⟨a, b⟩, c⟩
theorem psh_old {g : Goal} : ∀ {ps ts : List (List Nat)} {xa ya : Nat} {Q : List Goal}, g ∈ Q → g ∈ psh ps ts xa ya Q
  | [], _, _, _, _, h => h
  | _ :: _, [], _, _, _, h => h
  | p :: ps, t :: ts, xa, ya, Q, h => psh_old (ps := ps) (ts := ts) (List.mem_cons_of_mem _ h)
theorem psh_new {q : List Nat} : ∀ {ps ts : List (List Nat)} {xa ya : Nat} {Q : List Goal}, ps.length = ts.length → q ∈ ps → ∃ g ∈ psh ps ts xa ya Q, g.2.1 = q
  | [], _, _, _, _, _, h => absurd h List.not_mem_nil
  | _ :: _, [], _, _, _, h, _ => by simp at h
  | p :: ps, t :: ts, xa, ya, Q, hl, h => by
    show ∃ g ∈ psh ps ts (xa + p.length) (ya + t.length) ((xa, p, ya, t) :: Q), g.2.1 = q
    rcases List.mem_cons.mp h with e | e
    · exact ⟨(xa, p, ya, t), psh_old (List.mem_cons_self ..), e.symm⟩
    · exact psh_new (by simpa using hl) e
theorem psh_plen : ∀ {ps ts : List (List Nat)} {xa ya : Nat} {Q : List Goal}, ps.length = ts.length → plen (psh ps ts xa ya Q) = plen Q + ps.flatten.length
  | [], _, _, _, _, _ => by simp [psh]
  | _ :: _, [], _, _, _, h => by simp at h
  | p :: ps, t :: ts, xa, ya, Q, hl => by
    show plen (psh ps ts (xa + p.length) (ya + t.length) ((xa, p, ya, t) :: Q)) = _
    rw [psh_plen (by simpa using hl)]
    show p.length + plen Q + ps.flatten.length = plen Q + (p ++ ps.flatten).length
    rw [List.length_append]; omega
theorem lx_byParts_33_ok {slf : SLF} {n : Nat} {fs fu : Nat → Int32} {so : Nat → Nat} {un : Nat → Option Nat} {pv : Int32} {d : Nat} (hslf : SOK slf n fs fu so un pv d) (hn : 100000 ≤ n) {fp fb fw ff : Nat → Int32} {T W n0 : Nat} {fm tm p1 p2 : Int32} {be : Nat → Option (List Nat)} {E : List Nat → Prop} (hbn : bnd so un fp fb T be) (hT : T + 500 * d ≤ 59000) (hW : W + 70 * d ≤ 4000) (he : EXS E fm ff tm) :
    ∀ (ps ts : List (List Nat)) (xa ya k m : Nat) (Q : List Goal) (fgp fgt : Nat → Int32), la fp xa ps.flatten → la fp ya ts.flatten → (∀ p ∈ ps, nok so un p ∧ c2 so p ∧ p.length ≤ 20) → (∀ t ∈ ts, nok so un t ∧ t.length ≤ 20) → ps.length = ts.length → xa + ps.flatten.length ≤ T → ya + ts.flatten.length ≤ T →
      (∀ g ∈ Q, gok so un fp T g) → la fgp 0 (Q.map (fun g => g.1)).reverse → la fgt 0 (Q.map (fun g => g.2.2.1)).reverse → n0 + k = Q.length + ps.length → n0 ≤ Q.length → plen Q + ps.flatten.length < d → plen Q + ps.flatten.length ≤ 20 → cov pv be (psh ps ts xa ya Q) → ps.length < m →
      PO n0 fp T fgp fgt fb fw W (fun k => E k ∨ Sol so un pv (psh ps ts xa ya Q) be k) (lx_byParts_33 slf n fs fu pv (nI n0) p1 p2 m (nI k) (nI xa) (nI ya) (nI (Q.length - n0)) fp (nI T) fgp fgt fb fw (nI W) fm ff tm)
  | [], [], xa, ya, k, m + 1, Q, fgp, fgt, _, _, _, _, _, _, _, hQ, hgp, hgt, hk, hn0, hp, hp2, hcv, _ => by
    simp only [List.flatten_nil, List.length_nil, Nat.add_zero] at hk hp hp2
    have hlen := plen_len hQ
    have eL : lx_byParts_33 slf n fs fu pv (nI n0) p1 p2 (m + 1) (nI k) (nI xa) (nI ya) (nI (Q.length - n0)) fp (nI T) fgp fgt fb fw (nI W) fm ff tm = bx_byParts_33 slf n fs fu pv (nI n0) p1 p2 (lx_byParts_33 slf n fs fu pv (nI n0) p1 p2 m) (nI k) (nI xa) (nI ya) (nI (Q.length - n0)) fp (nI T) fgp fgt fb fw (nI W) fm ff tm := rfl
    rw [eL]
    unfold bx_byParts_33
    rw [if_pos (by rw [nI_le_iff (by omega) (by omega)]; omega), xl_eq, nI_add, hk]
    obtain ⟨fp', fgp', fgt', fb', fw', fm', ff', tm', r1, r2, r3, r4, r5, r6⟩ := hslf fp fgp fgt fb fw T W fm ff tm Q be E hQ hgp hgt hbn hp hp2 hT hW hcv he
    rw [r1, xb10_s]
    exact ⟨fp', fgp', fgt', fb', fw', fm', ff', tm', rfl, r2, fun i hi => r3 i (by omega), r4, r5, r6⟩
  | [], _ :: _, _, _, _, _, _, _, _, _, _, _, _, h, _, _, _, _, _, _, _, _, _, _, _ => by simp at h
  | _ :: _, [], _, _, _, _, _, _, _, _, _, _, _, h, _, _, _, _, _, _, _, _, _, _, _ => by simp at h
  | p :: ps, t :: ts, xa, ya, k, m + 1, Q, fgp, fgt, hlp, hlt, hps, hts, hl, hx, hy, hQ, hgp, hgt, hk, hn0, hp, hp2, hcv, hm => by
    rw [List.flatten_cons] at hlp hlt hx hy hp hp2
    rw [List.length_append] at hx hy hp hp2
    simp only [List.length_cons] at hk hm hl
    have h1 := la_app.mp hlp
    have h2 := la_app.mp hlt
    have hp1 := hps p (List.mem_cons_self ..)
    have ht1 := hts t (List.mem_cons_self ..)
    have hlen := plen_len hQ
    have hg : gok so un fp T (xa, p, ya, t) := ⟨⟨h1.1, hp1.1, hp1.2.1, hp1.2.2, by show xa + p.length ≤ T; omega⟩, h2.1, ht1.1, ht1.2, by show ya + t.length ≤ T; omega⟩
    have hlr : (Q.map (fun g => g.1)).reverse.length = Q.length := by simp
    have hlr2 : (Q.map (fun g => g.2.2.1)).reverse.length = Q.length := by simp
    have ih := lx_byParts_33_ok (fw := fw) (n0 := n0) (p1 := p1) (p2 := p2) hslf hn hbn hT hW he ps ts (xa + p.length) (ya + t.length) k m ((xa, p, ya, t) :: Q) (upd fgp Q.length (nI xa)) (upd fgt Q.length (nI ya)) h1.2 h2.2 (fun z hz => hps z (List.mem_cons_of_mem _ hz)) (fun z hz => hts z (List.mem_cons_of_mem _ hz)) (by omega) (by omega) (by omega)
      (fun g hg' => by
        rcases List.mem_cons.mp hg' with e | e
        · rw [e]; exact hg
        · exact hQ g e)
      (by rw [List.map_cons, List.reverse_cons]; exact la_snoc (la_upd (Or.inr (by rw [hlr]; omega)) hgp) (by rw [hlr, Nat.zero_add]; exact upd_eq _ _ _))
      (by rw [List.map_cons, List.reverse_cons]; exact la_snoc (la_upd (Or.inr (by rw [hlr2]; omega)) hgt) (by rw [hlr2, Nat.zero_add]; exact upd_eq _ _ _))
      (by rw [List.length_cons]; omega) (by rw [List.length_cons]; omega) (by show p.length + plen Q + _ < d; omega) (by show p.length + plen Q + _ ≤ 20; omega) hcv (by omega)
    have eL : lx_byParts_33 slf n fs fu pv (nI n0) p1 p2 (m + 1) (nI k) (nI xa) (nI ya) (nI (Q.length - n0)) fp (nI T) fgp fgt fb fw (nI W) fm ff tm = bx_byParts_33 slf n fs fu pv (nI n0) p1 p2 (lx_byParts_33 slf n fs fu pv (nI n0) p1 p2 m) (nI k) (nI xa) (nI ya) (nI (Q.length - n0)) fp (nI T) fgp fgt fb fw (nI W) fm ff tm := rfl
    rw [eL]
    unfold bx_byParts_33
    have hpp := wf_pos hp1.1.1.1
    have hpf : ps.length ≤ ps.flatten.length := wf_len (wf_flat (fun z hz => (hps z (List.mem_cons_of_mem _ hz)).1.1.1))
    rw [if_neg (by rw [nI_le_iff (by omega) (by omega)]; omega), xl_eq, nI_add, show n0 + (Q.length - n0) = Q.length by omega, fx_aims_ok (by omega), xb2_s, fx_behind_ok h1.1 hp1.1.1.1 hp1.1.1.2.1 (by omega) hn, xb1_s, fx_behind_ok h2.1 ht1.1.1.1 ht1.1.1.2.1 (by omega) hn, xb1_s, xl_eq, nI_1]
    rw [List.length_cons, show Q.length + 1 - n0 = Q.length - n0 + 1 by omega] at ih
    exact PO_gp (fun i hi => ⟨upd_ne (by omega), upd_ne (by omega)⟩) ih
theorem all2_iff {so : Nat → Nat} {un : Nat → Option Nat} {sg : Nat → List Nat} : ∀ {ps ts : List (List Nat)}, ps.length = ts.length → (all2 (fun p t => von so un sg p ∧ fil so un sg p = t) ps ts ↔ (∀ p ∈ ps, von so un sg p) ∧ ts = ps.map (fil so un sg))
  | [], [], _ => by simp [all2]
  | [], _ :: _, h => by simp at h
  | _ :: _, [], h => by simp at h
  | p :: ps, t :: ts, h => by
    show (von so un sg p ∧ fil so un sg p = t) ∧ all2 _ ps ts ↔ _
    rw [all2_iff (by simpa using h), List.forall_mem_cons, List.map_cons, List.cons.injEq]
    constructor
    · rintro ⟨⟨a, b⟩, c, e⟩; exact ⟨⟨a, c⟩, b.symm, e⟩
    · rintro ⟨⟨a, c⟩, b, e⟩; exact ⟨⟨a, b.symm⟩, c, e⟩
theorem von_pts {so : Nat → Nat} {un : Nat → Option Nat} {sg : Nat → List Nat} {c : Nat} {l : List Nat} (h : wf 1 (c :: l)) (hc : ¬ c < 512) : von so un sg (c :: l) ↔ ∀ p ∈ pts (c :: l), von so un sg p := by
  constructor
  · exact fun hv p hp e he => hv e (mem_pts h hp he)
  · intro hv e he h5
    rcases List.mem_cons.mp he with g | g
    · exact absurd (by rw [← g]; exact h5) hc
    · rw [← (pts_of h).2.2] at g
      obtain ⟨p, hp, hep⟩ := List.mem_flatten.mp g
      exact hv p hp e hep h5
theorem c2_pts {so : Nat → Nat} {c : Nat} {l : List Nat} (h : wf 1 (c :: l)) (h2 : c2 so (c :: l)) : ∀ p ∈ pts (c :: l), c2 so p := fun p hp e he => h2 e (mem_pts h hp he)
/-- a free operator -/
theorem sol_free {so : Nat → Nat} {un : Nat → Option Nat} {pv : Int32} {G : List Goal} {be : Nat → Option (List Nat)} {pa ta xa ya c : Nat} {l t k : List Nat} (hsu : SU so un) (h : nok so un (c :: l)) (hl : (c :: l).length ≤ 20) (hc : ¬ c < 512) (h0 : so (c / 512 - 1) = 0) (ht : nok so un t) (hh : hd0 t = c) : Sol so un pv (psh (pts (c :: l)) (pts t) xa ya G) be k ↔ Sol so un pv ((pa, c :: l, ta, t) :: G) be k := by
  have hlen : (pts (c :: l)).length = (pts t).length := by
    cases t with
    | nil => exact absurd (wf_pos ht.1.1) (by simp)
    | cons e m =>
      have ee : e = c := hh
      rw [(pts_of h.1.1).2.1, (pts_of ht.1.1).2.1, ee]
  unfold Sol
  refine exists_congr (fun sg => and_congr Iff.rfl (and_congr ?_ Iff.rfl))
  rw [psh_all (P := fun p t => von so un sg p ∧ fil so un sg p = t), List.forall_mem_cons, all2_iff hlen, ← von_pts h.1.1 hc]
  constructor
  · rintro ⟨a, b, e⟩
    exact ⟨⟨b, (eq_free hsu h.1 hl b hc h0 ht.1).mpr ⟨hh, e⟩⟩, a⟩
  · rintro ⟨⟨b, e⟩, a⟩
    exact ⟨a, b, ((eq_free hsu h.1 hl b hc h0 ht.1).mp e).2⟩
