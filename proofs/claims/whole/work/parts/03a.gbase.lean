/-! ===== the class's functions: cells of an object in one variable ===== -/
def mu (M : Nat → Nat → Int32) (a i : Nat) (v : Int32) : Nat → Nat → Int32 := fun b => cond (Nat.beq b a) (upd (M b) i v) (M b)
def mul (M : Nat → Nat → Int64) (a i : Nat) (v : Int64) : Nat → Nat → Int64 := fun b => cond (Nat.beq b a) (vp_updL (M b) i v) (M b)
def mcp (M : Nat → Nat → Int32) (a : Nat) (f : Nat → Int32) (sp dp n : Nat) : Nat → Nat → Int32 := fun b => cond (Nat.beq b a) (va_cpy f (M b) sp dp n) (M b)
def xwp {β : Type} (n : Nat) (M : Nat → Nat → Int32) (a : Nat) (i v : Int32) (k : (Nat → Nat → Int32) → Option β) : Option β := if 0 ≤ i.toInt ∧ i.toInt < (n : Int) then k (mu M a i.toNatClampNeg v) else none
theorem xwp_in {β : Type} {n a : Nat} {M : Nat → Nat → Int32} {i v : Int32} {k : (Nat → Nat → Int32) → Option β} {r : β} (h : xwp n M a i v k = some r) : 0 ≤ i.toInt ∧ i.toInt < (n : Int) := by
  unfold xwp at h; split at h
  · assumption
  · exact nomatch h
theorem xwp_to {β : Type} {n a : Nat} {M g : Nat → Nat → Int32} {i v : Int32} {k : (Nat → Nat → Int32) → Option β} {r : β} (e : g = mu M a i.toNatClampNeg v) (h : xwp n M a i v k = some r) : k g = some r := by
  have q := xwp_in h
  unfold xwp at h; rw [if_pos q] at h; rw [e]; exact h
def xwpl {β : Type} (n : Nat) (M : Nat → Nat → Int64) (a : Nat) (i : Int32) (v : Int64) (k : (Nat → Nat → Int64) → Option β) : Option β := if 0 ≤ i.toInt ∧ i.toInt < (n : Int) then k (mul M a i.toNatClampNeg v) else none
theorem xwpl_in {β : Type} {n a : Nat} {M : Nat → Nat → Int64} {i : Int32} {v : Int64} {k : (Nat → Nat → Int64) → Option β} {r : β} (h : xwpl n M a i v k = some r) : 0 ≤ i.toInt ∧ i.toInt < (n : Int) := by
  unfold xwpl at h; split at h
  · assumption
  · exact nomatch h
theorem xwpl_to {β : Type} {n a : Nat} {M g : Nat → Nat → Int64} {i : Int32} {v : Int64} {k : (Nat → Nat → Int64) → Option β} {r : β} (e : g = mul M a i.toNatClampNeg v) (h : xwpl n M a i v k = some r) : k g = some r := by
  have q := xwpl_in h
  unfold xwpl at h; rw [if_pos q] at h; rw [e]; exact h
def xcp {β : Type} (n0 n1 : Nat) (f : Nat → Int32) (M : Nat → Nat → Int32) (a : Nat) (sp dp n : Int32) (k : (Nat → Nat → Int32) → Option β) : Option β := if ¬ sp < 0 ∧ ¬ dp < 0 ∧ ¬ n < 0 ∧ sp.toNatClampNeg + n.toNatClampNeg ≤ n0 ∧ dp.toNatClampNeg + n.toNatClampNeg ≤ n1 then k (mcp M a f sp.toNatClampNeg dp.toNatClampNeg n.toNatClampNeg) else none
theorem xcp_in {β : Type} {n0 n1 a : Nat} {f : Nat → Int32} {M : Nat → Nat → Int32} {sp dp n : Int32} {k : (Nat → Nat → Int32) → Option β} {r : β} (h : xcp n0 n1 f M a sp dp n k = some r) : ¬ sp < 0 ∧ ¬ dp < 0 ∧ ¬ n < 0 ∧ sp.toNatClampNeg + n.toNatClampNeg ≤ n0 ∧ dp.toNatClampNeg + n.toNatClampNeg ≤ n1 := by
  unfold xcp at h; split at h
  · assumption
  · exact nomatch h
theorem xcp_to {β : Type} {n0 n1 a : Nat} {f : Nat → Int32} {M g : Nat → Nat → Int32} {sp dp n : Int32} {k : (Nat → Nat → Int32) → Option β} {r : β} (e : g = mcp M a f sp.toNatClampNeg dp.toNatClampNeg n.toNatClampNeg) (h : xcp n0 n1 f M a sp dp n k = some r) : k g = some r := by
  have q := xcp_in h
  unfold xcp at h; rw [if_pos q] at h; rw [e]; exact h
theorem xk_ne {k : Nat} {x : Int32} (hk : k ≤ 3) (h : nI (k + 1) = x) : ¬ x = 0 := by
  rw [← h]
  match k, hk with
  | 0, _ => decide
  | 1, _ => decide
  | 2, _ => decide
  | 3, _ => decide
