/-! asking: pure words -/
/-- the span that a run tells now -/
def z_tp (z : j_Z) (k : Nat) : Int32 := z.1 (j_pf (z.2.2.2.1 k 1))
def z_er (z : j_Z) (k : Nat) : Int32 := (z_te (z_tp z k) (z.2.2.2.1 k 2) (z.2.2.2.1 k 3) (z.2.2.2.1 k 4) + z.1 6) - z.2.2.2.1 k 5
def z_lr (z : j_Z) (k : Nat) : Int32 := (z_tl (z_tp z k) (z.2.2.2.1 k 2) (z.2.2.2.1 k 3) (z.2.2.2.1 k 4) + z.1 6) - z.2.2.2.1 k 5
section WC
variable {A B : j_Z}
theorem z_tp_c (e : z_eq A B) {k : Nat} (hk : z_lt A 1 k) : z_tp A k = z_tp B k := by
  unfold z_tp
  rw [e.2.2.2.1 k 1 hk (by decide), z_pc_c e]
theorem z_er_c (e : z_eq A B) {k : Nat} (hk : z_lt A 1 k) : z_er A k = z_er B k := by
  unfold z_er
  rw [z_tp_c e hk, e.2.2.2.1 k 2 hk (by decide), e.2.2.2.1 k 3 hk (by decide), e.2.2.2.1 k 4 hk (by decide), e.2.2.2.1 k 5 hk (by decide), e.1 6 (by decide)]
theorem z_lr_c (e : z_eq A B) {k : Nat} (hk : z_lt A 1 k) : z_lr A k = z_lr B k := by
  unfold z_lr
  rw [z_tp_c e hk, e.2.2.2.1 k 2 hk (by decide), e.2.2.2.1 k 3 hk (by decide), e.2.2.2.1 k 4 hk (by decide), e.2.2.2.1 k 5 hk (by decide), e.1 6 (by decide)]
theorem z_ltn {i k : Nat} (h0 : 0 ≤ (A.1 i).toInt) (hk : k < (A.1 i).toNatClampNeg) : z_lt A i k := by
  have := j_clamp h0
  unfold z_lt
  omega
end WC
