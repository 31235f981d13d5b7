/-! the model's digest: word for word -/
/-- the sum is a; thrown and what was there before are as they were -/
def z_dz (ρ : Nat → Nat) (m : Nat) (h H : j_H) (a : Int64) : Prop := j_Mf ρ m h H ∧ j_it H m 0 = j_it h m 0 ∧ (∀ q j, j_kd h q = some (.inr 0) → j_it H q j = j_it h q j) ∧ j_lg H m 7 = a
section DR
variable {ρ : Nat → Nat} {m P G R Q s : Nat} {h H H' : j_H} {a v : Int64} {r : Int32} {Z : j_Z}
theorem z_dz.st (d : z_dz ρ m h H a) (f : j_Mf ρ m H H') (t : z_th m H H') (k : ∀ q j, j_kd H q = some (.inr 0) → j_it H' q j = j_it H q j) : z_dz ρ m h H' a :=
  ⟨d.1.tr f, t.1.trans d.2.1, fun q j kq => (k q j (d.1.kd kq)).trans (d.2.2.1 q j kq), t.2.trans d.2.2.2⟩
theorem z_dz.add (d : z_dz ρ m h H a) (km : j_kd H m = some (.inl 12)) (e : H' = j_up H m 7 (j_l (j_lg H m 7 * Int64.ofNat 31 + v))) (hv : v = r.toInt64) : z_dz ρ m h H' (z_a a r) := by
  subst e
  refine ⟨d.1.tr (j_Mf.fl km), d.2.1, fun q j kq => d.2.2.1 q j kq, ?_⟩
  show j_u (j_lg H) m 7 _ m 7 = _
  rw [j_u_at, d.2.2.2, hv]
  rfl
theorem z_dz.get (w : j_MX ρ h m P G R Q) (E : z_eq (z_d h m P G R Q) Z) (ks : j_kd h s = some (.inr 0)) (ns : (j_ln h s : Int) = 2 * (j_it h R 2).toInt) (hs : ∀ k : Nat, (k : Int) < (j_it h R 2).toInt → j_it h s (2 * k) = z_er Z k ∧ j_it h s (2 * k + 1) = z_lr Z k) (d : z_dz ρ m h H a) : j_MX ρ H m P G R Q ∧ j_kd H s = some (.inr 0) ∧ (j_ln H s : Int) = 2 * (j_it H R 2).toInt ∧ z_eq (z_d H m P G R Q) Z ∧ (∀ k : Nat, (k : Int) < (j_it H R 2).toInt → j_it H s (2 * k) = z_er Z k ∧ j_it H s (2 * k + 1) = z_lr Z k) ∧ (j_it H G 2).toInt = (j_it h G 2).toInt ∧ (j_it H R 2).toInt = (j_it h R 2).toInt ∧ (j_it H Q 2).toInt = (j_it h Q 2).toInt := by
  have f := d.1
  have zR := congrArg Int32.toInt (f.sz w.lR.1)
  refine ⟨w.f f, f.kd ks, ?_, (z_mfd w f).tr E, ?_, congrArg Int32.toInt (f.sz w.lG.1), zR, congrArg Int32.toInt (f.sz w.lQ.1)⟩
  · rw [f.ln ks]
    omega
  · intro k hk
    rw [d.2.2.1 s _ ks, d.2.2.1 s _ ks]
    exact hs k (by omega)
end DR
