/-! what the model holds, told by the same numbers -/
def z_ml (h : j_H) (L k : Nat) : Nat := (j_rf h ((j_rf h L 1).getD 0) k).getD 0
def z_dn (h : j_H) (m P G R Q k : Nat) : Int32 := match k with
  | 0 => j_it h G 2
  | 1 => j_it h R 2
  | 2 => j_it h Q 2
  | 3 => j_it h P 0
  | 4 => j_it h P 1
  | 5 => j_it h m 3
  | _ => j_it h m 2
def z_dm (h : j_H) (G k i t : Nat) : Int32 := j_it h ((j_rf h (z_ml h G k) t).getD 0) i
def z_df (f : Nat) : Nat := match f with
  | 0 => 5
  | 1 => 4
  | _ => 6
def z_dg (h : j_H) (G k f : Nat) : Int32 := j_it h (z_ml h G k) (z_df f)
def z_dr (h : j_H) (R k f : Nat) : Int32 := match f with
  | 6 => if (j_it h (z_ml h R k) 6).toInt = 0 then Int32.ofInt 1 else Int32.ofInt 0
  | f => j_it h (z_ml h R k) f
def z_dp (h : j_H) (Q k f : Nat) : Int32 := j_it h (z_ml h Q k) f
def z_d (h : j_H) (m P G R Q : Nat) : j_Z := (z_dn h m P G R Q, z_dm h G, z_dg h G, z_dr h R, z_dp h Q)
section ZM
variable {ρ : Nat → Nat} {h h1 : j_H} {m P G R Q : Nat}
theorem z_ml_of {L k arr y : Nat} (e1 : j_rf h L 1 = some arr) (e2 : j_rf h arr k = some y) : z_ml h L k = y := by
  unfold z_ml
  rw [e1, Option.getD_some, e2, Option.getD_some]
theorem z_ml_get {L k y : Nat} (g : ∃ arr, j_rf h L 1 = some arr ∧ j_rf h arr k = some y) : z_ml h L k = y := by
  obtain ⟨arr, e1, e2⟩ := g
  exact z_ml_of e1 e2
theorem z_mk {L k : Nat} {kk : Nat ⊕ Nat} {M : Int} (l : j_LK h L kk M) (hk : (k : Int) < (j_it h L 2).toInt) : ∃ arr, j_rf h L 1 = some arr ∧ j_rf h arr k = some (z_ml h L k) ∧ j_kd h (z_ml h L k) = some kk := by
  obtain ⟨kL, b0, b1, arr, t, f1, f2, f3, f4, f5, f6⟩ := l
  obtain ⟨y, y1, y2⟩ := f6 k hk
  have e := z_ml_of f1 y1
  rw [e]
  exact ⟨arr, f1, y1, y2⟩
theorem z_ea {L k : Nat} {kk : Nat ⊕ Nat} {M : Int} {Pr : Nat → Nat → Prop} (l : j_LK h L kk M) (a : j_ea h L Pr) (hk : (k : Int) < (j_it h L 2).toInt) : Pr k (z_ml h L k) := by
  obtain ⟨arr, e1, e2, -⟩ := z_mk l hk
  exact a arr e1 k _ hk e2
theorem j_MX.g (w : j_MX ρ h m P G R Q) {k : Nat} (hk : (k : Int) < (j_it h G 2).toInt) : j_kd h (z_ml h G k) = some (.inl 10) ∧ ρ (z_ml h G k) = 1000 + k ∧ j_gA ρ h (z_ml h G k) := by
  obtain ⟨arr, e1, e2, e3⟩ := z_mk w.lG hk
  exact ⟨e3, z_ea w.lG w.y.1 hk, z_ea w.lG w.aG hk⟩
theorem j_MX.r (w : j_MX ρ h m P G R Q) {k : Nat} (hk : (k : Int) < (j_it h R 2).toInt) : j_kd h (z_ml h R k) = some (.inl 11) ∧ ρ (z_ml h R k) = 2000 + k ∧ j_rA h (z_ml h R k) := by
  obtain ⟨arr, e1, e2, e3⟩ := z_mk w.lR hk
  exact ⟨e3, z_ea w.lR w.y.2.1 hk, z_ea w.lR w.aR hk⟩
theorem j_MX.p (w : j_MX ρ h m P G R Q) {k : Nat} (hk : (k : Int) < (j_it h Q 2).toInt) : j_kd h (z_ml h Q k) = some (.inr 0) ∧ j_pA ρ h R k (z_ml h Q k) := by
  obtain ⟨arr, e1, e2, e3⟩ := z_mk w.lQ hk
  exact ⟨e3, z_ea w.lQ w.aQ hk⟩
/-- a grain's arrays -/
theorem j_MX.ga (w : j_MX ρ h m P G R Q) {k t : Nat} (hk : (k : Int) < (j_it h G 2).toInt) (ht : t < 4) : ∃ b, j_rf h (z_ml h G k) t = some b ∧ j_kd h b = some (.inr 0) ∧ j_ln h b = 2 ∧ ρ b = 2 ∧ ∀ i, z_dm h G k i t = j_it h b i := by
  obtain ⟨b, b1, b2, b3, b4⟩ := (w.g hk).2.2 t ht
  refine ⟨b, b1, b2, b3, b4, fun i => ?_⟩
  unfold z_dm
  rw [b1, Option.getD_some]
/-- apart -/
theorem j_MX.gi (w : j_MX ρ h m P G R Q) {k j : Nat} (hk : (k : Int) < (j_it h G 2).toInt) (hj : (j : Int) < (j_it h G 2).toInt) (e : z_ml h G k = z_ml h G j) : k = j := by
  have a := (w.g hk).2.1
  have b := (w.g hj).2.1
  rw [e] at a
  omega
theorem j_MX.ri (w : j_MX ρ h m P G R Q) {k j : Nat} (hk : (k : Int) < (j_it h R 2).toInt) (hj : (j : Int) < (j_it h R 2).toInt) (e : z_ml h R k = z_ml h R j) : k = j := by
  have a := (w.r hk).2.1
  have b := (w.r hj).2.1
  rw [e] at a
  omega
theorem j_MX.ai (w : j_MX ρ h m P G R Q) {k j t u b : Nat} (hk : (k : Int) < (j_it h G 2).toInt) (hj : (j : Int) < (j_it h G 2).toInt) (ht : t < 4) (hu : u < 4) (e1 : j_rf h (z_ml h G k) t = some b) (e2 : j_rf h (z_ml h G j) u = some b) : k = j ∧ t = u := by
  obtain ⟨-, -, ν, y3⟩ := w.y
  have a := z_ea w.lG y3 hk t b ht e1
  have c := z_ea w.lG y3 hj u b hu e2
  omega
/-- what its asking calls leave -/
theorem z_ml_f {L k : Nat} {kk : Nat ⊕ Nat} {M : Int} (f : j_Mf ρ m h h1) (l : j_LK h L kk M) (hk : (k : Int) < (j_it h L 2).toInt) : z_ml h1 L k = z_ml h L k := by
  obtain ⟨-, ⟨i2, r1⟩, r2⟩ := f.lk l
  obtain ⟨arr, e1, e2, -⟩ := z_mk l hk
  exact z_ml_of (r1.trans e1) (((r2 arr e1).2 k).trans e2)
theorem z_dn_f (w : j_MX ρ h m P G R Q) (f : j_Mf ρ m h h1) : ∀ k, k < 7 → z_dn h1 m P G R Q k = z_dn h m P G R Q k := fun k hk => by
  match k, hk with
  | 0, _ => exact f.sz w.lG.1
  | 1, _ => exact f.sz w.lR.1
  | 2, _ => exact f.sz w.lQ.1
  | 3, _ => exact f.2.2.2.2.2.1 P w.kP w.rP 0
  | 4, _ => exact f.2.2.2.2.2.1 P w.kP w.rP 1
  | 5, _ => exact f.2.1.2 3 (Or.inr rfl)
  | 6, _ => exact f.2.1.2 2 (Or.inl rfl)
  | n + 7, hk => omega
theorem z_mfd (w : j_MX ρ h m P G R Q) (f : j_Mf ρ m h h1) : z_eq (z_d h1 m P G R Q) (z_d h m P G R Q) := by
  have nn := z_dn_f w f
  have up : ∀ i k, i < 7 → z_lt (z_d h1 m P G R Q) i k → z_lt (z_d h m P G R Q) i k := fun i k hi hk => by
    have hk : (k : Int) < (z_dn h1 m P G R Q i).toInt := hk
    rw [nn i hi] at hk
    exact hk
  refine ⟨nn, fun k i t hk hi ht => ?_, fun k g hk hg => ?_, fun k g hk hg => ?_, fun k g hk hg => ?_⟩
  · have hk : (k : Int) < (j_it h G 2).toInt := up 0 k (by decide) hk
    obtain ⟨b, b1, b2, b3, b4, b5⟩ := w.ga hk ht
    show z_dm h1 G k i t = z_dm h G k i t
    rw [b5]
    unfold z_dm
    rw [z_ml_f f w.lG hk, f.2.2.1 _ (w.g hk).1 t ht, b1, Option.getD_some]
    exact f.a0 b2 (by omega) i
  · have hk : (k : Int) < (j_it h G 2).toInt := up 0 k (by decide) hk
    show z_dg h1 G k g = z_dg h G k g
    unfold z_dg
    rw [z_ml_f f w.lG hk]
    exact (f.ob (w.g hk).1 (Or.inl rfl) (by rw [(w.g hk).2.1]; omega) _).1
  · have hk : (k : Int) < (j_it h R 2).toInt := up 1 k (by decide) hk
    have ee := z_ml_f f w.lR hk
    have ob := fun j => (f.ob (w.r hk).1 (Or.inr rfl) (by rw [(w.r hk).2.1]; omega) j).1
    show z_dr h1 R k g = z_dr h R k g
    match g, hg with
    | 0, _ => show j_it h1 (z_ml h1 R k) 0 = _; rw [ee]; exact ob 0
    | 1, _ => show j_it h1 (z_ml h1 R k) 1 = _; rw [ee]; exact ob 1
    | 2, _ => show j_it h1 (z_ml h1 R k) 2 = _; rw [ee]; exact ob 2
    | 3, _ => show j_it h1 (z_ml h1 R k) 3 = _; rw [ee]; exact ob 3
    | 4, _ => show j_it h1 (z_ml h1 R k) 4 = _; rw [ee]; exact ob 4
    | 5, _ => show j_it h1 (z_ml h1 R k) 5 = _; rw [ee]; exact ob 5
    | 6, _ =>
      show (if (j_it h1 (z_ml h1 R k) 6).toInt = 0 then Int32.ofInt 1 else Int32.ofInt 0) = (if (j_it h (z_ml h R k) 6).toInt = 0 then Int32.ofInt 1 else Int32.ofInt 0)
      rw [ee, ob 6]
    | n + 7, hg => omega
  · have hk : (k : Int) < (j_it h Q 2).toInt := up 2 k (by decide) hk
    show z_dp h1 Q k g = z_dp h Q k g
    unfold z_dp
    rw [z_ml_f f w.lQ hk]
    exact f.a0 (w.p hk).1 (by rw [(w.p hk).2.1]; decide) _
end ZM
