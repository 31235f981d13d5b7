/-! the model: ints alone are written -/
def z_wS (ρ : Nat → Nat) (h : j_H) (m q f : Nat) : Prop := q = m ∨ j_kd h q = some (.inl 10) ∨ (j_kd h q = some (.inr 0) ∧ ρ q = 2) ∨ (j_kd h q = some (.inl 11) ∧ f ≠ 1)
theorem j_MX.wi {ρ : Nat → Nat} {h : j_H} {m P G R Q : Nat} {it : Nat → Nat → Int32} (w : j_MX ρ h m P G R Q) (s : ∀ q f, j_kd h q ≠ none → ¬ z_wS ρ h m q f → it q f = j_it h q f) : j_MX ρ (j_wi h it) m P G R Q ∧ j_Mg m G R Q h (j_wi h it) := by
  have n3 : ∀ {q}, j_kd h q = some (.inl 3) → ∀ f, it q f = j_it h q f := fun {q} hq f => s q f (j_nn hq) (by
    rintro (z | z | ⟨z, -⟩ | ⟨z, -⟩)
    · rw [z, w.km] at hq; cases hq
    · rw [hq] at z; cases z
    · rw [hq] at z; cases z
    · rw [hq] at z; cases z)
  have n0 : ∀ {q}, j_kd h q = some (.inr 0) → ρ q ≠ 2 → ∀ f, it q f = j_it h q f := fun {q} hq hr f => s q f (j_nn hq) (by
    rintro (z | z | ⟨-, z⟩ | ⟨z, -⟩)
    · rw [z, w.km] at hq; cases hq
    · rw [hq] at z; cases z
    · exact hr z
    · rw [hq] at z; cases z)
  have n1 : ∀ {q}, j_kd h q = some (.inl 11) → it q 1 = j_it h q 1 := fun {q} hq => s q 1 (j_nn hq) (by
    rintro (z | z | ⟨z, -⟩ | ⟨-, z⟩)
    · rw [z, w.km] at hq; cases hq
    · rw [hq] at z; cases z
    · rw [hq] at z; cases z
    · exact z rfl)
  have lk : ∀ L kk M, j_LK h L kk M → j_LK (j_wi h it) L kk M := fun L kk M l => by
    obtain ⟨kL, b0, b1, arr, t, f1, f2, f3, f4, f5, f6⟩ := l
    have i2 : j_it (j_wi h it) L 2 = j_it h L 2 := n3 kL 2
    exact ⟨kL, by rw [i2]; exact b0, by rw [i2]; exact b1, arr, t, f1, f2, f3, by rw [i2]; exact f4, f5, fun j hj => f6 j (by rw [i2] at hj; exact hj)⟩
  have el : ∀ {L kk M}, j_LK h L kk M → ∀ arr, j_rf h L 1 = some arr → ∀ j e : Nat, (j : Int) < (j_it h L 2).toInt → j_rf h arr j = some e → j_kd h e = some kk := fun {L kk M} l a ha j e hj he => by
    obtain ⟨kL, b0, b1, arr, t, f1, f2, f3, f4, f5, f6⟩ := l
    obtain rfl : arr = a := Option.some.inj (f1.symm.trans ha)
    obtain ⟨y, y1, y2⟩ := f6 j hj
    obtain rfl : y = e := Option.some.inj (y1.symm.trans he)
    exact y2
  have iG : j_it (j_wi h it) G 2 = j_it h G 2 := n3 w.lG.1 2
  have iR : j_it (j_wi h it) R 2 = j_it h R 2 := n3 w.lR.1 2
  have iQ : j_it (j_wi h it) Q 2 = j_it h Q 2 := n3 w.lQ.1 2
  have hP : ∀ f, it P f = j_it h P f := n0 w.kP (by rw [w.rP]; decide)
  refine ⟨⟨w.km, ⟨w.eP, w.kP, w.nP, w.rP, fun k hk => by rw [show j_it (j_wi h it) P k = j_it h P k from hP k]; exact w.zP k hk⟩, ⟨w.eG, lk _ _ _ w.lG⟩, ⟨w.eR, lk _ _ _ w.lR⟩, ⟨w.eQ, lk _ _ _ w.lQ⟩, w.ap, ?_, ?_, ?_, w.rz, fun arr a1 j e hj a2 => w.y.1 arr a1 j e (by rw [iG] at hj; exact hj) a2, fun arr a1 j e hj a2 => w.y.2.1 arr a1 j e (by rw [iR] at hj; exact hj) a2, ?_⟩, ?_, fun q hq _ => hq, fun q c z _ _ => z⟩
  · intro arr a1 j e hj a2
    rw [iG] at hj
    exact w.aG arr a1 j e hj a2
  · intro arr a1 j e hj a2
    rw [iR] at hj
    have ke := el w.lR arr a1 j e hj a2
    unfold j_rA
    rw [show j_it (j_wi h it) e 1 = j_it h e 1 from n1 ke]
    exact w.aR arr a1 j e hj a2
  · intro arr a1 j e hj a2
    rw [iQ] at hj
    have ke := el w.lQ arr a1 j e hj a2
    have g : j_pA ρ h R j e := w.aQ arr a1 j e hj a2
    obtain ⟨g1, g2, g3, g4, g5⟩ := g
    have n : ∀ f, j_it (j_wi h it) e f = j_it h e f := fun f => n0 ke (by rw [g1]; decide) f
    exact ⟨g1, g2, by rw [n 0]; exact g3, by rw [n 0, iR]; exact g4, by rw [n 2]; exact g5⟩
  · obtain ⟨-, -, ν, y3⟩ := w.y
    exact ⟨ν, fun arr a1 j e hj a2 => y3 arr a1 j e (by rw [iG] at hj; exact hj) a2⟩
  · refine ⟨rfl, fun q hq => ⟨rfl, rfl, fun hn k => ⟨s q k hq (fun z => hn (Or.inl ?_)), rfl, rfl⟩⟩⟩
    rcases z with z | z | ⟨z, -⟩ | ⟨z, -⟩
    · exact Or.inl ⟨12, by rw [z]; exact w.km, Or.inr ⟨by decide, by decide⟩⟩
    · exact Or.inl ⟨10, z, Or.inr ⟨by decide, by decide⟩⟩
    · exact Or.inr z
    · exact Or.inl ⟨11, z, Or.inr ⟨by decide, by decide⟩⟩
set_option maxRecDepth 20000 in
theorem c_Mo_takesx {h : j_H} {it : Nat → Nat → Int32} {y z : Nat} {a b : Int32} (ky : j_kd h y = some (.inr 0)) (vy : vp_in a (j_ln h y)) (kz : j_kd h z = some (.inr 0)) (vz : vp_in a (j_ln h z)) (n : y ≠ z) : j_Ct 221 0 0 0 0 [j_r (some y), j_r (some z), j_i a, j_i b] (j_wi h it) (fun v h' => v = some (j_i (z_take (it y a.toNatClampNeg) b)) ∧ h' = j_wi h (j_u (j_u it y a.toNatClampNeg (it y a.toNatClampNeg - z_take (it y a.toNatClampNeg) b)) z a.toNatClampNeg (it z a.toNatClampNeg + z_take (it y a.toNatClampNeg) b))) j_no := by
  refine j_intro km_221 (Nat.le_of_ble_eq_true rfl) ?_
  intro J hJ hF
  refine hJ [] 400 _ _ _ _ _ _ ?_
  conv => whnf
  refine ⟨_, _, rfl, ky, rfl, vy, fun x1 ex1 => ?_⟩
  obtain rfl : x1 = it y a.toNatClampNeg := ex1.symm
  conv => whnf
  refine ⟨by decide, ?_⟩
  conv => whnf
  refine ⟨_, _, rfl, ky, rfl, vy, fun x2 ex2 => ?_⟩
  obtain rfl : x2 = it y a.toNatClampNeg := ex2.symm
  conv => whnf
  refine ⟨_, rfl, ky, vy, ?_⟩
  conv => whnf
  refine ⟨_, _, rfl, kz, rfl, vz, fun x5 ex5 => ?_⟩
  obtain rfl : x5 = it z a.toNatClampNeg := ex5.symm.trans (show j_u it y a.toNatClampNeg (it y a.toNatClampNeg - z_take (it y a.toNatClampNeg) b) z a.toNatClampNeg = it z a.toNatClampNeg from j_u_ne (fun q => n q.symm))
  conv => whnf
  refine ⟨_, rfl, kz, vz, ?_⟩
  conv => whnf
  exact ⟨trivial, ⟨Nat.le_of_ble_eq_true rfl, Nat.le_of_ble_eq_true rfl⟩, rfl, rfl⟩
