/-! a new model, a new object once more (with its slip), out -/
theorem j_uia {h : j_H} {b i : Nat} {x : Int32} : j_it (j_ui h b i x) b i = x := by
  show j_u _ b i x b i = x
  exact j_u_at
theorem j_uin {h : j_H} {b i j : Nat} {x : Int32} (n : j ≠ i) : j_it (j_ui h b i x) b j = j_it h b j := by
  show j_u _ b i x b j = _
  exact j_u_nk n
theorem j_mkm {h : j_H} {x y k : Nat} (kx : j_kd h x ≠ none) (hy : j_kd h y = none) {h' : j_H} (e : h' = j_up (j_up (j_up (j_nw h y (.inl 3) 0) y 0 (j_i (Int32.ofInt 0))) y 1 (j_r (j_st h 0))) x k (j_r (some y))) :
    j_On (fun q => q = x) h h' ∧ j_kd h' y = some (.inl 3) ∧ (∀ q, q ≠ y → j_kd h' q = j_kd h q) ∧ j_rf h' y 1 = j_st h 0 ∧ (j_it h' y 2).toInt = 0 ∧ j_rf h' x k = some y ∧ ((∀ j, j ≠ k → j_rf h' x j = j_rf h x j) ∧ ∀ j, j_it h' x j = j_it h x j) ∧ x ≠ y := by
  have nx : x ≠ y := fun z => by rw [z] at kx; exact kx hy
  subst e
  refine ⟨?_, if_pos rfl, fun q hq => if_neg hq, ?_, ?_, j_upr, ⟨fun j hj => ?_, fun j => ?_⟩, nx⟩
  · exact ((((j_On.nw (S := fun q => q = x ∨ q = y) hy).trans (j_On.up (Or.inr rfl))).trans (j_On.up (Or.inr rfl))).trans (j_On.up (Or.inl rfl))).mono (fun q hq z => by
      rcases z with z | z
      · exact z
      · rw [z] at hq; exact absurd hy hq)
  · refine ((j_up_ne _ _ (fun z => nx z.symm) 1).2.2).trans ?_
    exact j_upr
  · have e2 : j_it (j_up (j_up (j_up (j_nw h y (.inl 3) 0) y 0 (j_i (Int32.ofInt 0))) y 1 (j_r (j_st h 0))) x k (j_r (some y))) y 2 = 0 := by
      refine ((j_up_ne _ _ (fun z => nx z.symm) 2).1).trans ?_
      refine (j_upm (by decide)).trans ((j_upm (by decide)).trans ?_)
      exact if_pos rfl
    rw [e2]
    rfl
  · refine (j_upn hj).trans ?_
    refine ((j_up_ne _ _ nx j).2.2).trans (((j_up_ne _ _ nx j).2.2).trans ?_)
    exact if_neg nx
  · show j_it (j_up (j_up (j_nw h y (.inl 3) 0) y 0 (j_i (Int32.ofInt 0))) y 1 (j_r (j_st h 0))) x j = _
    refine ((j_up_ne _ _ nx j).1).trans (((j_up_ne _ _ nx j).1).trans ?_)
    exact if_neg nx
/-- the numbers at the start -/
def j_s0 (k : Nat) : Int32 := match k with
  | 3 => (Int8.ofInt 20).toInt32
  | 4 => (Int8.ofInt 50).toInt32
  | 5 => Int32.ofInt 2
  | _ => Int32.ofInt 0
/-- the state at the start -/
def z_s0 : j_Z := (j_s0, fun _ _ _ => 0, fun _ _ => 0, fun _ _ => 0, fun _ _ => 0)
theorem z_start {A : j_Z} (h : ∀ k, k < 7 → A.1 k = j_s0 k) : z_eq A z_s0 := by
  have no : ∀ i k, i < 3 → ¬ z_lt A i k := fun i k hi hk => by
    unfold z_lt at hk
    rw [h i (by omega)] at hk
    match i, hi with
    | 0, _ => have : ((j_s0 0).toInt) = 0 := by decide
              omega
    | 1, _ => have : ((j_s0 1).toInt) = 0 := by decide
              omega
    | 2, _ => have : ((j_s0 2).toInt) = 0 := by decide
              omega
    | n + 3, hi => omega
  exact ⟨h, fun k i t hk => absurd hk (no 0 k (by decide)), fun k f hk => absurd hk (no 0 k (by decide)), fun k f hk => absurd hk (no 1 k (by decide)), fun k f hk => absurd hk (no 2 k (by decide))⟩
theorem z_new {h : j_H} {x : Nat} (s : ∀ i, i < 3 → (j_sz h x i).toInt = 0) : z_I h x := by
  have no : ∀ i k, i < 3 → ¬ z_in h x i k := fun i k hi hk => by
    unfold z_in at hk
    rw [s i hi] at hk
    omega
  exact ⟨⟨fun k hk => absurd hk (no 0 k (by decide)), ⟨fun _ => 0, fun k i hk => absurd hk (no 0 k (by decide))⟩, fun k hk => absurd hk (no 1 k (by decide)), fun k hk => absurd hk (no 2 k (by decide))⟩, fun k hk => absurd hk (no 1 k (by decide))⟩
theorem z_V0 : z_V z_s0 := ⟨⟨⟨by decide, by decide⟩, ⟨by decide, by decide⟩⟩, ⟨by decide, by decide⟩, fun k i hk => by
  have hk : (k : Int) < (j_s0 0).toInt := hk
  have : ((j_s0 0).toInt) = 0 := by decide
  omega, fun k hk => by
  have hk : (k : Int) < (j_s0 1).toInt := hk
  have : ((j_s0 1).toInt) = 0 := by decide
  omega⟩
theorem j_z0 {x : Int32} (h : x.toInt = 0) : x = Int32.ofInt 0 := Int32.toInt_inj.mp (h.trans (by decide))
set_option maxHeartbeats 4000000 in
set_option maxRecDepth 20000 in
theorem c_Mo_init {h : j_H} {m : Nat} (km : j_kd h m = some (.inl 12)) (hy0 : j_it h m 2 = 0) (hz : ∃ z t, j_st h 0 = some z ∧ j_kd h z = some (.inr t) ∧ t % 10 = 2 ∧ j_ln h z = 0) : j_Ct 165 4 80 4 11 [j_r (some m)] h (fun v h' => v = none ∧ (∃ ρ P G R Q, j_MX ρ h' m P G R Q ∧ (∀ k, k < 7 → z_dn h' m P G R Q k = j_s0 k) ∧ (j_kd h G = none ∧ j_kd h R = none ∧ j_kd h Q = none) ∧ ∀ q, j_rf h' G 1 = some q ∨ j_rf h' R 1 = some q ∨ j_rf h' Q 1 = some q → j_ln h' q = 0 ∧ ∃ t, j_kd h' q = some (.inr t)) ∧ j_On (fun q => q = m) h h' ∧ ∀ q c, j_kd h' q = some (.inl c) → c ≠ 3 → j_kd h q = some (.inl c)) j_no := by
  obtain ⟨z, t, z1, z2, z3, z4⟩ := hz
  have cl : (Int32.ofInt 2).toNatClampNeg = 2 := by decide
  refine j_intro km_165 (Nat.le_of_ble_eq_true rfl) ?_
  intro J hJ hF
  refine hJ [] 400 _ _ _ _ _ _ ?_
  conv => whnf
  refine ⟨_, rfl, ⟨Nat.le_of_ble_eq_true rfl, Nat.le_of_ble_eq_true rfl⟩, ?_⟩
  conv => whnf
  refine ⟨⟨by decide, by decide⟩, ⟨Nat.le_of_ble_eq_true rfl, Nat.le_of_ble_eq_true rfl⟩, fun b hb => ?_⟩
  have nb : m ≠ b := fun y => by rw [y, hb] at km; cases km
  show j_go _ _ _ _ _ _ _ _ _ _ (j_nw h b (.inr 0) (Int32.ofInt 2).toNatClampNeg) _ _
  have lb : (j_ln (j_nw h b (.inr 0) (Int32.ofInt 2).toNatClampNeg) b : Int) = 2 := by
    show (((if b = b then (Int32.ofInt 2).toNatClampNeg else _) : Nat) : Int) = 2
    rw [if_pos rfl, cl]; rfl
  conv => whnf
  refine ⟨_, rfl, if_pos rfl, j_vp (by decide) (by rw [lb]; decide), ?_⟩
  conv => whnf
  refine ⟨_, rfl, if_pos rfl, j_vp (by decide) (by show (Int32.ofInt 1).toInt < (j_ln (j_nw h b (.inr 0) (Int32.ofInt 2).toNatClampNeg) b : Int); rw [lb]; decide), ?_⟩
  conv => whnf
  refine ⟨_, rfl, (if_neg nb).trans km, ?_⟩
  conv => whnf
  refine ⟨_, rfl, (if_neg nb).trans km, ?_⟩
  show j_go _ _ _ _ _ _ _ _ _ _ (j_up (j_up (j_ui (j_ui (j_nw h b (.inr 0) (Int32.ofInt 2).toNatClampNeg) b (Int32.ofInt 0).toNatClampNeg (Int8.ofInt 20).toInt32) b (Int32.ofInt 1).toNatClampNeg (Int8.ofInt 50).toInt32) m 1 (j_r (some b))) m 3 (j_i (Int32.ofInt 2))) _ _
  have oA : j_On (fun q => q = m) h (j_up (j_up (j_ui (j_ui (j_nw h b (.inr 0) (Int32.ofInt 2).toNatClampNeg) b (Int32.ofInt 0).toNatClampNeg (Int8.ofInt 20).toInt32) b (Int32.ofInt 1).toNatClampNeg (Int8.ofInt 50).toInt32) m 1 (j_r (some b))) m 3 (j_i (Int32.ofInt 2))) :=
    (((((j_On.nw (S := fun q => q = m ∨ q = b) hb).trans (j_On.up (v := j_i (Int8.ofInt 20).toInt32) (Or.inr rfl))).trans (j_On.up (v := j_i (Int8.ofInt 50).toInt32) (Or.inr rfl))).trans (j_On.up (Or.inl rfl))).trans (j_On.up (Or.inl rfl))).mono (fun q hq y => by
      rcases y with y | y
      · exact y
      · rw [y] at hq; exact absurd hb hq)
  have kdA : ∀ q, q ≠ b → j_kd (j_up (j_up (j_ui (j_ui (j_nw h b (.inr 0) (Int32.ofInt 2).toNatClampNeg) b (Int32.ofInt 0).toNatClampNeg (Int8.ofInt 20).toInt32) b (Int32.ofInt 1).toNatClampNeg (Int8.ofInt 50).toInt32) m 1 (j_r (some b))) m 3 (j_i (Int32.ofInt 2))) q = j_kd h q := fun q hq => if_neg hq
  have kbA : j_kd (j_up (j_up (j_ui (j_ui (j_nw h b (.inr 0) (Int32.ofInt 2).toNatClampNeg) b (Int32.ofInt 0).toNatClampNeg (Int8.ofInt 20).toInt32) b (Int32.ofInt 1).toNatClampNeg (Int8.ofInt 50).toInt32) m 1 (j_r (some b))) m 3 (j_i (Int32.ofInt 2))) b = some (.inr 0) := if_pos rfl
  have lbA : j_ln (j_up (j_up (j_ui (j_ui (j_nw h b (.inr 0) (Int32.ofInt 2).toNatClampNeg) b (Int32.ofInt 0).toNatClampNeg (Int8.ofInt 20).toInt32) b (Int32.ofInt 1).toNatClampNeg (Int8.ofInt 50).toInt32) m 1 (j_r (some b))) m 3 (j_i (Int32.ofInt 2))) b = 2 := (if_pos rfl).trans cl
  have zA : ∀ i, i < 2 → j_it (j_up (j_up (j_ui (j_ui (j_nw h b (.inr 0) (Int32.ofInt 2).toNatClampNeg) b (Int32.ofInt 0).toNatClampNeg (Int8.ofInt 20).toInt32) b (Int32.ofInt 1).toNatClampNeg (Int8.ofInt 50).toInt32) m 1 (j_r (some b))) m 3 (j_i (Int32.ofInt 2))) b i ≠ 0 := by
    intro i hi
    rw [(j_up_ne _ _ (fun y => nb y.symm) i).1, (j_up_ne _ _ (fun y => nb y.symm) i).1]
    match i, hi with
    | 0, _ =>
      rw [show (Int32.ofInt 1).toNatClampNeg = 1 by decide, show (Int32.ofInt 0).toNatClampNeg = 0 by decide]
      rw [j_uin (by decide), j_uia]
      decide
    | 1, _ =>
      rw [show (Int32.ofInt 1).toNatClampNeg = 1 by decide]
      rw [j_uia]
      decide
    | n + 2, hi => omega
  have pA : j_rf (j_up (j_up (j_ui (j_ui (j_nw h b (.inr 0) (Int32.ofInt 2).toNatClampNeg) b (Int32.ofInt 0).toNatClampNeg (Int8.ofInt 20).toInt32) b (Int32.ofInt 1).toNatClampNeg (Int8.ofInt 50).toInt32) m 1 (j_r (some b))) m 3 (j_i (Int32.ofInt 2))) m 1 = some b := (j_upn (by decide)).trans j_upr
  have vA : j_it (j_up (j_up (j_ui (j_ui (j_nw h b (.inr 0) (Int32.ofInt 2).toNatClampNeg) b (Int32.ofInt 0).toNatClampNeg (Int8.ofInt 20).toInt32) b (Int32.ofInt 1).toNatClampNeg (Int8.ofInt 50).toInt32) m 1 (j_r (some b))) m 3 (j_i (Int32.ofInt 2))) b 0 = (Int8.ofInt 20).toInt32 ∧ j_it (j_up (j_up (j_ui (j_ui (j_nw h b (.inr 0) (Int32.ofInt 2).toNatClampNeg) b (Int32.ofInt 0).toNatClampNeg (Int8.ofInt 20).toInt32) b (Int32.ofInt 1).toNatClampNeg (Int8.ofInt 50).toInt32) m 1 (j_r (some b))) m 3 (j_i (Int32.ofInt 2))) b 1 = (Int8.ofInt 50).toInt32 := by
    refine ⟨?_, ?_⟩
    · rw [(j_up_ne _ _ (fun y => nb y.symm) 0).1, (j_up_ne _ _ (fun y => nb y.symm) 0).1]
      rw [show (Int32.ofInt 1).toNatClampNeg = 1 by decide, show (Int32.ofInt 0).toNatClampNeg = 0 by decide]
      rw [j_uin (by decide), j_uia]
    · rw [(j_up_ne _ _ (fun y => nb y.symm) 1).1, (j_up_ne _ _ (fun y => nb y.symm) 1).1]
      rw [show (Int32.ofInt 1).toNatClampNeg = 1 by decide]
      rw [j_uia]
  have iA : j_it (j_up (j_up (j_ui (j_ui (j_nw h b (.inr 0) (Int32.ofInt 2).toNatClampNeg) b (Int32.ofInt 0).toNatClampNeg (Int8.ofInt 20).toInt32) b (Int32.ofInt 1).toNatClampNeg (Int8.ofInt 50).toInt32) m 1 (j_r (some b))) m 3 (j_i (Int32.ofInt 2))) m 3 = Int32.ofInt 2 ∧ j_it (j_up (j_up (j_ui (j_ui (j_nw h b (.inr 0) (Int32.ofInt 2).toNatClampNeg) b (Int32.ofInt 0).toNatClampNeg (Int8.ofInt 20).toInt32) b (Int32.ofInt 1).toNatClampNeg (Int8.ofInt 50).toInt32) m 1 (j_r (some b))) m 3 (j_i (Int32.ofInt 2))) m 2 = Int32.ofInt 0 := by
    refine ⟨j_upi, (j_upm (by decide)).trans ?_⟩
    show j_it (j_ui (j_ui (j_nw h b (.inr 0) (Int32.ofInt 2).toNatClampNeg) b (Int32.ofInt 0).toNatClampNeg (Int8.ofInt 20).toInt32) b (Int32.ofInt 1).toNatClampNeg (Int8.ofInt 50).toInt32) m 2 = _
    exact ((j_up_ne _ (j_i (Int8.ofInt 50).toInt32) nb 2).1).trans (((j_up_ne _ (j_i (Int8.ofInt 20).toInt32) nb 2).1).trans ((if_neg nb).trans (hy0.trans (by decide))))
  generalize j_up (j_up (j_ui (j_ui (j_nw h b (.inr 0) (Int32.ofInt 2).toNatClampNeg) b (Int32.ofInt 0).toNatClampNeg (Int8.ofInt 20).toInt32) b (Int32.ofInt 1).toNatClampNeg (Int8.ofInt 50).toInt32) m 1 (j_r (some b))) m 3 (j_i (Int32.ofInt 2)) = hA at oA kdA kbA lbA zA pA vA iA ⊢
  have kmA : j_kd hA m = some (.inl 12) := (kdA m nb).trans km
  conv => whnf
  refine ⟨⟨Nat.le_of_ble_eq_true rfl, Nat.le_of_ble_eq_true rfl⟩, fun y1 hy1 => ?_⟩
  have nn1 : m ≠ y1 := fun q => by rw [← q, kmA] at hy1; cases hy1
  conv => whnf
  refine ⟨trivial, rfl, _, _, _, _, _, _, c_AL_init (if_pos rfl), ⟨Nat.le_of_ble_eq_true rfl, Nat.le_of_ble_eq_true rfl, Nat.le_of_ble_eq_true rfl, Nat.le_of_ble_eq_true rfl⟩, fun _ _ z => False.elim z, ?_⟩
  rintro v9 g1 ⟨rfl, e1⟩
  conv => whnf
  refine ⟨_, rfl, by rw [e1]; exact (if_neg nn1).trans kmA, ?_⟩
  show j_go _ _ _ _ _ _ _ _ _ _ (j_up g1 m 4 (j_r (some y1))) _ _
  obtain ⟨o1, k1, l1, r1, i1, s1, t1, n1⟩ := j_mkm (k := 4) (j_nn kmA) hy1 (h' := j_up g1 m 4 (j_r (some y1))) (by rw [e1]; rfl)
  generalize j_up g1 m 4 (j_r (some y1)) = hB at o1 k1 l1 r1 i1 s1 t1 ⊢
  have km1 : j_kd hB m = some (.inl 12) := (l1 m nn1).trans kmA
  conv => whnf
  refine ⟨⟨Nat.le_of_ble_eq_true rfl, Nat.le_of_ble_eq_true rfl⟩, fun y2 hy2 => ?_⟩
  have nn2 : m ≠ y2 := fun q => by rw [← q, km1] at hy2; cases hy2
  conv => whnf
  refine ⟨trivial, rfl, _, _, _, _, _, _, c_AL_init (if_pos rfl), ⟨Nat.le_of_ble_eq_true rfl, Nat.le_of_ble_eq_true rfl, Nat.le_of_ble_eq_true rfl, Nat.le_of_ble_eq_true rfl⟩, fun _ _ z => False.elim z, ?_⟩
  rintro v9 g2 ⟨rfl, e2⟩
  conv => whnf
  refine ⟨_, rfl, by rw [e2]; exact (if_neg nn2).trans km1, ?_⟩
  show j_go _ _ _ _ _ _ _ _ _ _ (j_up g2 m 5 (j_r (some y2))) _ _
  obtain ⟨o2, k2, l2, r2, i2, s2, t2, n2⟩ := j_mkm (k := 5) (j_nn km1) hy2 (h' := j_up g2 m 5 (j_r (some y2))) (by rw [e2]; rfl)
  generalize j_up g2 m 5 (j_r (some y2)) = hC at o2 k2 l2 r2 i2 s2 t2 ⊢
  have km2 : j_kd hC m = some (.inl 12) := (l2 m nn2).trans km1
  conv => whnf
  refine ⟨⟨Nat.le_of_ble_eq_true rfl, Nat.le_of_ble_eq_true rfl⟩, fun y3 hy3 => ?_⟩
  have nn3 : m ≠ y3 := fun q => by rw [← q, km2] at hy3; cases hy3
  conv => whnf
  refine ⟨trivial, rfl, _, _, _, _, _, _, c_AL_init (if_pos rfl), ⟨Nat.le_of_ble_eq_true rfl, Nat.le_of_ble_eq_true rfl, Nat.le_of_ble_eq_true rfl, Nat.le_of_ble_eq_true rfl⟩, fun _ _ z => False.elim z, ?_⟩
  rintro v9 g3 ⟨rfl, e3⟩
  conv => whnf
  refine ⟨_, rfl, by rw [e3]; exact (if_neg nn3).trans km2, ?_⟩
  show j_go _ _ _ _ _ _ _ _ _ _ (j_up g3 m 6 (j_r (some y3))) _ _
  obtain ⟨o3, k3, l3, r3, i3, s3, t3, n3⟩ := j_mkm (k := 6) (j_nn km2) hy3 (h' := j_up g3 m 6 (j_r (some y3))) (by rw [e3]; rfl)
  generalize j_up g3 m 6 (j_r (some y3)) = hD at o3 k3 l3 r3 i3 s3 t3 ⊢
  have km3 : j_kd hD m = some (.inl 12) := (l3 m nn3).trans km2
  conv => whnf
  have fr : ∀ y, j_kd hA y = none → j_kd h y = none := fun y hy => by
    cases q : j_kd h y with
    | none => rfl
    | some s => rw [(oA.2 y (j_nn q)).1, q] at hy; cases hy
  have hy2' : j_kd hA y2 = none := by
    cases q : j_kd hA y2 with
    | none => rfl
    | some s => rw [(o1.2 y2 (j_nn q)).1, q] at hy2; cases hy2
  have hy3' : j_kd hA y3 = none := by
    cases q : j_kd hA y3 with
    | none => rfl
    | some s => rw [((o1.trans o2).2 y3 (j_nn q)).1, q] at hy3; cases hy3
  have nz : j_kd h z ≠ none := j_nn z2
  have zm : z ≠ m := fun q => by rw [q, km] at z2; cases z2
  have oo := ((o1.trans o2).trans o3)
  have n12 : y1 ≠ y2 := fun q => by rw [← q, k1] at hy2; cases hy2
  have n13 : y1 ≠ y3 := fun q => by rw [← q, (l2 y1 n12).trans k1] at hy3; cases hy3
  have n23 : y2 ≠ y3 := fun q => by rw [← q, k2] at hy3; cases hy3
  have nby : ∀ y, j_kd hD y = some (.inl 3) → b ≠ y := fun y ky q => by
    have := (oo.2 b (j_nn kbA)).1.trans kbA
    rw [q, ky] at this; cases this
  have k1D : j_kd hD y1 = some (.inl 3) := (l3 y1 n13).trans ((l2 y1 n12).trans k1)
  have k2D : j_kd hD y2 = some (.inl 3) := (l3 y2 n23).trans k2
  have s1D : j_rf hD y1 1 = some z := (((o2.trans o3).2 y1 (j_nn k1)).2.2 (fun q => n1 q.symm) 1).2.2.trans (r1.trans (oA.1 ▸ z1))
  have s2D : j_rf hD y2 1 = some z := ((o3.2 y2 (j_nn k2)).2.2 (fun q => n2 q.symm) 1).2.2.trans (r2.trans (by rw [o1.1, oA.1]; exact z1))
  have s3D : j_rf hD y3 1 = some z := r3.trans (by rw [o2.1, o1.1, oA.1]; exact z1)
  have i1D : (j_it hD y1 2).toInt = 0 := by rw [(((o2.trans o3).2 y1 (j_nn k1)).2.2 (fun q => n1 q.symm) 2).1]; exact i1
  have i2D : (j_it hD y2 2).toInt = 0 := by rw [((o3.2 y2 (j_nn k2)).2.2 (fun q => n2 q.symm) 2).1]; exact i2
  have kz : j_kd hD z = some (.inr t) := ((oA.trans oo).2 z nz).1.trans z2
  have lz : j_ln hD z = 0 := ((oA.trans oo).2 z nz).2.1.trans z4
  have li : ∀ y kk M, (0:Int) ≤ M → j_kd hD y = some (.inl 3) → j_rf hD y 1 = some z → (j_it hD y 2).toInt = 0 → j_LK hD y kk M := fun y kk M hM ky ry iy => ⟨ky, by omega, by omega, z, t, ry, kz, z3, by omega, ⟨by omega, Or.inr ⟨lz, (congrFun (oA.trans oo).1 0).trans z1⟩⟩, fun j hj => by omega⟩
  have ap : ∀ u v, u ≠ v → j_rf hD u 1 = some z → j_Ap hD u v := fun u v huv hu => ⟨huv, fun a ha _ => by
    obtain rfl : z = a := Option.some.inj (hu.symm.trans ha)
    exact lz⟩
  have ea : ∀ y Pr, (j_it hD y 2).toInt = 0 → j_ea hD y Pr := fun y Pr iy arr _ j e hj _ => by omega
  have kbD : j_kd hD b = some (.inr 0) := (oo.2 b (j_nn kbA)).1.trans kbA
  have mb : b ≠ m := fun q => nb q.symm
  refine ⟨rfl, ⟨Nat.le_of_ble_eq_true rfl, Nat.le_of_ble_eq_true rfl⟩, rfl, ⟨fun q => if q = b then 1 else 0, b, y1, y2, y3, ⟨(oo.2 m (j_nn kmA)).1.trans kmA, ⟨(t3.1 1 (by decide)).trans ((t2.1 1 (by decide)).trans ((t1.1 1 (by decide)).trans pA)), kbD, (oo.2 b (j_nn kbA)).2.1.trans lbA, if_pos rfl, fun i hi => by rw [((oo.2 b (j_nn kbA)).2.2 mb i).1]; exact zA i hi⟩,
    ⟨(t3.1 4 (by decide)).trans ((t2.1 4 (by decide)).trans s1), li y1 _ _ (by decide) k1D s1D i1D⟩, ⟨(t3.1 5 (by decide)).trans s2, li y2 _ _ (by decide) k2D s2D i2D⟩, ⟨s3, li y3 _ _ (by decide) k3 s3D i3⟩, ⟨ap _ _ n12 s1D, ap _ _ n13 s1D, ap _ _ n23 s2D⟩, ea y1 _ i1D, ea y2 _ i2D, ea y3 _ i3, fun q hq => if_neg (fun y => by rw [y, kbD] at hq; cases hq), ea y1 _ i1D, ea y2 _ i2D, fun _ => 0, ea y1 _ i1D⟩, fun k hk => ?_, ⟨fr y1 hy1, fr y2 hy2', fr y3 hy3'⟩, fun q hq => ?_⟩, oA.trans oo, fun q c hq hc => ?_⟩
  · match k, hk with
    | 0, _ => exact j_z0 i1D
    | 1, _ => exact j_z0 i2D
    | 2, _ => exact j_z0 i3
    | 3, _ => exact ((oo.2 b (j_nn kbA)).2.2 mb 0).1.trans vA.1
    | 4, _ => exact ((oo.2 b (j_nn kbA)).2.2 mb 1).1.trans vA.2
    | 5, _ => exact (t3.2 3).trans ((t2.2 3).trans ((t1.2 3).trans iA.1))
    | 6, _ => exact (t3.2 2).trans ((t2.2 2).trans ((t1.2 2).trans iA.2))
    | n + 7, hk => omega
  · have e : z = q := by
      rcases hq with hq | hq | hq
      · exact Option.some.inj (s1D.symm.trans hq)
      · exact Option.some.inj (s2D.symm.trans hq)
      · exact Option.some.inj (s3D.symm.trans hq)
    rw [← e]
    exact ⟨lz, t, kz⟩
  · by_cases w3 : q = y3
    · rw [w3, k3] at hq; cases hq; exact absurd rfl hc
    rw [l3 q w3] at hq
    by_cases w2 : q = y2
    · rw [w2, k2] at hq; cases hq; exact absurd rfl hc
    rw [l2 q w2] at hq
    by_cases w1 : q = y1
    · rw [w1, k1] at hq; cases hq; exact absurd rfl hc
    rw [l1 q w1] at hq
    by_cases wb : q = b
    · rw [wb, kbA] at hq; cases hq
    exact (kdA q wb).symm.trans hq
set_option maxRecDepth 20000 in
theorem c_Out_init {h : j_H} {e : Nat} : j_Ct 251 1 20 0 0 [j_r (some e)] h (fun v h' => v = none ∧ h' = h) j_no := by
  refine j_intro km_251 (Nat.le_of_ble_eq_true rfl) ?_
  intro J hJ hF
  refine hJ [] 400 _ _ _ _ _ _ ?_
  conv => whnf
  refine ⟨_, rfl, ⟨Nat.le_of_ble_eq_true rfl, Nat.le_of_ble_eq_true rfl⟩, ?_⟩
  conv => whnf
  exact ⟨rfl, ⟨Nat.le_of_ble_eq_true rfl, Nat.le_of_ble_eq_true rfl⟩, rfl, rfl⟩
set_option maxHeartbeats 4000000 in
set_option maxRecDepth 20000 in
theorem c_G_init5 {h : j_H} {x : Nat} (kx : j_kd h x = some (.inl 8)) (hG : j_G h) (hz : ∃ z t, j_st h 0 = some z ∧ j_kd h z = some (.inr t) ∧ t % 10 = 2 ∧ j_ln h z = 0) : j_Ct 77 4 80 3 9 [j_r (some x)] h (fun v h' => v = none ∧ (z_I h' x ∧ ∀ k, k < 7 → z_cn h' x k = j_s0 k) ∧ j_WF h' x ∧ j_On (fun q => q = x) h h' ∧ ∀ k L, k < 3 → j_rf h' x k = some L → j_kd h L = none) j_no := by
  obtain ⟨z, t, z1, z2, z3, z4⟩ := hz
  refine j_intro km_77 (Nat.le_of_ble_eq_true rfl) ?_
  intro J hJ hF
  refine hJ [] 400 _ _ _ _ _ _ ?_
  conv => whnf
  refine ⟨_, rfl, ⟨Nat.le_of_ble_eq_true rfl, Nat.le_of_ble_eq_true rfl⟩, ?_⟩
  conv => whnf
  refine ⟨⟨Nat.le_of_ble_eq_true rfl, Nat.le_of_ble_eq_true rfl⟩, fun y0 hy0 => ?_⟩
  conv => whnf
  refine ⟨trivial, rfl, _, _, _, _, _, _, c_AL_init (if_pos rfl), ⟨Nat.le_of_ble_eq_true rfl, Nat.le_of_ble_eq_true rfl, Nat.le_of_ble_eq_true rfl, Nat.le_of_ble_eq_true rfl⟩, fun _ _ z => False.elim z, ?_⟩
  rintro v9 h1 ⟨rfl, e1⟩
  have nx0 : x ≠ y0 := fun z => by rw [z, hy0] at kx; cases kx
  conv => whnf
  refine ⟨_, rfl, by rw [e1]; exact (if_neg nx0).trans kx, ?_⟩
  obtain ⟨o1, k1, l1, r1, i1, s1, t1, n1⟩ := j_mkl (k := 0) kx hy0 (h' := j_up h1 x 0 (j_r (some y0))) (by rw [e1]; rfl)
  have kx1 := (l1 x n1).trans kx
  conv => whnf
  refine ⟨⟨Nat.le_of_ble_eq_true rfl, Nat.le_of_ble_eq_true rfl⟩, fun y1 hy1 => ?_⟩
  conv => whnf
  refine ⟨trivial, rfl, _, _, _, _, _, _, c_AL_init (if_pos rfl), ⟨Nat.le_of_ble_eq_true rfl, Nat.le_of_ble_eq_true rfl, Nat.le_of_ble_eq_true rfl, Nat.le_of_ble_eq_true rfl⟩, fun _ _ z => False.elim z, ?_⟩
  rintro v9 h3 ⟨rfl, e3⟩
  have hy1 : j_kd (j_up h1 x 0 (j_r (some y0))) y1 = none := hy1
  have nx1 : x ≠ y1 := fun z => by rw [← z, kx1] at hy1; cases hy1
  conv => whnf
  refine ⟨_, rfl, by rw [e3]; exact (if_neg nx1).trans kx1, ?_⟩
  obtain ⟨o3, k3, l3, r3, i3, s3, t3, n3⟩ := j_mkl (k := 1) kx1 hy1 (h' := j_up h3 x 1 (j_r (some y1))) (by rw [e3]; rfl)
  have kx3 := (l3 x n3).trans kx1
  conv => whnf
  refine ⟨⟨Nat.le_of_ble_eq_true rfl, Nat.le_of_ble_eq_true rfl⟩, fun y2 hy2 => ?_⟩
  conv => whnf
  refine ⟨trivial, rfl, _, _, _, _, _, _, c_AL_init (if_pos rfl), ⟨Nat.le_of_ble_eq_true rfl, Nat.le_of_ble_eq_true rfl, Nat.le_of_ble_eq_true rfl, Nat.le_of_ble_eq_true rfl⟩, fun _ _ z => False.elim z, ?_⟩
  rintro v9 h5 ⟨rfl, e5⟩
  have hy2 : j_kd (j_up h3 x 1 (j_r (some y1))) y2 = none := hy2
  have nx2 : x ≠ y2 := fun z => by rw [← z, kx3] at hy2; cases hy2
  conv => whnf
  refine ⟨_, rfl, by rw [e5]; exact (if_neg nx2).trans kx3, ?_⟩
  obtain ⟨o5, k5, l5, r5, i5, s5, t5, n5⟩ := j_mkl (k := 2) kx3 hy2 (h' := j_up h5 x 2 (j_r (some y2))) (by rw [e5]; rfl)
  have kx5 := (l5 x n5).trans kx3
  conv => whnf
  refine ⟨_, rfl, kx5, ?_⟩
  conv => whnf
  refine ⟨_, rfl, kx5, ?_⟩
  conv => whnf
  refine ⟨_, rfl, kx5, ?_⟩
  conv => whnf
  refine ⟨_, rfl, kx5, ?_⟩
  conv => whnf
  have n01 : y0 ≠ y1 := fun z => by rw [← z, k1] at hy1; cases hy1
  have k1' := (l3 y0 n01).trans k1
  have n02 : y0 ≠ y2 := fun z => by rw [← z, k1'] at hy2; cases hy2
  have n12 : y1 ≠ y2 := fun z => by rw [← z, k3] at hy2; cases hy2
  have k0f : j_kd (j_up h5 x 2 (j_r (some y2))) y0 = some (.inl 3) := (l5 y0 n02).trans k1'
  have k1f : j_kd (j_up h5 x 2 (j_r (some y2))) y1 = some (.inl 3) := (l5 y1 n12).trans k3
  have nz : j_kd h z ≠ none := j_nn z2
  have zx : z ≠ x := fun q => by rw [q, kx] at z2; cases z2
  have oo := (o1.trans o3).trans o5
  have ff : ∀ q, j_kd (j_up h1 x 0 (j_r (some y0))) q ≠ none → q ≠ x → ∀ k, j_it (j_up h5 x 2 (j_r (some y2))) q k = j_it (j_up h1 x 0 (j_r (some y0))) q k ∧ j_rf (j_up h5 x 2 (j_r (some y2))) q k = j_rf (j_up h1 x 0 (j_r (some y0))) q k := fun q hq hx k => ⟨(((o3.trans o5).2 q hq).2.2 hx k).1, (((o3.trans o5).2 q hq).2.2 hx k).2.2⟩
  have f1 : ∀ k, j_it (j_up h5 x 2 (j_r (some y2))) y1 k = j_it (j_up h3 x 1 (j_r (some y1))) y1 k ∧ j_rf (j_up h5 x 2 (j_r (some y2))) y1 k = j_rf (j_up h3 x 1 (j_r (some y1))) y1 k := fun k => ⟨((o5.2 y1 (j_nn k3)).2.2 (fun z => n3 z.symm) k).1, ((o5.2 y1 (j_nn k3)).2.2 (fun z => n3 z.symm) k).2.2⟩
  have st1 : j_st (j_up h1 x 0 (j_r (some y0))) 0 = some z := by rw [o1.1]; exact z1
  have st3 : j_st (j_up h3 x 1 (j_r (some y1))) 0 = some z := by rw [o3.1]; exact st1
  have of9 : j_On (fun q => q = x) h (j_up (j_up (j_up (j_up (j_up h5 x 2 (j_r (some y2))) x 3 (j_i (Int8.ofInt 20).toInt32)) x 4 (j_i (Int8.ofInt 50).toInt32)) x 5 (j_i (Int32.ofInt 2))) x 6 (j_i (Int32.ofInt 0))) := (((oo.trans (j_On.up rfl)).trans (j_On.up rfl)).trans (j_On.up rfl)).trans (j_On.up rfl)
  have itq : ∀ q, q ≠ x → ∀ k, j_it (j_up (j_up (j_up (j_up (j_up h5 x 2 (j_r (some y2))) x 3 (j_i (Int8.ofInt 20).toInt32)) x 4 (j_i (Int8.ofInt 50).toInt32)) x 5 (j_i (Int32.ofInt 2))) x 6 (j_i (Int32.ofInt 0))) q k = j_it (j_up h5 x 2 (j_r (some y2))) q k := fun q hq k =>
    ((j_up_ne _ _ hq k).1).trans (((j_up_ne _ _ hq k).1).trans (((j_up_ne _ _ hq k).1).trans ((j_up_ne _ _ hq k).1)))
  have kz := (oo.2 z nz).1
  have lz := (oo.2 z nz).2.1
  have li : ∀ y c M, (0:Int) ≤ M → y ≠ x → j_kd (j_up h5 x 2 (j_r (some y2))) y = some (.inl 3) → j_rf (j_up h5 x 2 (j_r (some y2))) y 1 = some z → (j_it (j_up h5 x 2 (j_r (some y2))) y 2).toInt = 0 → j_LI (j_up (j_up (j_up (j_up (j_up h5 x 2 (j_r (some y2))) x 3 (j_i (Int8.ofInt 20).toInt32)) x 4 (j_i (Int8.ofInt 50).toInt32)) x 5 (j_i (Int32.ofInt 2))) x 6 (j_i (Int32.ofInt 0))) y c M := by
    intro y c M hM hy ky ry iy
    have iy : (j_it (j_up (j_up (j_up (j_up (j_up h5 x 2 (j_r (some y2))) x 3 (j_i (Int8.ofInt 20).toInt32)) x 4 (j_i (Int8.ofInt 50).toInt32)) x 5 (j_i (Int32.ofInt 2))) x 6 (j_i (Int32.ofInt 0))) y 2).toInt = 0 := by rw [itq y hy]; exact iy
    have lz' : j_ln (j_up (j_up (j_up (j_up (j_up h5 x 2 (j_r (some y2))) x 3 (j_i (Int8.ofInt 20).toInt32)) x 4 (j_i (Int8.ofInt 50).toInt32)) x 5 (j_i (Int32.ofInt 2))) x 6 (j_i (Int32.ofInt 0))) z = 0 := lz.trans z4
    exact ⟨ky, by omega, by omega, z, t, ry, kz.trans z2, z3, by omega, ⟨by omega, Or.inr ⟨lz', (congrFun of9.1 0).trans z1⟩⟩, fun j hj => by omega⟩
  have ra : j_rf (j_up h5 x 2 (j_r (some y2))) y0 1 = some z := ((ff y0 (j_nn k1) (fun z => n1 z.symm) 1).2).trans (r1.trans z1)
  have rb : j_rf (j_up h5 x 2 (j_r (some y2))) y1 1 = some z := ((f1 1).2).trans (r3.trans st1)
  have rc : j_rf (j_up h5 x 2 (j_r (some y2))) y2 1 = some z := r5.trans st3
  have ap : ∀ u v, u ≠ v → j_rf (j_up h5 x 2 (j_r (some y2))) u 1 = some z → j_Ap (j_up (j_up (j_up (j_up (j_up h5 x 2 (j_r (some y2))) x 3 (j_i (Int8.ofInt 20).toInt32)) x 4 (j_i (Int8.ofInt 50).toInt32)) x 5 (j_i (Int32.ofInt 2))) x 6 (j_i (Int32.ofInt 0))) u v := fun u v huv hu => ⟨huv, fun a ha _ => by
    obtain rfl : z = a := Option.some.inj (hu.symm.trans ha)
    exact lz.trans z4⟩
  have la := li y0 4 8 (by decide) (fun z => n1 z.symm) k0f ra (by rw [(ff y0 (j_nn k1) (fun z => n1 z.symm) 2).1]; exact i1)
  have lb := li y1 7 20 (by decide) (fun z => n3 z.symm) k1f rb (by rw [(f1 2).1]; exact i3)
  have lc := li y2 6 10 (by decide) (fun z => n5 z.symm) k5 rc i5
  have x0 : j_rf (j_up h5 x 2 (j_r (some y2))) x 0 = some y0 := (t5 0 (by decide)).trans ((t3 0 (by decide)).trans s1)
  have x1 : j_rf (j_up h5 x 2 (j_r (some y2))) x 1 = some y1 := (t5 1 (by decide)).trans s3
  have hG' : j_G (j_up (j_up (j_up (j_up (j_up h5 x 2 (j_r (some y2))) x 3 (j_i (Int8.ofInt 20).toInt32)) x 4 (j_i (Int8.ofInt 50).toInt32)) x 5 (j_i (Int32.ofInt 2))) x 6 (j_i (Int32.ofInt 0))) := by
    refine hG.on of9 (fun q c hq hk => ?_) (fun q c hk => ?_)
    · rw [hq, kx] at hk
      cases hk
      exact Or.inr rfl
    · have hk : j_kd (j_up h5 x 2 (j_r (some y2))) q = some (.inl c) := hk
      by_cases w2 : q = y2
      · rw [w2, k5] at hk; cases hk; exact Or.inr (Or.inl rfl)
      rw [l5 q w2] at hk
      by_cases w1 : q = y1
      · rw [w1, k3] at hk; cases hk; exact Or.inr (Or.inl rfl)
      rw [l3 q w1] at hk
      by_cases w0 : q = y0
      · rw [w0, k1] at hk; cases hk; exact Or.inr (Or.inl rfl)
      rw [l1 q w0] at hk
      exact Or.inl hk
  have v0 : (j_it (j_up (j_up (j_up (j_up (j_up h5 x 2 (j_r (some y2))) x 3 (j_i (Int8.ofInt 20).toInt32)) x 4 (j_i (Int8.ofInt 50).toInt32)) x 5 (j_i (Int32.ofInt 2))) x 6 (j_i (Int32.ofInt 0))) y0 2).toInt = 0 := by rw [itq y0 (fun z => n1 z.symm) 2, (ff y0 (j_nn k1) (fun z => n1 z.symm) 2).1]; exact i1
  have v1 : (j_it (j_up (j_up (j_up (j_up (j_up h5 x 2 (j_r (some y2))) x 3 (j_i (Int8.ofInt 20).toInt32)) x 4 (j_i (Int8.ofInt 50).toInt32)) x 5 (j_i (Int32.ofInt 2))) x 6 (j_i (Int32.ofInt 0))) y1 2).toInt = 0 := by rw [itq y1 (fun z => n3 z.symm) 2, (f1 2).1]; exact i3
  have v2 : (j_it (j_up (j_up (j_up (j_up (j_up h5 x 2 (j_r (some y2))) x 3 (j_i (Int8.ofInt 20).toInt32)) x 4 (j_i (Int8.ofInt 50).toInt32)) x 5 (j_i (Int32.ofInt 2))) x 6 (j_i (Int32.ofInt 0))) y2 2).toInt = 0 := by rw [itq y2 (fun z => n5 z.symm) 2]; exact i5
  have g0 : j_sz (j_up (j_up (j_up (j_up (j_up h5 x 2 (j_r (some y2))) x 3 (j_i (Int8.ofInt 20).toInt32)) x 4 (j_i (Int8.ofInt 50).toInt32)) x 5 (j_i (Int32.ofInt 2))) x 6 (j_i (Int32.ofInt 0))) x 0 = Int32.ofInt 0 := (j_sz_e (h := (j_up (j_up (j_up (j_up (j_up h5 x 2 (j_r (some y2))) x 3 (j_i (Int8.ofInt 20).toInt32)) x 4 (j_i (Int8.ofInt 50).toInt32)) x 5 (j_i (Int32.ofInt 2))) x 6 (j_i (Int32.ofInt 0)))) x0).trans (j_z0 v0)
  have g1 : j_sz (j_up (j_up (j_up (j_up (j_up h5 x 2 (j_r (some y2))) x 3 (j_i (Int8.ofInt 20).toInt32)) x 4 (j_i (Int8.ofInt 50).toInt32)) x 5 (j_i (Int32.ofInt 2))) x 6 (j_i (Int32.ofInt 0))) x 1 = Int32.ofInt 0 := (j_sz_e (h := (j_up (j_up (j_up (j_up (j_up h5 x 2 (j_r (some y2))) x 3 (j_i (Int8.ofInt 20).toInt32)) x 4 (j_i (Int8.ofInt 50).toInt32)) x 5 (j_i (Int32.ofInt 2))) x 6 (j_i (Int32.ofInt 0)))) x1).trans (j_z0 v1)
  have g2 : j_sz (j_up (j_up (j_up (j_up (j_up h5 x 2 (j_r (some y2))) x 3 (j_i (Int8.ofInt 20).toInt32)) x 4 (j_i (Int8.ofInt 50).toInt32)) x 5 (j_i (Int32.ofInt 2))) x 6 (j_i (Int32.ofInt 0))) x 2 = Int32.ofInt 0 := (j_sz_e (h := (j_up (j_up (j_up (j_up (j_up h5 x 2 (j_r (some y2))) x 3 (j_i (Int8.ofInt 20).toInt32)) x 4 (j_i (Int8.ofInt 50).toInt32)) x 5 (j_i (Int32.ofInt 2))) x 6 (j_i (Int32.ofInt 0)))) s5).trans (j_z0 v2)
  refine ⟨rfl, ⟨Nat.le_of_ble_eq_true rfl, Nat.le_of_ble_eq_true rfl⟩, rfl, ⟨z_new (fun i hi => ?_), fun k hk => ?_⟩, ⟨kx5, hG', y0, y1, y2, x0, la, x1, lb, s5, lc, ⟨ap _ _ n01 ra, ap _ _ n02 ra, ap _ _ n12 rb⟩, ?_⟩, of9, ?_⟩
  · match i, hi with
    | 0, _ => rw [g0]; decide
    | 1, _ => rw [g1]; decide
    | 2, _ => rw [g2]; decide
    | n + 3, hi => omega
  · match k, hk with
    | 0, _ => exact g0
    | 1, _ => exact g1
    | 2, _ => exact g2
    | 3, _ => exact (j_upm (by decide)).trans ((j_upm (by decide)).trans ((j_upm (by decide)).trans j_upi))
    | 4, _ => exact (j_upm (by decide)).trans ((j_upm (by decide)).trans j_upi)
    | 5, _ => exact (j_upm (by decide)).trans j_upi
    | 6, _ => exact j_upi
    | n + 7, hk => omega
  · intro arr r1' j e hj _
    have hj : (j : Int) < (j_it (j_up (j_up (j_up (j_up (j_up h5 x 2 (j_r (some y2))) x 3 (j_i (Int8.ofInt 20).toInt32)) x 4 (j_i (Int8.ofInt 50).toInt32)) x 5 (j_i (Int32.ofInt 2))) x 6 (j_i (Int32.ofInt 0))) y2 2).toInt := hj
    rw [itq y2 (fun z => n5 z.symm) 2] at hj
    omega
  · intro k L hk e
    have e : j_rf (j_up h5 x 2 (j_r (some y2))) x k = some L := e
    match k, hk, e with
    | 0, _, e => obtain rfl : y0 = L := Option.some.inj (x0.symm.trans e); exact hy0
    | 1, _, e => obtain rfl : y1 = L := Option.some.inj (x1.symm.trans e); exact (l1 y1 n01.symm).symm.trans hy1
    | 2, _, e => obtain rfl : y2 = L := Option.some.inj (s5.symm.trans e); exact (l1 y2 n02.symm).symm.trans ((l3 y2 n12.symm).symm.trans hy2)
    | n + 3, hk, _ => omega
