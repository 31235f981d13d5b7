theorem j_use {J : j_J} (hF : j_Fg J) {pc : Nat} {lo lo' : j_L} {st : j_S} {h : j_H} {cn sn : Nat} (hj : J pc lo' st h cn sn) (hle : j_le lo' lo) : J pc lo st h cn sn := hF pc lo lo' st h cn sn hle hj
set_option maxRecDepth 20000 in
theorem c_AL_size {S : Nat → Nat → Bool} {h : j_H} {it : Nat → Nat → Int32} {L : Nat} {kk : Nat ⊕ Nat} {M : Int} (l : j_LK h L kk M) (sc : j_Sc S h it) (hS : j_Sk S) : j_Ct 60 0 0 0 0 [j_r (some L)] (j_wi h it) (fun v h' => h' = j_wi h it ∧ v = some (j_i (j_it h L 2))) j_no := by
  refine j_intro km_60 (Nat.le_of_ble_eq_true rfl) ?_
  intro J hJ hF
  refine hJ [] 400 _ _ _ _ _ _ ?_
  conv => whnf
  refine ⟨_, rfl, l.1, fun y e => ?_⟩
  conv => whnf
  refine ⟨trivial, ⟨Nat.le_of_ble_eq_true rfl, Nat.le_of_ble_eq_true rfl⟩, rfl, ?_⟩
  rw [← e]
  exact congrArg (fun z => some (j_i z)) (sc.at l.1 (hS.1 2))
set_option maxRecDepth 20000 in
theorem c_Pre_checkIndex {h : j_H} {i n : Int32} (h0 : 0 ≤ i.toInt) (h1 : i.toInt < n.toInt) : j_Ct 76 0 0 0 0 [j_i i, j_i n, j_r none] h (fun v h' => h' = h ∧ v = some (j_i i)) j_no := by
  refine j_intro km_76 (Nat.le_of_ble_eq_true rfl) ?_
  intro J hJ hF
  refine hJ [] 400 _ _ _ _ _ _ ?_
  conv => whnf
  refine ⟨fun c => absurd c (by show ¬ i.toInt < 0; omega), fun _ => ?_⟩
  conv => whnf
  refine ⟨fun _ => ?_, fun c => absurd h1 c⟩
  conv => whnf
  exact ⟨trivial, ⟨Nat.le_of_ble_eq_true rfl, Nat.le_of_ble_eq_true rfl⟩, rfl, rfl⟩
set_option maxRecDepth 20000 in
theorem c_Ob_checkIndex {h : j_H} {i n : Int32} (h0 : 0 ≤ i.toInt) (h1 : i.toInt < n.toInt) : j_Ct 71 1 22 0 0 [j_i i, j_i n] h (fun v h' => h' = h ∧ v = some (j_i i)) j_no := by
  refine j_intro km_71 (Nat.le_of_ble_eq_true rfl) ?_
  intro J hJ hF
  refine hJ [] 400 _ _ _ _ _ _ ?_
  conv => whnf
  refine ⟨rfl, _, _, _, _, _, _, c_Pre_checkIndex h0 h1, ⟨Nat.le_of_ble_eq_true rfl, Nat.le_of_ble_eq_true rfl, Nat.le_of_ble_eq_true rfl, Nat.le_of_ble_eq_true rfl⟩, fun _ _ z => False.elim z, ?_⟩
  rintro v9 h9 ⟨rfl, rfl⟩
  conv => whnf
  exact ⟨trivial, ⟨Nat.le_of_ble_eq_true rfl, Nat.le_of_ble_eq_true rfl⟩, rfl, rfl⟩
theorem j_vp {i : Int32} {n : Nat} (h0 : 0 ≤ i.toInt) (h1 : i.toInt < (n : Int)) : vp_in i n := vp_in_iff.mpr ⟨h0, h1⟩
theorem j_clamp {i : Int32} (h0 : 0 ≤ i.toInt) : (i.toNatClampNeg : Int) = i.toInt := by
  rw [← Int32.toNat_toInt]
  exact Int.toNat_of_nonneg h0
set_option maxRecDepth 20000 in
theorem c_AL_elementData {h : j_H} {L arr t : Nat} {i : Int32} (k : j_kd h L = some (.inl 3)) (e1 : j_rf h L 1 = some arr) (e2 : j_kd h arr = some (.inr t)) (e3 : t % 10 = 2) (h0 : 0 ≤ i.toInt) (h1 : i.toInt < (j_ln h arr : Int)) : j_Ct 55 0 0 0 0 [j_r (some L), j_i i] h (fun v h' => h' = h ∧ v = some (j_r (j_rf h arr i.toNatClampNeg))) j_no := by
  refine j_intro km_55 (Nat.le_of_ble_eq_true rfl) ?_
  intro J hJ hF
  refine hJ [] 400 _ _ _ _ _ _ ?_
  conv => whnf
  refine ⟨_, rfl, k, fun o eo => ?_⟩
  obtain rfl : o = some arr := eo.symm.trans e1
  conv => whnf
  refine ⟨_, _, rfl, e2, e3, j_vp h0 h1, fun x ex => ?_⟩
  conv => whnf
  refine ⟨trivial, ⟨Nat.le_of_ble_eq_true rfl, Nat.le_of_ble_eq_true rfl⟩, rfl, ?_⟩
  rw [← ex]
set_option maxRecDepth 20000 in
theorem c_AL_get {S : Nat → Nat → Bool} {h : j_H} {it : Nat → Nat → Int32} {L : Nat} {kk : Nat ⊕ Nat} {M : Int} {i : Int32} (l : j_LK h L kk M) (sc : j_Sc S h it) (hS : j_Sk S) (h0 : 0 ≤ i.toInt) (h1 : i.toInt < (j_it h L 2).toInt) : j_Ct 56 2 43 0 0 [j_r (some L), j_i i] (j_wi h it) (fun v h' => h' = j_wi h it ∧ ∃ e, v = some (j_r (some e)) ∧ j_kd h e = some kk ∧ ∃ arr, j_rf h L 1 = some arr ∧ j_rf h arr i.toNatClampNeg = some e) j_no := by
  obtain ⟨k, b0, b1, arr, t, e1, e2, e3, e4, e5, e6⟩ := l
  have hit : it L 2 = j_it h L 2 := sc.at k (hS.1 2)
  refine j_intro km_56 (Nat.le_of_ble_eq_true rfl) ?_
  intro J hJ hF
  refine hJ [] 400 _ _ _ _ _ _ ?_
  conv => whnf
  refine ⟨_, rfl, k, fun y ey => ?_⟩
  obtain rfl : y = j_it h L 2 := ey.symm.trans hit
  conv => whnf
  refine ⟨rfl, _, _, _, _, _, _, c_Ob_checkIndex h0 h1, ⟨Nat.le_of_ble_eq_true rfl, Nat.le_of_ble_eq_true rfl, Nat.le_of_ble_eq_true rfl, Nat.le_of_ble_eq_true rfl⟩, fun _ _ z => False.elim z, ?_⟩
  rintro v9 h9 ⟨rfl, rfl⟩
  conv => whnf
  refine ⟨k, rfl, _, _, _, _, _, _, c_AL_elementData (h := j_wi h it) k e1 e2 e3 h0 (by show i.toInt < (j_ln h arr : Int); omega), ⟨Nat.le_of_ble_eq_true rfl, Nat.le_of_ble_eq_true rfl, Nat.le_of_ble_eq_true rfl, Nat.le_of_ble_eq_true rfl⟩, fun _ _ z => False.elim z, ?_⟩
  rintro v9 h9 ⟨rfl, rfl⟩
  obtain ⟨e, he, ke⟩ := e6 i.toNatClampNeg (by rw [j_clamp h0]; exact h1)
  have he : j_rf (j_wi h it) arr i.toNatClampNeg = some e := he
  rw [he]
  conv => whnf
  exact ⟨trivial, ⟨Nat.le_of_ble_eq_true rfl, Nat.le_of_ble_eq_true rfl⟩, rfl, e, rfl, ke, arr, e1, he⟩
