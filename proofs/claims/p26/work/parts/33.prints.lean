set_option maxHeartbeats 4000000 in
set_option maxRecDepth 20000 in
theorem c_G_allStandFrom {h : j_H} {it : Nat → Nat → Int32} {x : Nat} {p : Option Nat} (hW : j_WF h x) (sc : j_Sc j_sf h it) (kp : p = none ∨ ∃ b, p = some b ∧ j_kd h b = some (.inl 6)) : j_Ct 82 1 21 0 0 [j_r (some x), j_r p] (j_wi h it) (fun v h' => ∃ it', h' = j_wi h it' ∧ j_Sc j_sf h it' ∧ ∃ r, v = some (j_i r) ∧ (r = 0 ∨ r = 1)) j_no := by
  refine j_intro km_82 (Nat.le_of_ble_eq_true rfl) ?_
  intro J hJ hF
  obtain ⟨kx, hG, L0, L1, L2, e0, l0, e1, l1, e2, l2, ap, pn⟩ := id hW
  have Ln : ∀ (it : Nat → Nat → Int32), j_Sc j_sf h it → J 2 [none, none, some (j_r none)] [] (j_wi h it) 0 0 := by
    intro it sc
    refine hJ [2] 400 _ _ _ _ _ _ ?_
    conv => whnf
    refine ⟨fun _ => ?_, fun _ z => nomatch z⟩
    conv => whnf
    exact ⟨Or.inr rfl, ⟨Nat.le_of_ble_eq_true rfl, Nat.le_of_ble_eq_true rfl⟩, _, rfl, sc, _, rfl, Or.inr rfl⟩
  have Ls : ∀ (m b : Nat) (it : Nat → Nat → Int32), j_Sc j_sf h it → j_kd h b = some (.inl 6) → ((j_it h b 0).toInt + 1).toNat ≤ m → J 2 [some (j_r (some x)), none, some (j_r (some b))] [] (j_wi h it) 0 0 := by
    intro m
    induction m with
    | zero =>
      intro b it sc kb hm
      refine hJ [2] 400 _ _ _ _ _ _ ?_
      conv => whnf
      refine ⟨fun z => (nomatch z), fun _ _ => ?_⟩
      conv => whnf
      refine ⟨_, rfl, kb, fun o eo => ?_⟩
      obtain ⟨b1, e1, k1⟩ := hG.2.2.2.1 _ kb
      obtain rfl : o = some b1 := eo.symm.trans e1
      conv => whnf
      refine ⟨_, rfl, k1, fun x1 _ => ?_⟩
      conv => whnf
      refine ⟨fun c1 => ?_, fun c1 => ?_⟩
      · conv => whnf
        exact ⟨Or.inl rfl, ⟨Nat.le_of_ble_eq_true rfl, Nat.le_of_ble_eq_true rfl⟩, _, rfl, sc, _, rfl, Or.inl rfl⟩
      · conv => whnf
        refine ⟨_, rfl, kb, fun x2 _ => ?_⟩
        conv => whnf
        refine ⟨_, rfl, kb, fun o eo => ?_⟩
        obtain rfl : o = some b1 := eo.symm.trans e1
        conv => whnf
        refine ⟨_, rfl, k1, fun x3 _ => ?_⟩
        conv => whnf
        refine ⟨kx, rfl, _, _, _, _, _, _, c_G_paceOf kx, ⟨Nat.le_of_ble_eq_true rfl, Nat.le_of_ble_eq_true rfl, Nat.le_of_ble_eq_true rfl, Nat.le_of_ble_eq_true rfl⟩, fun _ _ z => False.elim z, ?_⟩
        rintro v9 h9 ⟨rfl, r1, rfl⟩
        have sc1 := sc
        clear sc
        conv => whnf
        refine ⟨fun c2 => ?_, fun c2 => ?_⟩
        · conv => whnf
          refine ⟨_, rfl, kb, fun o eo => ?_⟩
          rcases hG.2.2.2.2 _ kb with e2 | ⟨b2, e2, k2, n1, n2⟩
          · obtain rfl : o = none := eo.symm.trans e2
            exact j_use hF (Ln _ sc1) (And.intro rfl trivial)
          · obtain rfl : o = some b2 := eo.symm.trans e2
            exact absurd hm (by omega)
        · conv => whnf
          exact ⟨Or.inl rfl, ⟨Nat.le_of_ble_eq_true rfl, Nat.le_of_ble_eq_true rfl⟩, _, rfl, sc1, _, rfl, Or.inl rfl⟩
    | succ m ih =>
      intro b it sc kb hm
      refine hJ [2] 400 _ _ _ _ _ _ ?_
      conv => whnf
      refine ⟨fun z => (nomatch z), fun _ _ => ?_⟩
      conv => whnf
      refine ⟨_, rfl, kb, fun o eo => ?_⟩
      obtain ⟨b1, e1, k1⟩ := hG.2.2.2.1 _ kb
      obtain rfl : o = some b1 := eo.symm.trans e1
      conv => whnf
      refine ⟨_, rfl, k1, fun x1 _ => ?_⟩
      conv => whnf
      refine ⟨fun c1 => ?_, fun c1 => ?_⟩
      · conv => whnf
        exact ⟨Or.inl rfl, ⟨Nat.le_of_ble_eq_true rfl, Nat.le_of_ble_eq_true rfl⟩, _, rfl, sc, _, rfl, Or.inl rfl⟩
      · conv => whnf
        refine ⟨_, rfl, kb, fun x2 _ => ?_⟩
        conv => whnf
        refine ⟨_, rfl, kb, fun o eo => ?_⟩
        obtain rfl : o = some b1 := eo.symm.trans e1
        conv => whnf
        refine ⟨_, rfl, k1, fun x3 _ => ?_⟩
        conv => whnf
        refine ⟨kx, rfl, _, _, _, _, _, _, c_G_paceOf kx, ⟨Nat.le_of_ble_eq_true rfl, Nat.le_of_ble_eq_true rfl, Nat.le_of_ble_eq_true rfl, Nat.le_of_ble_eq_true rfl⟩, fun _ _ z => False.elim z, ?_⟩
        rintro v9 h9 ⟨rfl, r1, rfl⟩
        have sc1 := sc
        clear sc
        conv => whnf
        refine ⟨fun c2 => ?_, fun c2 => ?_⟩
        · conv => whnf
          refine ⟨_, rfl, kb, fun o eo => ?_⟩
          rcases hG.2.2.2.2 _ kb with e2 | ⟨b2, e2, k2, n1, n2⟩
          · obtain rfl : o = none := eo.symm.trans e2
            exact j_use hF (Ln _ sc1) (And.intro rfl trivial)
          · obtain rfl : o = some b2 := eo.symm.trans e2
            exact j_use hF (ih b2 _ sc1 k2 (by omega)) (And.intro rfl (And.intro rfl trivial))
        · conv => whnf
          exact ⟨Or.inl rfl, ⟨Nat.le_of_ble_eq_true rfl, Nat.le_of_ble_eq_true rfl⟩, _, rfl, sc1, _, rfl, Or.inl rfl⟩
  refine hJ [2] 400 _ _ _ _ _ _ ?_
  rcases kp with rfl | ⟨b, rfl, kb⟩
  · exact j_use hF (Ln _ sc) (And.intro rfl trivial)
  · exact j_use hF (Ls _ b _ sc kb (Nat.le_refl _)) (And.intro rfl (And.intro rfl trivial))
set_option maxHeartbeats 4000000 in
set_option maxRecDepth 20000 in
theorem c_G_countPrintsBelow {h : j_H} {it : Nat → Nat → Int32} {p : Nat} (hG : j_G h) (sc : j_Sc j_sf h it) (kp : j_kd h p = some (.inl 6)) : j_Ct 87 0 0 0 0 [j_r (some p)] (j_wi h it) (fun v h' => ∃ it', h' = j_wi h it' ∧ j_Sc j_sf h it' ∧ ∃ r, v = some (j_i r)) j_no := by
  refine j_intro km_87 (Nat.le_of_ble_eq_true rfl) ?_
  intro J hJ hF
  have Ln : ∀ (v : Int32), J 7 [none, some (j_i v), some (j_r none)] [] (j_wi h it) 0 0 := by
    intro v
    refine hJ [7] 400 _ _ _ _ _ _ ?_
    conv => whnf
    refine ⟨fun _ => ?_, fun _ z => nomatch z⟩
    conv => whnf
    exact ⟨trivial, ⟨Nat.le_of_ble_eq_true rfl, Nat.le_of_ble_eq_true rfl⟩, _, rfl, sc, _, rfl⟩
  have Ls : ∀ (m b : Nat) (v : Int32), j_kd h b = some (.inl 6) → ((j_it h b 0).toInt + 1).toNat ≤ m → J 7 [none, some (j_i v), some (j_r (some b))] [] (j_wi h it) 0 0 := by
    intro m
    induction m with
    | zero =>
      intro b v kb hm
      refine hJ [7] 400 _ _ _ _ _ _ ?_
      conv => whnf
      refine ⟨fun z => (nomatch z), fun _ _ => ?_⟩
      conv => whnf
      refine ⟨_, rfl, kb, fun o eo => ?_⟩
      rcases hG.2.2.2.2 _ kb with e2 | ⟨b2, e2, k2, n1, n2⟩
      · obtain rfl : o = none := eo.symm.trans e2
        exact j_use hF (Ln _) (And.intro rfl (And.intro rfl trivial))
      · obtain rfl : o = some b2 := eo.symm.trans e2
        exact absurd hm (by omega)
    | succ m ih =>
      intro b v kb hm
      refine hJ [7] 400 _ _ _ _ _ _ ?_
      conv => whnf
      refine ⟨fun z => (nomatch z), fun _ _ => ?_⟩
      conv => whnf
      refine ⟨_, rfl, kb, fun o eo => ?_⟩
      rcases hG.2.2.2.2 _ kb with e2 | ⟨b2, e2, k2, n1, n2⟩
      · obtain rfl : o = none := eo.symm.trans e2
        exact j_use hF (Ln _) (And.intro rfl (And.intro rfl trivial))
      · obtain rfl : o = some b2 := eo.symm.trans e2
        exact j_use hF (ih b2 _ k2 (by omega)) (And.intro rfl (And.intro rfl trivial))
  refine hJ [7] 400 _ _ _ _ _ _ ?_
  conv => whnf
  refine ⟨_, rfl, kp, fun o eo => ?_⟩
  rcases hG.2.2.2.2 _ kp with e2 | ⟨b2, e2, k2, n1, n2⟩
  · obtain rfl : o = none := eo.symm.trans e2
    exact j_use hF (Ln _) (And.intro rfl (And.intro rfl trivial))
  · obtain rfl : o = some b2 := eo.symm.trans e2
    exact j_use hF (Ls _ b2 _ k2 (Nat.le_refl _)) (And.intro rfl (And.intro rfl trivial))
