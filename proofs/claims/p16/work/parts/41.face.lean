set_option maxHeartbeats 4000000 in
set_option maxRecDepth 20000 in
theorem c_G_heat {h : j_H} {it : Nat → Nat → Int32} {x : Nat} {a : Int32} {b : Int32} (hW : j_WF h x) (sc : j_Sc j_sm h it)  : j_Ct 103 6 90 1 6 [j_r (some x), j_i a, j_i b] (j_wi h it) (fun v h' => ∃ it', h' = j_wi h it' ∧ j_Sc j_sm h it' ∧ ∃ r, v = some (j_i r)) (fun k h' => k ∈ [0, 2] ∧ ∃ it', h' = j_wi h it' ∧ j_Sc j_sm h it') := by
  refine j_intro km_103 (Nat.le_of_ble_eq_true rfl) ?_
  intro J hJ hF
  obtain ⟨kx, hG, L0, L1, L2, e0, l0, e1, l1, e2, l2, ap, pn⟩ := id hW
  have b0 := l0.2.1; have b1 := l1.2.1; have b2 := l2.2.1; have d0 := l0.2.2.1; have d1 := l1.2.2.1; have d2 := l2.2.2.1
  refine hJ [] 400 _ _ _ _ _ _ ?_
  conv => whnf
  refine ⟨kx, rfl, _, _, _, _, _, _, c_G_isGrain (h := j_wi h it) (j_WF.sc sc j_sm_ok hW) j_Sc.rf, ⟨Nat.le_of_ble_eq_true rfl, Nat.le_of_ble_eq_true rfl, Nat.le_of_ble_eq_true rfl, Nat.le_of_ble_eq_true rfl⟩, fun _ _ z => False.elim z, ?_⟩
  rintro v9 h9 ⟨it2, rfl, sit2, r1, rfl, zr1, mr1⟩
  have nr1 : r1.toInt = 0 ∨ (0 ≤ (a).toInt ∧ (a).toInt < (j_it h L0 2).toInt) := (congrArg (fun z : Int32 => r1.toInt = 0 ∨ (0 ≤ (a).toInt ∧ (a).toInt < z.toInt)) (j_Sc.at sc l0.1 rfl)).mp (mr1 _ e0)
  conv => whnf
  refine ⟨fun c3 => ?_, fun c3 => ?_⟩
  · skip
    conv => whnf
    refine ⟨rfl, _, _, _, _, _, _, c_G_isWithin, ⟨Nat.le_of_ble_eq_true rfl, Nat.le_of_ble_eq_true rfl, Nat.le_of_ble_eq_true rfl, Nat.le_of_ble_eq_true rfl⟩, fun _ _ z => False.elim z, ?_⟩
    rintro v9 h9 ⟨rfl, r4, rfl, zr4⟩
    conv => whnf
    refine ⟨fun c5 => ?_, fun c5 => ?_⟩
    · skip
      conv => whnf
      refine ⟨_, rfl, kx, fun o6 eo => ?_⟩
      obtain rfl : o6 = some L0 := eo.symm.trans e0
      conv => whnf
      refine ⟨l0.1, rfl, _, _, _, _, _, _, c_AL_get (h := h) l0 (j_Sc.trans sc sit2 j_sf_sm) j_sm_ok (by omega) (by omega), ⟨Nat.le_of_ble_eq_true rfl, Nat.le_of_ble_eq_true rfl, Nat.le_of_ble_eq_true rfl, Nat.le_of_ble_eq_true rfl⟩, fun _ _ z => False.elim z, ?_⟩
      rintro v9 h9 ⟨rfl, g7, rfl, kg7, xg7⟩
      conv => whnf
      refine ⟨Or.inr ⟨_, rfl, kg7⟩, ?_⟩
      conv => whnf
      refine ⟨Or.inr rfl, _, rfl, kg7, ?_⟩
      conv => whnf
      refine ⟨_, rfl, kg7, fun o9 eo => ?_⟩
      obtain ⟨b10, eb10, kb10⟩ := hG.1 _ kg7
      obtain rfl : o9 = some b10 := eo.symm.trans eb10
      conv => whnf
      refine ⟨kb10, rfl, _, _, _, _, _, _, c_Motes_loseDaughters (h := h) hG (j_Sc.put (j_Sc.trans sc sit2 j_sf_sm) kg7 (show j_sm 4 5 = true from rfl)) kb10, ⟨Nat.le_of_ble_eq_true rfl, Nat.le_of_ble_eq_true rfl, Nat.le_of_ble_eq_true rfl, Nat.le_of_ble_eq_true rfl⟩, fun _ _ z => False.elim z, ?_⟩
      rintro v9 h9 ⟨it12, rfl, sit12, r11, rfl⟩
      conv => whnf
      refine ⟨_, rfl, kg7, fun o13 eo => ?_⟩
      obtain ⟨b14, eb14, kb14⟩ := hG.2.1 _ kg7
      obtain rfl : o13 = some b14 := eo.symm.trans eb14
      conv => whnf
      refine ⟨kb14, rfl, _, _, _, _, _, _, c_Motes_loseDaughters (h := h) hG sit12 kb14, ⟨Nat.le_of_ble_eq_true rfl, Nat.le_of_ble_eq_true rfl, Nat.le_of_ble_eq_true rfl, Nat.le_of_ble_eq_true rfl⟩, fun _ _ z => False.elim z, ?_⟩
      rintro v9 h9 ⟨it16, rfl, sit16, r15, rfl⟩
      conv => whnf
      exact ⟨trivial, ⟨Nat.le_of_ble_eq_true rfl, Nat.le_of_ble_eq_true rfl⟩, _, rfl, sit16, _, rfl⟩
    · skip
      conv => whnf
      exact ⟨⟨Nat.le_of_ble_eq_true rfl, Nat.le_of_ble_eq_true rfl⟩, ⟨Nat.le_of_ble_eq_true rfl, Nat.le_of_ble_eq_true rfl⟩, by decide, _, rfl, (j_Sc.trans sc sit2 j_sf_sm)⟩
  · skip
    conv => whnf
    exact ⟨⟨Nat.le_of_ble_eq_true rfl, Nat.le_of_ble_eq_true rfl⟩, ⟨Nat.le_of_ble_eq_true rfl, Nat.le_of_ble_eq_true rfl⟩, by decide, _, rfl, (j_Sc.trans sc sit2 j_sf_sm)⟩
set_option maxHeartbeats 4000000 in
set_option maxRecDepth 20000 in
theorem c_G_wash {h : j_H} {it : Nat → Nat → Int32} {x : Nat} {a : Int32} {b : Int32} (hW : j_WF h x) (sc : j_Sc j_sm h it)  : j_Ct 140 6 90 1 6 [j_r (some x), j_i a, j_i b] (j_wi h it) (fun v h' => ∃ it', h' = j_wi h it' ∧ j_Sc j_sm h it' ∧ ∃ r, v = some (j_i r)) (fun k h' => k ∈ [0, 2] ∧ ∃ it', h' = j_wi h it' ∧ j_Sc j_sm h it') := by
  refine j_intro km_140 (Nat.le_of_ble_eq_true rfl) ?_
  intro J hJ hF
  obtain ⟨kx, hG, L0, L1, L2, e0, l0, e1, l1, e2, l2, ap, pn⟩ := id hW
  have b0 := l0.2.1; have b1 := l1.2.1; have b2 := l2.2.1; have d0 := l0.2.2.1; have d1 := l1.2.2.1; have d2 := l2.2.2.1
  refine hJ [] 400 _ _ _ _ _ _ ?_
  conv => whnf
  refine ⟨kx, rfl, _, _, _, _, _, _, c_G_isGrain (h := j_wi h it) (j_WF.sc sc j_sm_ok hW) j_Sc.rf, ⟨Nat.le_of_ble_eq_true rfl, Nat.le_of_ble_eq_true rfl, Nat.le_of_ble_eq_true rfl, Nat.le_of_ble_eq_true rfl⟩, fun _ _ z => False.elim z, ?_⟩
  rintro v9 h9 ⟨it2, rfl, sit2, r1, rfl, zr1, mr1⟩
  have nr1 : r1.toInt = 0 ∨ (0 ≤ (a).toInt ∧ (a).toInt < (j_it h L0 2).toInt) := (congrArg (fun z : Int32 => r1.toInt = 0 ∨ (0 ≤ (a).toInt ∧ (a).toInt < z.toInt)) (j_Sc.at sc l0.1 rfl)).mp (mr1 _ e0)
  conv => whnf
  refine ⟨fun c3 => ?_, fun c3 => ?_⟩
  · skip
    conv => whnf
    refine ⟨rfl, _, _, _, _, _, _, c_G_isWithin, ⟨Nat.le_of_ble_eq_true rfl, Nat.le_of_ble_eq_true rfl, Nat.le_of_ble_eq_true rfl, Nat.le_of_ble_eq_true rfl⟩, fun _ _ z => False.elim z, ?_⟩
    rintro v9 h9 ⟨rfl, r4, rfl, zr4⟩
    conv => whnf
    refine ⟨fun c5 => ?_, fun c5 => ?_⟩
    · skip
      conv => whnf
      refine ⟨_, rfl, kx, fun o6 eo => ?_⟩
      obtain rfl : o6 = some L0 := eo.symm.trans e0
      conv => whnf
      refine ⟨l0.1, rfl, _, _, _, _, _, _, c_AL_get (h := h) l0 (j_Sc.trans sc sit2 j_sf_sm) j_sm_ok (by omega) (by omega), ⟨Nat.le_of_ble_eq_true rfl, Nat.le_of_ble_eq_true rfl, Nat.le_of_ble_eq_true rfl, Nat.le_of_ble_eq_true rfl⟩, fun _ _ z => False.elim z, ?_⟩
      rintro v9 h9 ⟨rfl, g7, rfl, kg7, xg7⟩
      conv => whnf
      refine ⟨Or.inr ⟨_, rfl, kg7⟩, ?_⟩
      conv => whnf
      refine ⟨Or.inr rfl, _, rfl, kg7, ?_⟩
      conv => whnf
      refine ⟨_, rfl, kg7, fun o9 eo => ?_⟩
      obtain ⟨b10, eb10, kb10⟩ := hG.1 _ kg7
      obtain rfl : o9 = some b10 := eo.symm.trans eb10
      conv => whnf
      refine ⟨kb10, rfl, _, _, _, _, _, _, c_Motes_loseMothers (h := h) hG (j_Sc.put (j_Sc.trans sc sit2 j_sf_sm) kg7 (show j_sm 4 5 = true from rfl)) kb10, ⟨Nat.le_of_ble_eq_true rfl, Nat.le_of_ble_eq_true rfl, Nat.le_of_ble_eq_true rfl, Nat.le_of_ble_eq_true rfl⟩, fun _ _ z => False.elim z, ?_⟩
      rintro v9 h9 ⟨it12, rfl, sit12, r11, rfl⟩
      conv => whnf
      refine ⟨_, rfl, kg7, fun o13 eo => ?_⟩
      obtain ⟨b14, eb14, kb14⟩ := hG.2.1 _ kg7
      obtain rfl : o13 = some b14 := eo.symm.trans eb14
      conv => whnf
      refine ⟨kb14, rfl, _, _, _, _, _, _, c_Motes_loseMothers (h := h) hG sit12 kb14, ⟨Nat.le_of_ble_eq_true rfl, Nat.le_of_ble_eq_true rfl, Nat.le_of_ble_eq_true rfl, Nat.le_of_ble_eq_true rfl⟩, fun _ _ z => False.elim z, ?_⟩
      rintro v9 h9 ⟨it16, rfl, sit16, r15, rfl⟩
      conv => whnf
      exact ⟨trivial, ⟨Nat.le_of_ble_eq_true rfl, Nat.le_of_ble_eq_true rfl⟩, _, rfl, sit16, _, rfl⟩
    · skip
      conv => whnf
      exact ⟨⟨Nat.le_of_ble_eq_true rfl, Nat.le_of_ble_eq_true rfl⟩, ⟨Nat.le_of_ble_eq_true rfl, Nat.le_of_ble_eq_true rfl⟩, by decide, _, rfl, (j_Sc.trans sc sit2 j_sf_sm)⟩
  · skip
    conv => whnf
    exact ⟨⟨Nat.le_of_ble_eq_true rfl, Nat.le_of_ble_eq_true rfl⟩, ⟨Nat.le_of_ble_eq_true rfl, Nat.le_of_ble_eq_true rfl⟩, by decide, _, rfl, (j_Sc.trans sc sit2 j_sf_sm)⟩
set_option maxHeartbeats 4000000 in
set_option maxRecDepth 20000 in
theorem c_G_passx {h : j_H} {x : Nat} {a : Int32} (hW : j_WF h x) : j_Ct 129 6 90 1 6 [j_r (some x), j_i a] h (fun v h' => (1 ≤ a.toInt ∧ a.toInt ≤ 300) ∧ (j_it h x 6 + a).toInt ≤ 3000 ∧ v = some (j_i (j_it h x 6 + a)) ∧ ∃ it', h' = j_up (j_wi h it') x 6 (j_i (j_it h x 6 + a)) ∧ j_Sc j_sm h it') (fun k h' => ((k = 0 ∧ ¬ (1 ≤ a.toInt ∧ a.toInt ≤ 300)) ∨ (k = 1 ∧ (1 ≤ a.toInt ∧ a.toInt ≤ 300) ∧ ¬ (j_it h x 6 + a).toInt ≤ 3000)) ∧ h' = h) := by
  refine j_intro km_129 (Nat.le_of_ble_eq_true rfl) ?_
  intro J hJ hF
  obtain ⟨kx, hG, L0, L1, L2, e0, l0, e1, l1, e2, l2, ap, pn⟩ := id hW
  have b0 := l0.2.1; have d0 := l0.2.2.1
  have z0 : (Int32.ofInt 0).toInt = 0 := by decide
  have z1 : (Int32.ofInt 1).toInt = 1 := by decide
  have z300 : (Int32.ofInt 300).toInt = 300 := by decide
  have z3000 : (Int32.ofInt 3000).toInt = 3000 := by decide
  refine hJ [45] 400 _ _ _ _ _ _ ?_
  conv => whnf
  refine ⟨rfl, _, _, _, _, _, _, c_within, ⟨Nat.le_of_ble_eq_true rfl, Nat.le_of_ble_eq_true rfl, Nat.le_of_ble_eq_true rfl, Nat.le_of_ble_eq_true rfl⟩, fun _ _ z => False.elim z, ?_⟩
  rintro v9 h9 ⟨e9, r1, rfl, zr1⟩
  obtain rfl : h = h9 := e9.symm
  conv => whnf
  refine ⟨fun c2 => ?_, fun c2 => ?_⟩
  · have c2 : ¬ r1.toInt = 0 := c2
    have ca : 1 ≤ a.toInt ∧ a.toInt ≤ 300 := by
      rcases zr1 with ⟨q1, q2, -⟩ | ⟨-, q⟩
      · have q1 : (Int32.ofInt 1).toInt ≤ a.toInt := q1
        have q2 : a.toInt ≤ (Int32.ofInt 300).toInt := q2
        rw [z1] at q1
        rw [z300] at q2
        exact ⟨q1, q2⟩
      · rw [q, z0] at c2; exact absurd rfl c2
    conv => whnf
    refine ⟨_, rfl, kx, fun x3 ex3 => ?_⟩
    obtain rfl : x3 = j_it h x 6 := ex3.symm
    conv => whnf
    refine ⟨fun c5 => ?_, fun c5 => ?_⟩
    · have c5 : (j_it h x 6 + a).toInt ≤ (Int32.ofInt 3000).toInt := c5
      rw [z3000] at c5
      have L45 : ∀ (m : Nat) (v6 : Int32) (it : Nat → Nat → Int32) , j_Sc j_sm h it → 0 ≤ v6.toInt → (2147483647 - v6.toInt) < (m : Int) → J 45 [some (j_r (some x)), some (j_i a), some (j_i v6), none] [] (j_wi h it) 0 0 := by
        intro m
        induction m with
        | zero => intro v6 it sc hn hm; exact absurd hm (by have := j_ub v6; omega)
        | succ m ih45 =>
          intro v6 it sc hn hm
          have uv6 := j_ub v6; have lv6 := j_lb v6
          refine hJ [45] 400 _ _ _ _ _ _ ?_
          conv => whnf
          refine ⟨_, rfl, kx, fun o7 eo => ?_⟩
          obtain rfl : o7 = some L0 := eo.symm.trans e0
          conv => whnf
          refine ⟨l0.1, rfl, _, _, _, _, _, _, c_AL_size (h := h) l0 sc j_sm_ok, ⟨Nat.le_of_ble_eq_true rfl, Nat.le_of_ble_eq_true rfl, Nat.le_of_ble_eq_true rfl, Nat.le_of_ble_eq_true rfl⟩, fun _ _ z => False.elim z, ?_⟩
          rintro v9 h9 ⟨rfl, rfl⟩
          conv => whnf
          refine ⟨fun c8 => ?_, fun c8 => ?_⟩
          · skip
            conv => whnf
            refine ⟨_, rfl, kx, fun x9 ex9 => ?_⟩
            obtain rfl : x9 = j_it h x 6 := ex9.symm.trans (sc.at kx rfl)
            conv => whnf
            refine ⟨_, rfl, kx, ?_⟩
            conv => whnf
            refine ⟨_, rfl, kx, fun x11 ex11 => ?_⟩
            obtain rfl : x11 = j_it h x 6 + a := ex11.symm.trans (show j_u it x 6 (j_it h x 6 + a) x 6 = j_it h x 6 + a from j_u_at)
            conv => whnf
            exact ⟨trivial, ⟨Nat.le_of_ble_eq_true rfl, Nat.le_of_ble_eq_true rfl⟩, ca, c5, rfl, it, rfl, sc⟩
          · skip
            conv => whnf
            refine ⟨_, rfl, kx, fun o12 eo => ?_⟩
            obtain rfl : o12 = some L0 := eo.symm.trans e0
            conv => whnf
            refine ⟨l0.1, rfl, _, _, _, _, _, _, c_AL_get (h := h) l0 sc j_sm_ok (by omega) (by omega), ⟨Nat.le_of_ble_eq_true rfl, Nat.le_of_ble_eq_true rfl, Nat.le_of_ble_eq_true rfl, Nat.le_of_ble_eq_true rfl⟩, fun _ _ z => False.elim z, ?_⟩
            rintro v9 h9 ⟨rfl, g13, rfl, kg13, xg13⟩
            conv => whnf
            refine ⟨Or.inr ⟨_, rfl, kg13⟩, ?_⟩
            conv => whnf
            refine ⟨_, rfl, kg13, fun o14 eo => ?_⟩
            obtain ⟨b15, eb15, kb15⟩ := hG.1 _ kg13
            obtain rfl : o14 = some b15 := eo.symm.trans eb15
            conv => whnf
            refine ⟨_, rfl, kx, fun x16 ex16 => ?_⟩
            conv => whnf
            refine ⟨kb15, rfl, _, _, _, _, _, _, c_Motes_turnFor (h := h) hG sc kb15, ⟨Nat.le_of_ble_eq_true rfl, Nat.le_of_ble_eq_true rfl, Nat.le_of_ble_eq_true rfl, Nat.le_of_ble_eq_true rfl⟩, fun _ _ z => False.elim z, ?_⟩
            rintro v9 h9 ⟨it18, rfl, sit18, rfl⟩
            conv => whnf
            refine ⟨_, rfl, kg13, fun o19 eo => ?_⟩
            obtain ⟨b20, eb20, kb20⟩ := hG.2.1 _ kg13
            obtain rfl : o19 = some b20 := eo.symm.trans eb20
            conv => whnf
            refine ⟨_, rfl, kx, fun x21 ex21 => ?_⟩
            conv => whnf
            refine ⟨kb20, rfl, _, _, _, _, _, _, c_Motes_turnFor (h := h) hG sit18 kb20, ⟨Nat.le_of_ble_eq_true rfl, Nat.le_of_ble_eq_true rfl, Nat.le_of_ble_eq_true rfl, Nat.le_of_ble_eq_true rfl⟩, fun _ _ z => False.elim z, ?_⟩
            rintro v9 h9 ⟨it23, rfl, sit23, rfl⟩
            have t24 : (v6 + Int32.ofInt 1).toInt = v6.toInt + 1 := j_inc1 (by omega)
            exact j_use hF (ih45 _ _ sit23 (by omega) (by omega)) (And.intro rfl (And.intro rfl (And.intro rfl trivial)))
      exact j_use hF (L45 4294967296 _ (j_it h) j_Sc.rf (by omega) (by omega)) (And.intro rfl (And.intro rfl (And.intro rfl trivial)))
    · have c5 : ¬ (j_it h x 6 + a).toInt ≤ (Int32.ofInt 3000).toInt := c5
      rw [z3000] at c5
      conv => whnf
      exact ⟨⟨Nat.le_of_ble_eq_true rfl, Nat.le_of_ble_eq_true rfl⟩, ⟨Nat.le_of_ble_eq_true rfl, Nat.le_of_ble_eq_true rfl⟩, Or.inr ⟨rfl, ca, c5⟩, rfl⟩
  · have c2 : ¬ ¬ r1.toInt = 0 := c2
    have ca : ¬ (1 ≤ a.toInt ∧ a.toInt ≤ 300) := by
      rcases zr1 with ⟨-, -, q⟩ | ⟨q, -⟩
      · rw [q, z1] at c2; exact absurd (by decide) c2
      · intro z
        refine q ⟨?_, ?_⟩
        · show (Int32.ofInt 1).toInt ≤ _; rw [z1]; exact z.1
        · show _ ≤ (Int32.ofInt 300).toInt; rw [z300]; exact z.2
    conv => whnf
    exact ⟨⟨Nat.le_of_ble_eq_true rfl, Nat.le_of_ble_eq_true rfl⟩, ⟨Nat.le_of_ble_eq_true rfl, Nat.le_of_ble_eq_true rfl⟩, Or.inl ⟨rfl, ca⟩, rfl⟩
/-- what pace answers, and leaves -/
def j_pacP (h : j_H) (x : Nat) (a b : Int32) (v : Option j_V) (h' : j_H) : Prop := (a.toInt = 0 ∨ a.toInt = 1) ∧ (2 ≤ b.toInt ∧ b.toInt ≤ 200) ∧ ((a.toInt = 0 ∧ v = some (j_i (j_it h x 3)) ∧ ∃ it', h' = j_wi (j_up h x 3 (j_i b)) it' ∧ j_Sc j_sm (j_up h x 3 (j_i b)) it') ∨ (a.toInt ≠ 0 ∧ v = some (j_i (j_it h x 4)) ∧ ∃ it', h' = j_wi (j_up h x 4 (j_i b)) it' ∧ j_Sc j_sm (j_up h x 4 (j_i b)) it'))
set_option maxHeartbeats 4000000 in
set_option maxRecDepth 20000 in
theorem c_G_pacex {h : j_H} {x : Nat} {a : Int32} {b : Int32} (hW : j_WF h x) : j_Ct 127 6 90 1 6 [j_r (some x), j_i a, j_i b] h (j_pacP h x a b) (fun k h' => ((k = 2 ∧ ¬ (a.toInt = 0 ∨ a.toInt = 1)) ∨ (k = 0 ∧ (a.toInt = 0 ∨ a.toInt = 1) ∧ ¬ (2 ≤ b.toInt ∧ b.toInt ≤ 200))) ∧ h' = h) := by
  refine j_intro km_127 (Nat.le_of_ble_eq_true rfl) ?_
  intro J hJ hF
  have kx := hW.1
  have z0 : (Int32.ofInt 0).toInt = 0 := by decide
  have z1 : (Int32.ofInt 1).toInt = 1 := by decide
  have y2 : (Int32.ofInt 2).toInt = 2 := by decide
  have y200 : (Int32.ofInt 200).toInt = 200 := by decide
  have LP : ∀ (hB : j_H) (r5 : Int32), j_WF hB x → (∀ it, j_Sc j_sm hB it → j_pacP h x a b (some (j_i r5)) (j_wi hB it)) → J 64 [some (j_r (some x)), some (j_i a), some (j_i b), some (j_i r5), some (j_i (Int32.ofInt 0)), none] [] hB 0 0 := by
    intro hB r5 hWB post
    obtain ⟨kx, hG, L0, L1, L2, e0, l0, e1, l1, e2, l2, ap, pn⟩ := id hWB
    have b1 := l1.2.1; have d1 := l1.2.2.1
    have L64 : ∀ (m : Nat) (v8 : Int32) (it : Nat → Nat → Int32) , j_Sc j_sm hB it → 0 ≤ v8.toInt → (2147483647 - v8.toInt) < (m : Int) → J 64 [some (j_r (some x)), some (j_i a), some (j_i b), some (j_i r5), some (j_i v8), none] [] (j_wi hB it) 0 0 := by
      intro m
      induction m with
      | zero => intro v8 it sc hn hm; exact absurd hm (by have := j_ub v8; omega)
      | succ m ih64 =>
        intro v8 it sc hn hm
        have uv8 := j_ub v8; have lv8 := j_lb v8
        refine hJ [64] 400 _ _ _ _ _ _ ?_
        conv => whnf
        refine ⟨_, rfl, kx, fun o9 eo => ?_⟩
        obtain rfl : o9 = some L1 := eo.symm.trans e1
        conv => whnf
        refine ⟨l1.1, rfl, _, _, _, _, _, _, c_AL_size (h := hB) l1 sc j_sm_ok, ⟨Nat.le_of_ble_eq_true rfl, Nat.le_of_ble_eq_true rfl, Nat.le_of_ble_eq_true rfl, Nat.le_of_ble_eq_true rfl⟩, fun _ _ z => False.elim z, ?_⟩
        rintro v9 h9 ⟨rfl, rfl⟩
        conv => whnf
        refine ⟨fun c10 => ?_, fun c10 => ?_⟩
        · skip
          conv => whnf
          exact ⟨trivial, ⟨Nat.le_of_ble_eq_true rfl, Nat.le_of_ble_eq_true rfl⟩, post it sc⟩
        · skip
          conv => whnf
          refine ⟨_, rfl, kx, fun o11 eo => ?_⟩
          obtain rfl : o11 = some L1 := eo.symm.trans e1
          conv => whnf
          refine ⟨l1.1, rfl, _, _, _, _, _, _, c_AL_get (h := hB) l1 sc j_sm_ok (by omega) (by omega), ⟨Nat.le_of_ble_eq_true rfl, Nat.le_of_ble_eq_true rfl, Nat.le_of_ble_eq_true rfl, Nat.le_of_ble_eq_true rfl⟩, fun _ _ z => False.elim z, ?_⟩
          rintro v9 h9 ⟨rfl, g12, rfl, kg12, xg12⟩
          conv => whnf
          refine ⟨Or.inr ⟨_, rfl, kg12⟩, ?_⟩
          conv => whnf
          refine ⟨_, rfl, kg12, fun x13 ex13 => ?_⟩
          have b14 := j_ub a
          have b15 := j_ub x13
          conv => whnf
          refine ⟨fun c16 => ?_, fun c16 => ?_⟩
          · skip
            have t17 : (v8 + Int32.ofInt 1).toInt = v8.toInt + 1 := j_inc1 (by omega)
            exact j_use hF (ih64 _ _ sc (by omega) (by omega)) (And.intro rfl (And.intro rfl (And.intro rfl (And.intro rfl (And.intro rfl trivial)))))
          · skip
            conv => whnf
            refine ⟨kg12, rfl, _, _, _, _, _, _, c_Run_dateBy (h := hB) hG sc kg12, ⟨Nat.le_of_ble_eq_true rfl, Nat.le_of_ble_eq_true rfl, Nat.le_of_ble_eq_true rfl, Nat.le_of_ble_eq_true rfl⟩, fun _ _ z => False.elim z, ?_⟩
            rintro v9 h9 ⟨it19, rfl, sit19, rfl⟩
            have t20 : (v8 + Int32.ofInt 1).toInt = v8.toInt + 1 := j_inc1 (by omega)
            exact j_use hF (ih64 _ _ sit19 (by omega) (by omega)) (And.intro rfl (And.intro rfl (And.intro rfl (And.intro rfl (And.intro rfl trivial)))))
    exact L64 4294967296 _ (j_it hB) j_Sc.rf (by omega) (by omega)
  have w3 : j_WF (j_up h x 3 (j_i b)) x := by
    have s : j_Sc (fun c k => Nat.beq c 8 && Nat.beq k 3) h (j_u (j_it h) x 3 b) := j_Sc.rf.put hW.1 rfl
    exact hW.sc s ⟨fun _ => rfl, rfl⟩
  have w4 : j_WF (j_up h x 4 (j_i b)) x := by
    have s : j_Sc (fun c k => Nat.beq c 8 && Nat.beq k 4) h (j_u (j_it h) x 4 b) := j_Sc.rf.put hW.1 rfl
    exact hW.sc s ⟨fun _ => rfl, rfl⟩
  refine hJ [64] 400 _ _ _ _ _ _ ?_
  conv => whnf
  refine ⟨rfl, _, _, _, _, _, _, c_isClockx, ⟨Nat.le_of_ble_eq_true rfl, Nat.le_of_ble_eq_true rfl, Nat.le_of_ble_eq_true rfl, Nat.le_of_ble_eq_true rfl⟩, fun _ _ z => False.elim z, ?_⟩
  rintro v9 h9 ⟨e9, r1, rfl, zr1⟩
  obtain rfl : h9 = h := e9
  conv => whnf
  refine ⟨fun c2 => ?_, fun c2 => ?_⟩
  · have c2 : ¬ r1.toInt = 0 := c2
    have ca : a.toInt = 0 ∨ a.toInt = 1 := by
      rcases zr1 with ⟨q, -⟩ | ⟨-, q⟩
      · exact q
      · rw [q, z0] at c2; exact absurd rfl c2
    conv => whnf
    refine ⟨rfl, _, _, _, _, _, _, c_within, ⟨Nat.le_of_ble_eq_true rfl, Nat.le_of_ble_eq_true rfl, Nat.le_of_ble_eq_true rfl, Nat.le_of_ble_eq_true rfl⟩, fun _ _ z => False.elim z, ?_⟩
    rintro v8 h8 ⟨e8, r3, rfl, zr3⟩
    obtain rfl : h8 = h9 := e8
    conv => whnf
    refine ⟨fun c4 => ?_, fun c4 => ?_⟩
    · have c4 : ¬ r3.toInt = 0 := c4
      have cb : 2 ≤ b.toInt ∧ b.toInt ≤ 200 := by
        rcases zr3 with ⟨q1, q2, -⟩ | ⟨-, q⟩
        · have q1 : (Int32.ofInt 2).toInt ≤ b.toInt := q1
          have q2 : b.toInt ≤ (Int32.ofInt 200).toInt := q2
          rw [y2] at q1
          rw [y200] at q2
          exact ⟨q1, q2⟩
        · rw [q, z0] at c4; exact absurd rfl c4
      conv => whnf
      refine ⟨kx, rfl, _, _, _, _, _, _, c_paceOfx kx, ⟨Nat.le_of_ble_eq_true rfl, Nat.le_of_ble_eq_true rfl, Nat.le_of_ble_eq_true rfl, Nat.le_of_ble_eq_true rfl⟩, fun _ _ z => False.elim z, ?_⟩
      rintro v7 h7 ⟨e7, zr5⟩
      obtain rfl : h7 = h8 := e7
      rcases zr5 with ⟨a0, rfl⟩ | ⟨a0, rfl⟩
      · conv => whnf
        refine ⟨fun c6 => absurd a0 c6, fun c6 => ?_⟩
        conv => whnf
        refine ⟨_, rfl, kx, ?_⟩
        exact j_use hF (LP _ _ w3 (fun it s => ⟨ca, cb, Or.inl ⟨a0, rfl, it, rfl, s⟩⟩)) (And.intro rfl (And.intro rfl (And.intro rfl (And.intro rfl (And.intro rfl trivial)))))
      · conv => whnf
        refine ⟨fun c6 => ?_, fun c6 => absurd a0 c6⟩
        conv => whnf
        refine ⟨_, rfl, kx, ?_⟩
        exact j_use hF (LP _ _ w4 (fun it s => ⟨ca, cb, Or.inr ⟨a0, rfl, it, rfl, s⟩⟩)) (And.intro rfl (And.intro rfl (And.intro rfl (And.intro rfl (And.intro rfl trivial)))))
    · have c4 : ¬ ¬ r3.toInt = 0 := c4
      have cb : ¬ (2 ≤ b.toInt ∧ b.toInt ≤ 200) := by
        rcases zr3 with ⟨-, -, q⟩ | ⟨q, -⟩
        · rw [q, z1] at c4; exact absurd (by decide) c4
        · intro z
          refine q ⟨?_, ?_⟩
          · show (Int32.ofInt 2).toInt ≤ _; rw [y2]; exact z.1
          · show _ ≤ (Int32.ofInt 200).toInt; rw [y200]; exact z.2
      conv => whnf
      exact ⟨⟨Nat.le_of_ble_eq_true rfl, Nat.le_of_ble_eq_true rfl⟩, ⟨Nat.le_of_ble_eq_true rfl, Nat.le_of_ble_eq_true rfl⟩, Or.inr ⟨rfl, ca, cb⟩, rfl⟩
  · have c2 : ¬ ¬ r1.toInt = 0 := c2
    have ca : ¬ (a.toInt = 0 ∨ a.toInt = 1) := by
      rcases zr1 with ⟨-, q⟩ | ⟨q, -⟩
      · rw [q, z1] at c2; exact absurd (by decide) c2
      · exact q
    conv => whnf
    exact ⟨⟨Nat.le_of_ble_eq_true rfl, Nat.le_of_ble_eq_true rfl⟩, ⟨Nat.le_of_ble_eq_true rfl, Nat.le_of_ble_eq_true rfl⟩, Or.inl ⟨rfl, ca⟩, rfl⟩
set_option maxHeartbeats 4000000 in
set_option maxRecDepth 20000 in
theorem c_G_span {h : j_H} {it : Nat → Nat → Int32} {x : Nat} {a : Int32} {b : Int32} {c : Int32} (hW : j_WF h x) (sc : j_Sc j_sm h it)  : j_Ct 137 6 90 1 6 [j_r (some x), j_i a, j_i b, j_i c] (j_wi h it) (fun v h' => ∃ it', h' = j_wi h it' ∧ j_Sc j_sm h it' ∧ ∃ r, v = some (j_i r)) (fun k h' => k ∈ [0, 2] ∧ ∃ it', h' = j_wi h it' ∧ j_Sc j_sm h it') := by
  refine j_intro km_137 (Nat.le_of_ble_eq_true rfl) ?_
  intro J hJ hF
  obtain ⟨kx, hG, L0, L1, L2, e0, l0, e1, l1, e2, l2, ap, pn⟩ := id hW
  have b0 := l0.2.1; have b1 := l1.2.1; have b2 := l2.2.1; have d0 := l0.2.2.1; have d1 := l1.2.2.1; have d2 := l2.2.2.1
  refine hJ [] 400 _ _ _ _ _ _ ?_
  conv => whnf
  refine ⟨kx, rfl, _, _, _, _, _, _, c_G_isGrain (h := j_wi h it) (j_WF.sc sc j_sm_ok hW) j_Sc.rf, ⟨Nat.le_of_ble_eq_true rfl, Nat.le_of_ble_eq_true rfl, Nat.le_of_ble_eq_true rfl, Nat.le_of_ble_eq_true rfl⟩, fun _ _ z => False.elim z, ?_⟩
  rintro v9 h9 ⟨it2, rfl, sit2, r1, rfl, zr1, mr1⟩
  have nr1 : r1.toInt = 0 ∨ (0 ≤ (a).toInt ∧ (a).toInt < (j_it h L0 2).toInt) := (congrArg (fun z : Int32 => r1.toInt = 0 ∨ (0 ≤ (a).toInt ∧ (a).toInt < z.toInt)) (j_Sc.at sc l0.1 rfl)).mp (mr1 _ e0)
  conv => whnf
  refine ⟨fun c3 => ?_, fun c3 => ?_⟩
  · skip
    conv => whnf
    exact ⟨⟨Nat.le_of_ble_eq_true rfl, Nat.le_of_ble_eq_true rfl⟩, ⟨Nat.le_of_ble_eq_true rfl, Nat.le_of_ble_eq_true rfl⟩, by decide, _, rfl, (j_Sc.trans sc sit2 j_sf_sm)⟩
  · skip
    have q4 : ((Int32.ofInt (-1))).toInt = -1 := by decide
    have b5 := j_ub b
    conv => whnf
    refine ⟨fun c6 => ?_, fun c6 => ?_⟩
    · skip
      conv => whnf
      refine ⟨rfl, _, _, _, _, _, _, c_G_isWithin, ⟨Nat.le_of_ble_eq_true rfl, Nat.le_of_ble_eq_true rfl, Nat.le_of_ble_eq_true rfl, Nat.le_of_ble_eq_true rfl⟩, fun _ _ z => False.elim z, ?_⟩
      rintro v9 h9 ⟨rfl, r7, rfl, zr7⟩
      conv => whnf
      refine ⟨fun c8 => ?_, fun c8 => ?_⟩
      · skip
        conv => whnf
        refine ⟨_, rfl, kx, fun o9 eo => ?_⟩
        obtain rfl : o9 = some L0 := eo.symm.trans e0
        conv => whnf
        refine ⟨l0.1, rfl, _, _, _, _, _, _, c_AL_get (h := h) l0 (j_Sc.trans sc sit2 j_sf_sm) j_sm_ok (by omega) (by omega), ⟨Nat.le_of_ble_eq_true rfl, Nat.le_of_ble_eq_true rfl, Nat.le_of_ble_eq_true rfl, Nat.le_of_ble_eq_true rfl⟩, fun _ _ z => False.elim z, ?_⟩
        rintro v9 h9 ⟨rfl, g10, rfl, kg10, xg10⟩
        conv => whnf
        refine ⟨Or.inr ⟨_, rfl, kg10⟩, ?_⟩
        conv => whnf
        refine ⟨kx, rfl, _, _, _, _, _, _, c_G_earlyOf (h := j_wi h it2) (j_WF.sc (j_Sc.trans sc sit2 j_sf_sm) j_sm_ok hW) j_Sc.rf kg10, ⟨Nat.le_of_ble_eq_true rfl, Nat.le_of_ble_eq_true rfl, Nat.le_of_ble_eq_true rfl, Nat.le_of_ble_eq_true rfl⟩, fun _ _ z => False.elim z, ?_⟩
        rintro v9 h9 ⟨it12, rfl, sit12, r11, rfl⟩
        conv => whnf
        refine ⟨kx, rfl, _, _, _, _, _, _, c_G_lateOf (h := j_wi h it12) (j_WF.sc (j_Sc.trans (j_Sc.trans sc sit2 j_sf_sm) sit12 j_sf_sm) j_sm_ok hW) j_Sc.rf kg10, ⟨Nat.le_of_ble_eq_true rfl, Nat.le_of_ble_eq_true rfl, Nat.le_of_ble_eq_true rfl, Nat.le_of_ble_eq_true rfl⟩, fun _ _ z => False.elim z, ?_⟩
        rintro v9 h9 ⟨it14, rfl, sit14, r13, rfl⟩
        conv => whnf
        refine ⟨fun c15 => ?_, fun c15 => ?_⟩
        · skip
          have q16 : ((Int32.ofInt (1))).toInt = 1 := by decide
          have b17 := j_ub c
          conv => whnf
          refine ⟨fun c18 => ?_, fun c18 => ?_⟩
          · skip
            have b19 := j_ub r13
            have b20 := j_ub r11
            conv => whnf
            refine ⟨fun c21 => ?_, fun c21 => ?_⟩
            · skip
              conv => whnf
              refine ⟨rfl, _, _, _, _, _, _, c_G_oneIf, ⟨Nat.le_of_ble_eq_true rfl, Nat.le_of_ble_eq_true rfl, Nat.le_of_ble_eq_true rfl, Nat.le_of_ble_eq_true rfl⟩, fun _ _ z => False.elim z, ?_⟩
              rintro v9 h9 ⟨rfl, r22, rfl⟩
              conv => whnf
              exact ⟨trivial, ⟨Nat.le_of_ble_eq_true rfl, Nat.le_of_ble_eq_true rfl⟩, _, rfl, (j_Sc.trans (j_Sc.trans (j_Sc.trans sc sit2 j_sf_sm) sit12 j_sf_sm) sit14 j_sf_sm), _, rfl⟩
            · skip
              conv => whnf
              refine ⟨rfl, _, _, _, _, _, _, c_G_oneIf, ⟨Nat.le_of_ble_eq_true rfl, Nat.le_of_ble_eq_true rfl, Nat.le_of_ble_eq_true rfl, Nat.le_of_ble_eq_true rfl⟩, fun _ _ z => False.elim z, ?_⟩
              rintro v9 h9 ⟨rfl, r23, rfl⟩
              conv => whnf
              exact ⟨trivial, ⟨Nat.le_of_ble_eq_true rfl, Nat.le_of_ble_eq_true rfl⟩, _, rfl, (j_Sc.trans (j_Sc.trans (j_Sc.trans sc sit2 j_sf_sm) sit12 j_sf_sm) sit14 j_sf_sm), _, rfl⟩
          · skip
            conv => whnf
            exact ⟨trivial, ⟨Nat.le_of_ble_eq_true rfl, Nat.le_of_ble_eq_true rfl⟩, _, rfl, (j_Sc.trans (j_Sc.trans (j_Sc.trans sc sit2 j_sf_sm) sit12 j_sf_sm) sit14 j_sf_sm), _, rfl⟩
        · skip
          conv => whnf
          exact ⟨trivial, ⟨Nat.le_of_ble_eq_true rfl, Nat.le_of_ble_eq_true rfl⟩, _, rfl, (j_Sc.trans (j_Sc.trans (j_Sc.trans sc sit2 j_sf_sm) sit12 j_sf_sm) sit14 j_sf_sm), _, rfl⟩
      · skip
        conv => whnf
        exact ⟨⟨Nat.le_of_ble_eq_true rfl, Nat.le_of_ble_eq_true rfl⟩, ⟨Nat.le_of_ble_eq_true rfl, Nat.le_of_ble_eq_true rfl⟩, by decide, _, rfl, (j_Sc.trans sc sit2 j_sf_sm)⟩
    · skip
      conv => whnf
      refine ⟨rfl, _, _, _, _, _, _, c_G_isClock, ⟨Nat.le_of_ble_eq_true rfl, Nat.le_of_ble_eq_true rfl, Nat.le_of_ble_eq_true rfl, Nat.le_of_ble_eq_true rfl⟩, fun _ _ z => False.elim z, ?_⟩
      rintro v9 h9 ⟨rfl, r24, rfl, zr24⟩
      conv => whnf
      refine ⟨fun c25 => ?_, fun c25 => ?_⟩
      · skip
        conv => whnf
        refine ⟨rfl, _, _, _, _, _, _, c_G_isWithin, ⟨Nat.le_of_ble_eq_true rfl, Nat.le_of_ble_eq_true rfl, Nat.le_of_ble_eq_true rfl, Nat.le_of_ble_eq_true rfl⟩, fun _ _ z => False.elim z, ?_⟩
        rintro v9 h9 ⟨rfl, r26, rfl, zr26⟩
        conv => whnf
        refine ⟨fun c27 => ?_, fun c27 => ?_⟩
        · skip
          conv => whnf
          refine ⟨_, rfl, kx, fun o28 eo => ?_⟩
          obtain rfl : o28 = some L0 := eo.symm.trans e0
          conv => whnf
          refine ⟨l0.1, rfl, _, _, _, _, _, _, c_AL_get (h := h) l0 (j_Sc.trans sc sit2 j_sf_sm) j_sm_ok (by omega) (by omega), ⟨Nat.le_of_ble_eq_true rfl, Nat.le_of_ble_eq_true rfl, Nat.le_of_ble_eq_true rfl, Nat.le_of_ble_eq_true rfl⟩, fun _ _ z => False.elim z, ?_⟩
          rintro v9 h9 ⟨rfl, g29, rfl, kg29, xg29⟩
          conv => whnf
          refine ⟨Or.inr ⟨_, rfl, kg29⟩, ?_⟩
          conv => whnf
          refine ⟨kx, rfl, _, _, _, _, _, _, c_G_earlyOf (h := j_wi h it2) (j_WF.sc (j_Sc.trans sc sit2 j_sf_sm) j_sm_ok hW) j_Sc.rf kg29, ⟨Nat.le_of_ble_eq_true rfl, Nat.le_of_ble_eq_true rfl, Nat.le_of_ble_eq_true rfl, Nat.le_of_ble_eq_true rfl⟩, fun _ _ z => False.elim z, ?_⟩
          rintro v9 h9 ⟨it31, rfl, sit31, r30, rfl⟩
          conv => whnf
          refine ⟨kx, rfl, _, _, _, _, _, _, c_G_lateOf (h := j_wi h it31) (j_WF.sc (j_Sc.trans (j_Sc.trans sc sit2 j_sf_sm) sit31 j_sf_sm) j_sm_ok hW) j_Sc.rf kg29, ⟨Nat.le_of_ble_eq_true rfl, Nat.le_of_ble_eq_true rfl, Nat.le_of_ble_eq_true rfl, Nat.le_of_ble_eq_true rfl⟩, fun _ _ z => False.elim z, ?_⟩
          rintro v9 h9 ⟨it33, rfl, sit33, r32, rfl⟩
          conv => whnf
          refine ⟨fun c34 => ?_, fun c34 => ?_⟩
          · skip
            have q35 : ((Int32.ofInt (1))).toInt = 1 := by decide
            have b36 := j_ub c
            conv => whnf
            refine ⟨fun c37 => ?_, fun c37 => ?_⟩
            · skip
              have b38 := j_ub r32
              have b39 := j_ub r30
              conv => whnf
              refine ⟨fun c40 => ?_, fun c40 => ?_⟩
              · skip
                conv => whnf
                refine ⟨rfl, _, _, _, _, _, _, c_G_oneIf, ⟨Nat.le_of_ble_eq_true rfl, Nat.le_of_ble_eq_true rfl, Nat.le_of_ble_eq_true rfl, Nat.le_of_ble_eq_true rfl⟩, fun _ _ z => False.elim z, ?_⟩
                rintro v9 h9 ⟨rfl, r41, rfl⟩
                conv => whnf
                exact ⟨trivial, ⟨Nat.le_of_ble_eq_true rfl, Nat.le_of_ble_eq_true rfl⟩, _, rfl, (j_Sc.trans (j_Sc.trans (j_Sc.trans sc sit2 j_sf_sm) sit31 j_sf_sm) sit33 j_sf_sm), _, rfl⟩
              · skip
                conv => whnf
                refine ⟨rfl, _, _, _, _, _, _, c_G_oneIf, ⟨Nat.le_of_ble_eq_true rfl, Nat.le_of_ble_eq_true rfl, Nat.le_of_ble_eq_true rfl, Nat.le_of_ble_eq_true rfl⟩, fun _ _ z => False.elim z, ?_⟩
                rintro v9 h9 ⟨rfl, r42, rfl⟩
                conv => whnf
                exact ⟨trivial, ⟨Nat.le_of_ble_eq_true rfl, Nat.le_of_ble_eq_true rfl⟩, _, rfl, (j_Sc.trans (j_Sc.trans (j_Sc.trans sc sit2 j_sf_sm) sit31 j_sf_sm) sit33 j_sf_sm), _, rfl⟩
            · skip
              conv => whnf
              exact ⟨trivial, ⟨Nat.le_of_ble_eq_true rfl, Nat.le_of_ble_eq_true rfl⟩, _, rfl, (j_Sc.trans (j_Sc.trans (j_Sc.trans sc sit2 j_sf_sm) sit31 j_sf_sm) sit33 j_sf_sm), _, rfl⟩
          · skip
            conv => whnf
            exact ⟨trivial, ⟨Nat.le_of_ble_eq_true rfl, Nat.le_of_ble_eq_true rfl⟩, _, rfl, (j_Sc.trans (j_Sc.trans (j_Sc.trans sc sit2 j_sf_sm) sit31 j_sf_sm) sit33 j_sf_sm), _, rfl⟩
        · skip
          conv => whnf
          exact ⟨⟨Nat.le_of_ble_eq_true rfl, Nat.le_of_ble_eq_true rfl⟩, ⟨Nat.le_of_ble_eq_true rfl, Nat.le_of_ble_eq_true rfl⟩, by decide, _, rfl, (j_Sc.trans sc sit2 j_sf_sm)⟩
      · skip
        conv => whnf
        exact ⟨⟨Nat.le_of_ble_eq_true rfl, Nat.le_of_ble_eq_true rfl⟩, ⟨Nat.le_of_ble_eq_true rfl, Nat.le_of_ble_eq_true rfl⟩, by decide, _, rfl, (j_Sc.trans sc sit2 j_sf_sm)⟩
set_option maxHeartbeats 4000000 in
set_option maxRecDepth 20000 in
theorem c_G_wider {h : j_H} {it : Nat → Nat → Int32} {x : Nat} {a : Int32} {b : Int32} (hW : j_WF h x) (sc : j_Sc j_sm h it)  : j_Ct 141 6 90 1 6 [j_r (some x), j_i a, j_i b] (j_wi h it) (fun v h' => ∃ it', h' = j_wi h it' ∧ j_Sc j_sm h it' ∧ ∃ r, v = some (j_i r)) (fun k h' => k ∈ [1, 2] ∧ ∃ it', h' = j_wi h it' ∧ j_Sc j_sm h it') := by
  refine j_intro km_141 (Nat.le_of_ble_eq_true rfl) ?_
  intro J hJ hF
  obtain ⟨kx, hG, L0, L1, L2, e0, l0, e1, l1, e2, l2, ap, pn⟩ := id hW
  have b0 := l0.2.1; have b1 := l1.2.1; have b2 := l2.2.1; have d0 := l0.2.2.1; have d1 := l1.2.2.1; have d2 := l2.2.2.1
  refine hJ [] 400 _ _ _ _ _ _ ?_
  conv => whnf
  refine ⟨kx, rfl, _, _, _, _, _, _, c_G_isGrain (h := j_wi h it) (j_WF.sc sc j_sm_ok hW) j_Sc.rf, ⟨Nat.le_of_ble_eq_true rfl, Nat.le_of_ble_eq_true rfl, Nat.le_of_ble_eq_true rfl, Nat.le_of_ble_eq_true rfl⟩, fun _ _ z => False.elim z, ?_⟩
  rintro v9 h9 ⟨it2, rfl, sit2, r1, rfl, zr1, mr1⟩
  have nr1 : r1.toInt = 0 ∨ (0 ≤ (a).toInt ∧ (a).toInt < (j_it h L0 2).toInt) := (congrArg (fun z : Int32 => r1.toInt = 0 ∨ (0 ≤ (a).toInt ∧ (a).toInt < z.toInt)) (j_Sc.at sc l0.1 rfl)).mp (mr1 _ e0)
  conv => whnf
  refine ⟨fun c3 => ?_, fun c3 => ?_⟩
  · skip
    conv => whnf
    exact ⟨⟨Nat.le_of_ble_eq_true rfl, Nat.le_of_ble_eq_true rfl⟩, ⟨Nat.le_of_ble_eq_true rfl, Nat.le_of_ble_eq_true rfl⟩, by decide, _, rfl, (j_Sc.trans sc sit2 j_sf_sm)⟩
  · skip
    conv => whnf
    refine ⟨kx, rfl, _, _, _, _, _, _, c_G_isRun (h := j_wi h it2) (j_WF.sc (j_Sc.trans sc sit2 j_sf_sm) j_sm_ok hW) j_Sc.rf, ⟨Nat.le_of_ble_eq_true rfl, Nat.le_of_ble_eq_true rfl, Nat.le_of_ble_eq_true rfl, Nat.le_of_ble_eq_true rfl⟩, fun _ _ z => False.elim z, ?_⟩
    rintro v9 h9 ⟨it5, rfl, sit5, r4, rfl, zr4, mr4⟩
    have nr4 : r4.toInt = 0 ∨ (0 ≤ (b).toInt ∧ (b).toInt < (j_it h L1 2).toInt) := (congrArg (fun z : Int32 => r4.toInt = 0 ∨ (0 ≤ (b).toInt ∧ (b).toInt < z.toInt)) (j_Sc.at (j_Sc.trans sc sit2 j_sf_sm) l1.1 rfl)).mp (mr4 _ e1)
    conv => whnf
    refine ⟨fun c6 => ?_, fun c6 => ?_⟩
    · skip
      conv => whnf
      refine ⟨_, rfl, kx, fun o7 eo => ?_⟩
      obtain rfl : o7 = some L1 := eo.symm.trans e1
      conv => whnf
      refine ⟨l1.1, rfl, _, _, _, _, _, _, c_AL_get (h := h) l1 (j_Sc.trans (j_Sc.trans sc sit2 j_sf_sm) sit5 j_sf_sm) j_sm_ok (by omega) (by omega), ⟨Nat.le_of_ble_eq_true rfl, Nat.le_of_ble_eq_true rfl, Nat.le_of_ble_eq_true rfl, Nat.le_of_ble_eq_true rfl⟩, fun _ _ z => False.elim z, ?_⟩
      rintro v9 h9 ⟨rfl, g8, rfl, kg8, xg8⟩
      conv => whnf
      refine ⟨Or.inr ⟨_, rfl, kg8⟩, ?_⟩
      conv => whnf
      refine ⟨_, rfl, kg8, fun x9 ex9 => ?_⟩
      conv => whnf
      refine ⟨fun c10 => ?_, fun c10 => ?_⟩
      · skip
        conv => whnf
        refine ⟨_, rfl, kx, fun o11 eo => ?_⟩
        obtain rfl : o11 = some L0 := eo.symm.trans e0
        conv => whnf
        refine ⟨l0.1, rfl, _, _, _, _, _, _, c_AL_get (h := h) l0 (j_Sc.trans (j_Sc.trans sc sit2 j_sf_sm) sit5 j_sf_sm) j_sm_ok (by omega) (by omega), ⟨Nat.le_of_ble_eq_true rfl, Nat.le_of_ble_eq_true rfl, Nat.le_of_ble_eq_true rfl, Nat.le_of_ble_eq_true rfl⟩, fun _ _ z => False.elim z, ?_⟩
        rintro v9 h9 ⟨rfl, g12, rfl, kg12, xg12⟩
        conv => whnf
        refine ⟨Or.inr ⟨_, rfl, kg12⟩, ?_⟩
        conv => whnf
        refine ⟨kx, rfl, _, _, _, _, _, _, c_G_lateOf (h := j_wi h it5) (j_WF.sc (j_Sc.trans (j_Sc.trans sc sit2 j_sf_sm) sit5 j_sf_sm) j_sm_ok hW) j_Sc.rf kg12, ⟨Nat.le_of_ble_eq_true rfl, Nat.le_of_ble_eq_true rfl, Nat.le_of_ble_eq_true rfl, Nat.le_of_ble_eq_true rfl⟩, fun _ _ z => False.elim z, ?_⟩
        rintro v9 h9 ⟨it14, rfl, sit14, r13, rfl⟩
        conv => whnf
        refine ⟨kx, rfl, _, _, _, _, _, _, c_G_earlyOf (h := j_wi h it14) (j_WF.sc (j_Sc.trans (j_Sc.trans (j_Sc.trans sc sit2 j_sf_sm) sit5 j_sf_sm) sit14 j_sf_sm) j_sm_ok hW) j_Sc.rf kg12, ⟨Nat.le_of_ble_eq_true rfl, Nat.le_of_ble_eq_true rfl, Nat.le_of_ble_eq_true rfl, Nat.le_of_ble_eq_true rfl⟩, fun _ _ z => False.elim z, ?_⟩
        rintro v9 h9 ⟨it16, rfl, sit16, r15, rfl⟩
        conv => whnf
        refine ⟨kx, rfl, _, _, _, _, _, _, c_G_lateOf (h := j_wi h it16) (j_WF.sc (j_Sc.trans (j_Sc.trans (j_Sc.trans (j_Sc.trans sc sit2 j_sf_sm) sit5 j_sf_sm) sit14 j_sf_sm) sit16 j_sf_sm) j_sm_ok hW) j_Sc.rf kg12, ⟨Nat.le_of_ble_eq_true rfl, Nat.le_of_ble_eq_true rfl, Nat.le_of_ble_eq_true rfl, Nat.le_of_ble_eq_true rfl⟩, fun _ _ z => False.elim z, ?_⟩
        rintro v9 h9 ⟨it18, rfl, sit18, r17, rfl⟩
        conv => whnf
        refine ⟨kx, rfl, _, _, _, _, _, _, c_G_earlyOf (h := j_wi h it18) (j_WF.sc (j_Sc.trans (j_Sc.trans (j_Sc.trans (j_Sc.trans (j_Sc.trans sc sit2 j_sf_sm) sit5 j_sf_sm) sit14 j_sf_sm) sit16 j_sf_sm) sit18 j_sf_sm) j_sm_ok hW) j_Sc.rf kg12, ⟨Nat.le_of_ble_eq_true rfl, Nat.le_of_ble_eq_true rfl, Nat.le_of_ble_eq_true rfl, Nat.le_of_ble_eq_true rfl⟩, fun _ _ z => False.elim z, ?_⟩
        rintro v9 h9 ⟨it20, rfl, sit20, r19, rfl⟩
        conv => whnf
        exact ⟨trivial, ⟨Nat.le_of_ble_eq_true rfl, Nat.le_of_ble_eq_true rfl⟩, _, rfl, (j_Sc.trans (j_Sc.trans (j_Sc.trans (j_Sc.trans (j_Sc.trans (j_Sc.trans sc sit2 j_sf_sm) sit5 j_sf_sm) sit14 j_sf_sm) sit16 j_sf_sm) sit18 j_sf_sm) sit20 j_sf_sm), _, rfl⟩
      · skip
        conv => whnf
        exact ⟨⟨Nat.le_of_ble_eq_true rfl, Nat.le_of_ble_eq_true rfl⟩, ⟨Nat.le_of_ble_eq_true rfl, Nat.le_of_ble_eq_true rfl⟩, by decide, _, rfl, (j_Sc.trans (j_Sc.trans sc sit2 j_sf_sm) sit5 j_sf_sm)⟩
    · skip
      conv => whnf
      exact ⟨⟨Nat.le_of_ble_eq_true rfl, Nat.le_of_ble_eq_true rfl⟩, ⟨Nat.le_of_ble_eq_true rfl, Nat.le_of_ble_eq_true rfl⟩, by decide, _, rfl, (j_Sc.trans (j_Sc.trans sc sit2 j_sf_sm) sit5 j_sf_sm)⟩
set_option maxHeartbeats 4000000 in
set_option maxRecDepth 20000 in
theorem c_G_withdraw {h : j_H} {it : Nat → Nat → Int32} {x : Nat} {a : Int32} (hW : j_WF h x) (sc : j_Sc j_sm h it)  : j_Ct 142 6 90 1 6 [j_r (some x), j_i a] (j_wi h it) (fun v h' => ∃ it', h' = j_wi h it' ∧ j_Sc j_sm h it' ∧ ∃ r, v = some (j_i r)) (fun k h' => k ∈ [1, 2] ∧ ∃ it', h' = j_wi h it' ∧ j_Sc j_sm h it') := by
  refine j_intro km_142 (Nat.le_of_ble_eq_true rfl) ?_
  intro J hJ hF
  obtain ⟨kx, hG, L0, L1, L2, e0, l0, e1, l1, e2, l2, ap, pn⟩ := id hW
  have b0 := l0.2.1; have b1 := l1.2.1; have b2 := l2.2.1; have d0 := l0.2.2.1; have d1 := l1.2.2.1; have d2 := l2.2.2.1
  refine hJ [] 400 _ _ _ _ _ _ ?_
  conv => whnf
  refine ⟨kx, rfl, _, _, _, _, _, _, c_G_isRun (h := j_wi h it) (j_WF.sc sc j_sm_ok hW) j_Sc.rf, ⟨Nat.le_of_ble_eq_true rfl, Nat.le_of_ble_eq_true rfl, Nat.le_of_ble_eq_true rfl, Nat.le_of_ble_eq_true rfl⟩, fun _ _ z => False.elim z, ?_⟩
  rintro v9 h9 ⟨it2, rfl, sit2, r1, rfl, zr1, mr1⟩
  have nr1 : r1.toInt = 0 ∨ (0 ≤ (a).toInt ∧ (a).toInt < (j_it h L1 2).toInt) := (congrArg (fun z : Int32 => r1.toInt = 0 ∨ (0 ≤ (a).toInt ∧ (a).toInt < z.toInt)) (j_Sc.at sc l1.1 rfl)).mp (mr1 _ e1)
  conv => whnf
  refine ⟨fun c3 => ?_, fun c3 => ?_⟩
  · skip
    conv => whnf
    refine ⟨_, rfl, kx, fun o4 eo => ?_⟩
    obtain rfl : o4 = some L1 := eo.symm.trans e1
    conv => whnf
    refine ⟨l1.1, rfl, _, _, _, _, _, _, c_AL_get (h := h) l1 (j_Sc.trans sc sit2 j_sf_sm) j_sm_ok (by omega) (by omega), ⟨Nat.le_of_ble_eq_true rfl, Nat.le_of_ble_eq_true rfl, Nat.le_of_ble_eq_true rfl, Nat.le_of_ble_eq_true rfl⟩, fun _ _ z => False.elim z, ?_⟩
    rintro v9 h9 ⟨rfl, g5, rfl, kg5, xg5⟩
    conv => whnf
    refine ⟨Or.inr ⟨_, rfl, kg5⟩, ?_⟩
    conv => whnf
    refine ⟨_, rfl, kg5, fun x6 ex6 => ?_⟩
    conv => whnf
    refine ⟨fun c7 => ?_, fun c7 => ?_⟩
    · skip
      conv => whnf
      refine ⟨kx, rfl, _, _, _, _, _, _, c_G_countPrintsThatStand (h := j_wi h it2) (j_WF.sc (j_Sc.trans sc sit2 j_sf_sm) j_sm_ok hW) j_Sc.rf, ⟨Nat.le_of_ble_eq_true rfl, Nat.le_of_ble_eq_true rfl, Nat.le_of_ble_eq_true rfl, Nat.le_of_ble_eq_true rfl⟩, fun _ _ z => False.elim z, ?_⟩
      rintro v9 h9 ⟨it9, rfl, sit9, r8, rfl⟩
      conv => whnf
      refine ⟨Or.inl rfl, _, rfl, kg5, ?_⟩
      conv => whnf
      refine ⟨kx, rfl, _, _, _, _, _, _, c_G_countPrintsThatStand (h := j_wi h (j_u it9 g5 7 _)) (j_WF.sc (j_Sc.put (j_Sc.trans (j_Sc.trans sc sit2 j_sf_sm) sit9 j_sf_sm) kg5 (show j_sm 7 7 = true from rfl)) j_sm_ok hW) j_Sc.rf, ⟨Nat.le_of_ble_eq_true rfl, Nat.le_of_ble_eq_true rfl, Nat.le_of_ble_eq_true rfl, Nat.le_of_ble_eq_true rfl⟩, fun _ _ z => False.elim z, ?_⟩
      rintro v9 h9 ⟨it12, rfl, sit12, r11, rfl⟩
      conv => whnf
      exact ⟨trivial, ⟨Nat.le_of_ble_eq_true rfl, Nat.le_of_ble_eq_true rfl⟩, _, rfl, (j_Sc.trans (j_Sc.put (j_Sc.trans (j_Sc.trans sc sit2 j_sf_sm) sit9 j_sf_sm) kg5 (show j_sm 7 7 = true from rfl)) sit12 j_sf_sm), _, rfl⟩
    · skip
      conv => whnf
      exact ⟨⟨Nat.le_of_ble_eq_true rfl, Nat.le_of_ble_eq_true rfl⟩, ⟨Nat.le_of_ble_eq_true rfl, Nat.le_of_ble_eq_true rfl⟩, by decide, _, rfl, (j_Sc.trans sc sit2 j_sf_sm)⟩
  · skip
    conv => whnf
    exact ⟨⟨Nat.le_of_ble_eq_true rfl, Nat.le_of_ble_eq_true rfl⟩, ⟨Nat.le_of_ble_eq_true rfl, Nat.le_of_ble_eq_true rfl⟩, by decide, _, rfl, (j_Sc.trans sc sit2 j_sf_sm)⟩
