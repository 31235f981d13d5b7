/-- a laboratory as it is built: n grains, at most y years, k runs -/
def y_V (h : j_H) (x n y k : Nat) : Prop := j_WF h x ∧ z_I h x ∧ y_ok (z_c h x) ∧ y_J (z_c h x) (fun _ => 0) ∧ (j_sz h x 0).toInt = (n : Int) ∧ ((z_c h x).1 6).toInt ≤ (y : Int) ∧ (j_sz h x 1).toInt ≤ (k : Int)
section YV
variable {h h' : j_H} {x n y k : Nat} {a b c : Int32}
theorem y_V.J0 {C : j_Z} (e : (C.1 0).toInt ≤ 0) {P : Nat → Int} : y_J C P := fun g i hg => by
  unfold z_lt at hg
  omega
theorem y_V.s0 (w : j_WF h x) (I : z_I h x) (e : ∀ k, k < 7 → z_cn h x k = j_s0 k) : y_V h x 0 0 0 := by
  have q : z_eq (z_c h x) z_s0 := z_start e
  have n0 : j_sz h x 0 = j_s0 0 := e 0 (by decide)
  have n1 : j_sz h x 1 = j_s0 1 := e 1 (by decide)
  have n6 : (z_c h x).1 6 = j_s0 6 := e 6 (by decide)
  have d0 : (j_s0 0).toInt = 0 := by decide
  refine ⟨w, I, y_ok.eq (A := z_s0) ⟨⟨z_V0, z_B0⟩, fun k i hk => ?_, fun k hk => ?_⟩ q, y_V.J0 (by show (j_sz h x 0).toInt ≤ 0; rw [n0]; decide), by rw [n0]; decide, by rw [n6]; decide, by rw [n1]; decide⟩
  · have hk : (k : Int) < (j_s0 0).toInt := hk
    omega
  · have hk : (k : Int) < (j_s0 0).toInt := hk
    omega
theorem y_V.pace (v : y_V h x 0 y k) (f : j_Fs x h h') (I : z_I h' x) (e : z_eq (z_c h' x) (n_pacez (z_c h x) a b)) (q : q_pace a b = 0) : y_V h' x 0 y k := by
  obtain ⟨w, I0, o, J, n0, y0, r0⟩ := v
  have pf : j_pf a = 3 ∨ j_pf a = 4 := by rcases j_pf34' a with ⟨_, q⟩ | ⟨_, q⟩ <;> omega
  have e0 : j_sz h' x 0 = j_sz h x 0 := (e.1 0 (by decide)).trans (if_neg (by omega))
  have e1 : j_sz h' x 1 = j_sz h x 1 := (e.1 1 (by decide)).trans (if_neg (by omega))
  have e6 : (z_c h' x).1 6 = (z_c h x).1 6 := (e.1 6 (by decide)).trans (if_neg (by omega))
  exact ⟨f.1, I, (o.pace q).eq e, y_V.J0 (by show (j_sz h' x 0).toInt ≤ 0; rw [e0, n0]; decide), by rw [e0]; exact n0, by rw [e6]; exact y0, by rw [e1]; exact r0⟩
theorem y_V.slip (v : y_V h x 0 y k) (f : j_Fs x h h') (I : z_I h' x) (e : z_eq (z_c h' x) (n_slipz (z_c h x) a)) (q : q_slip a = 0) : y_V h' x 0 y k := by
  obtain ⟨w, I0, o, J, n0, y0, r0⟩ := v
  have e0 : j_sz h' x 0 = j_sz h x 0 := e.1 0 (by decide)
  have e1 : j_sz h' x 1 = j_sz h x 1 := e.1 1 (by decide)
  have e6 : (z_c h' x).1 6 = (z_c h x).1 6 := e.1 6 (by decide)
  exact ⟨f.1, I, (o.slip q).eq e, y_V.J0 (by show (j_sz h' x 0).toInt ≤ 0; rw [e0, n0]; decide), by rw [e0]; exact n0, by rw [e6]; exact y0, by rw [e1]; exact r0⟩
theorem y_V.grain (v : y_V h x n y k) (hn : n < 8) (f : j_Fs x h h') (I : z_I h' x) (e : z_eq (z_c h' x) (n_grainz (z_c h x) a b c)) (q : q_grain (z_c h x).1 a b c = 0) : y_V h' x (n + 1) y k := by
  obtain ⟨w, I0, o, J, n0, y0, r0⟩ := v
  have b0 := (y_bd w).1.1
  have e0 : j_sz h' x 0 = j_sz h x 0 + Int32.ofInt 1 := e.1 0 (by decide)
  have e1 : j_sz h' x 1 = j_sz h x 1 := e.1 1 (by decide)
  have e6 : (z_c h' x).1 6 = (z_c h x).1 6 := e.1 6 (by decide)
  exact ⟨f.1, I, (o.grain b0 q).eq e, (J.grain (y_Lz I0) b0 q).eq e, by rw [e0, j_inc1 (by omega), n0]; omega, by rw [e6]; exact y0, by rw [e1]; exact r0⟩
theorem y_V.pass (v : y_V h x n y k) (f : j_Fs x h h') (I : z_I h' x) (e : z_eq (z_c h' x) (n_years (z_c h x) a)) (q : q_pass (z_c h x).1 a = 0) (ha : a.toInt ≤ 12) : y_V h' x n (y + 12) k := by
  obtain ⟨w, I0, o, J, n0, y0, r0⟩ := v
  have y6 := o.1.2.1.1
  have q1 := (j_cqz (by decide) q).1
  have e0 : j_sz h' x 0 = j_sz h x 0 := e.1 0 (by decide)
  have e1 : j_sz h' x 1 = j_sz h x 1 := e.1 1 (by decide)
  have e6 : (z_c h' x).1 6 = (z_c h x).1 6 + a := e.1 6 (by decide)
  exact ⟨f.1, I, (o.pass q).eq e, (J.pass o q).eq e, by rw [e0]; exact n0, by rw [e6, j_addI (by omega) (by omega)]; omega, by rw [e1]; exact r0⟩
theorem y_V.w (v : y_V h x n y k) (hn : 1 ≤ n) : y_W h x := ⟨v.1, v.2.1, v.2.2.1, by rw [v.2.2.2.2.1]; omega⟩
end YV
set_option maxHeartbeats 8000000 in
set_option maxRecDepth 20000 in
theorem c_y_mk {h : j_H} {s L : Nat} (ks : j_kd h s = some (.inr 10)) (ls : j_ln h s = L) (hL : L ≤ 2560) (hk : ∀ q c, j_kd h q ≠ some (.inl c)) (hz : ∃ z t, j_st h 0 = some z ∧ j_kd h z = some (.inr t) ∧ t % 10 = 2 ∧ j_ln h z = 0) : j_Ct 171 9 209 100 1000 [j_r (some s)] h (fun v h' => ∃ x, v = some (j_r (some x)) ∧ y_W h' x ∧ y_J (z_c h' x) (fun _ => 0) ∧ j_kd h' s = some (.inr 10) ∧ j_ln h' s = L) j_no := by
  refine j_intro km_171 (Nat.le_of_ble_eq_true rfl) ?_
  intro J hJ hF
  refine hJ [73, 157] 400 _ _ _ _ _ _ ?_
  conv => whnf
  refine ⟨⟨Nat.le_of_ble_eq_true rfl, Nat.le_of_ble_eq_true rfl⟩, fun x hx => ?_⟩
  show j_go _ _ _ _ _ _ _ _ _ _ (j_nw h x (.inl 8) 0) 1 7
  have o1 : j_On (fun _ => False) h (j_nw h x (.inl 8) 0) := j_On.nw hx
  have kx1 : j_kd (j_nw h x (.inl 8) 0) x = some (.inl 8) := if_pos rfl
  have k1 : ∀ q c, j_kd (j_nw h x (.inl 8) 0) q = some (.inl c) → c = 8 := fun q c hq => by
    by_cases z : q = x
    · rw [z, kx1] at hq; cases hq; rfl
    · exact absurd ((if_neg z).symm.trans hq) (hk q c)
  generalize j_nw h x (.inl 8) 0 = h1 at o1 kx1 k1 ⊢
  have hG1 : j_G h1 := ⟨fun a ha => absurd (k1 a 4 ha) (by decide), fun a ha => absurd (k1 a 4 ha) (by decide), fun a ha => absurd (k1 a 7 ha) (by decide), fun a ha => absurd (k1 a 6 ha) (by decide), fun a ha => absurd (k1 a 6 ha) (by decide)⟩
  obtain ⟨z, t, z1, z2, z3, z4⟩ := hz
  have hz1 : ∃ z t, j_st h1 0 = some z ∧ j_kd h1 z = some (.inr t) ∧ t % 10 = 2 ∧ j_ln h1 z = 0 := ⟨z, t, by rw [o1.1]; exact z1, (o1.2 z (j_nn z2)).1.trans z2, z3, (o1.2 z (j_nn z2)).2.1.trans z4⟩
  have c1 : j_kd h1 s = some (.inr 10) ∧ j_ln h1 s = L := ⟨(o1.2 s (j_nn ks)).1.trans ks, (o1.2 s (j_nn ks)).2.1.trans ls⟩
  conv => whnf
  refine ⟨trivial, rfl, _, _, _, _, _, _, c_G_init5 kx1 hG1 hz1, ⟨Nat.le_of_ble_eq_true rfl, Nat.le_of_ble_eq_true rfl, by (try dsimp only); omega, by (try dsimp only); omega⟩, fun _ _ z => False.elim z, ?_⟩
  rintro v9 h2 ⟨rfl, sx, wx, ox, fx⟩
  have c2 : j_kd h2 s = some (.inr 10) ∧ j_ln h2 s = L := ⟨(ox.2 s (j_nn c1.1)).1.trans c1.1, (ox.2 s (j_nn c1.1)).2.1.trans c1.2⟩
  have V2 := y_V.s0 wx sx.1 sx.2
  have z2' : (Int32.ofInt 2).toInt = 2 := by decide
  have z1' : (Int32.ofInt 1).toInt = 1 := by decide
  have z30 : ((Int8.ofInt 30).toInt32).toInt = 30 := by decide
  have z100 : ((Int8.ofInt 100).toInt32).toInt = 100 := by decide
  have z4' : (Int32.ofInt 4).toInt = 4 := by decide
  have z6 : ((Int8.ofInt 6).toInt32).toInt = 6 := by decide
  have z12 : ((Int8.ofInt 12).toInt32).toInt = 12 := by decide
  have zk : ((Int16.ofInt 1000).toInt32).toInt = 1000 := by decide
  have z7 : ((Int8.ofInt 7).toInt32).toInt = 7 := by decide
  have ya : ∀ {h h' : j_H}, j_WF h x → j_Fs x h h' → (j_kd h s = some (.inr 10) ∧ j_ln h s = L) → j_kd h' s = some (.inr 10) ∧ j_ln h' s = L := fun w f c => by
    obtain ⟨a, b, -⟩ := y_A.fs w f s 10 c.1 rfl
    exact ⟨a, b.trans c.2⟩
  conv => whnf
  refine ⟨rfl, _, _, _, _, _, _, c_y_cell c2.1 rfl (by decide) (by rw [c2.2]; exact hL), ⟨Nat.le_of_ble_eq_true rfl, Nat.le_of_ble_eq_true rfl, by (try dsimp only); omega, by (try dsimp only); omega⟩, fun _ _ z => False.elim z, ?_⟩
  rintro v9 h9 ⟨e9, v1, rfl⟩
  obtain rfl : h2 = h9 := e9.symm
  clear e9
  conv => whnf
  refine ⟨rfl, _, _, _, _, _, _, c_y_below (by decide), ⟨Nat.le_of_ble_eq_true rfl, Nat.le_of_ble_eq_true rfl, by (try dsimp only); omega, by (try dsimp only); omega⟩, fun _ _ z => False.elim z, ?_⟩
  rintro o9 h9 ⟨e9, er9⟩
  obtain ⟨p1, hp1⟩ : ∃ r, r = y_bl (v1) ((Int8.ofInt 30).toInt32) := ⟨_, rfl⟩
  obtain rfl : o9 = some (j_i p1) := er9.trans (congrArg (fun r => some (j_i r)) hp1.symm)
  obtain rfl : h2 = h9 := e9.symm
  clear er9 e9
  have bp1 := y_blb (v := v1) (n := (Int8.ofInt 30).toInt32) (by decide)
  rw [← hp1] at bp1
  have e1 : (Int32.ofInt 2 + p1).toInt = 2 + p1.toInt := by rw [j_addI (by omega) (by omega), z2']
  conv => whnf
  refine ⟨V2.1.1, rfl, _, _, _, _, _, _, c_G_pacez V2.1 V2.2.1 V2.2.2.1.1.1, ⟨Nat.le_of_ble_eq_true rfl, Nat.le_of_ble_eq_true rfl, by (try dsimp only); omega, by (try dsimp only); omega⟩, ?_, ?_⟩
  · rintro k9 h9 ⟨hk, -⟩
    rcases hk with ⟨-, c⟩ | ⟨-, -, c⟩
    · exact c (Or.inl (by decide))
    · exact c ⟨by omega, by omega⟩
  rintro v9 h3 ⟨⟨g1, g2⟩, rfl, fs, I9, e9⟩
  have c3 := ya V2.1 fs c2
  have V3 := V2.pace fs I9 e9 ((j_cqp g1).trans (j_cqp g2))
  clear fs
  conv => whnf
  conv => whnf
  refine ⟨rfl, _, _, _, _, _, _, c_y_cell c3.1 rfl (by decide) (by rw [c3.2]; exact hL), ⟨Nat.le_of_ble_eq_true rfl, Nat.le_of_ble_eq_true rfl, by (try dsimp only); omega, by (try dsimp only); omega⟩, fun _ _ z => False.elim z, ?_⟩
  rintro v9 h9 ⟨e9, v2, rfl⟩
  obtain rfl : h3 = h9 := e9.symm
  clear e9
  conv => whnf
  refine ⟨rfl, _, _, _, _, _, _, c_y_below (by decide), ⟨Nat.le_of_ble_eq_true rfl, Nat.le_of_ble_eq_true rfl, by (try dsimp only); omega, by (try dsimp only); omega⟩, fun _ _ z => False.elim z, ?_⟩
  rintro o9 h9 ⟨e9, er9⟩
  obtain ⟨p2, hp2⟩ : ∃ r, r = y_bl (v2) ((Int8.ofInt 100).toInt32) := ⟨_, rfl⟩
  obtain rfl : o9 = some (j_i p2) := er9.trans (congrArg (fun r => some (j_i r)) hp2.symm)
  obtain rfl : h3 = h9 := e9.symm
  clear er9 e9
  have bp2 := y_blb (v := v2) (n := (Int8.ofInt 100).toInt32) (by decide)
  rw [← hp2] at bp2
  have e2 : (Int32.ofInt 2 + p2).toInt = 2 + p2.toInt := by rw [j_addI (by omega) (by omega), z2']
  conv => whnf
  refine ⟨V3.1.1, rfl, _, _, _, _, _, _, c_G_pacez V3.1 V3.2.1 V3.2.2.1.1.1, ⟨Nat.le_of_ble_eq_true rfl, Nat.le_of_ble_eq_true rfl, by (try dsimp only); omega, by (try dsimp only); omega⟩, ?_, ?_⟩
  · rintro k9 h9 ⟨hk, -⟩
    rcases hk with ⟨-, c⟩ | ⟨-, -, c⟩
    · exact c (Or.inr (by decide))
    · exact c ⟨by omega, by omega⟩
  rintro v9 h4 ⟨⟨g1, g2⟩, rfl, fs, I9, e9⟩
  have c4 := ya V3.1 fs c3
  have V4 := V3.pace fs I9 e9 ((j_cqp g1).trans (j_cqp g2))
  clear fs
  conv => whnf
  conv => whnf
  refine ⟨rfl, _, _, _, _, _, _, c_y_cell c4.1 rfl (by decide) (by rw [c4.2]; exact hL), ⟨Nat.le_of_ble_eq_true rfl, Nat.le_of_ble_eq_true rfl, by (try dsimp only); omega, by (try dsimp only); omega⟩, fun _ _ z => False.elim z, ?_⟩
  rintro v9 h9 ⟨e9, v3, rfl⟩
  obtain rfl : h4 = h9 := e9.symm
  clear e9
  conv => whnf
  refine ⟨rfl, _, _, _, _, _, _, c_y_below (by decide), ⟨Nat.le_of_ble_eq_true rfl, Nat.le_of_ble_eq_true rfl, by (try dsimp only); omega, by (try dsimp only); omega⟩, fun _ _ z => False.elim z, ?_⟩
  rintro o9 h9 ⟨e9, er9⟩
  obtain ⟨p3, hp3⟩ : ∃ r, r = y_bl (v3) (Int32.ofInt 4) := ⟨_, rfl⟩
  obtain rfl : o9 = some (j_i p3) := er9.trans (congrArg (fun r => some (j_i r)) hp3.symm)
  obtain rfl : h4 = h9 := e9.symm
  clear er9 e9
  have bp3 := y_blb (v := v3) (n := Int32.ofInt 4) (by decide)
  rw [← hp3] at bp3
  conv => whnf
  refine ⟨V4.1.1, rfl, _, _, _, _, _, _, c_G_slipz V4.1 V4.2.1, ⟨Nat.le_of_ble_eq_true rfl, Nat.le_of_ble_eq_true rfl, by (try dsimp only); omega, by (try dsimp only); omega⟩, ?_, ?_⟩
  · rintro k9 h9 ⟨-, c, -⟩
    exact c ⟨by omega, by omega⟩
  rintro v9 h5 ⟨g1, rfl, fs, I9, e9⟩
  have c5 := ya V4.1 fs c4
  have V5 := V4.slip fs I9 e9 (j_cqp g1)
  clear fs
  conv => whnf
  conv => whnf
  refine ⟨rfl, _, _, _, _, _, _, c_y_cell c5.1 rfl (by decide) (by rw [c5.2]; exact hL), ⟨Nat.le_of_ble_eq_true rfl, Nat.le_of_ble_eq_true rfl, by (try dsimp only); omega, by (try dsimp only); omega⟩, fun _ _ z => False.elim z, ?_⟩
  rintro v9 h9 ⟨e9, v4, rfl⟩
  obtain rfl : h5 = h9 := e9.symm
  clear e9
  conv => whnf
  refine ⟨rfl, _, _, _, _, _, _, c_y_below (by decide), ⟨Nat.le_of_ble_eq_true rfl, Nat.le_of_ble_eq_true rfl, by (try dsimp only); omega, by (try dsimp only); omega⟩, fun _ _ z => False.elim z, ?_⟩
  rintro o9 h9 ⟨e9, er9⟩
  obtain ⟨p4, hp4⟩ : ∃ r, r = y_bl (v4) ((Int8.ofInt 6).toInt32) := ⟨_, rfl⟩
  obtain rfl : o9 = some (j_i p4) := er9.trans (congrArg (fun r => some (j_i r)) hp4.symm)
  obtain rfl : h5 = h9 := e9.symm
  clear er9 e9
  have bp4 := y_blb (v := v4) (n := (Int8.ofInt 6).toInt32) (by decide)
  rw [← hp4] at bp4
  have e4 : (Int32.ofInt 1 + p4).toInt = 1 + p4.toInt := by rw [j_addI (by omega) (by omega), z1']
  obtain ⟨g, hg⟩ : ∃ g, g = Int32.ofInt 1 + p4 := ⟨_, rfl⟩
  rw [← hg] at e4
  have L157 : ∀ (k : Nat) (v : Int32) (H : j_H) (nn yy cn sn : Nat), y_V H x nn yy v.toInt.toNat → 1 ≤ nn → (j_kd H s = some (.inr 10) ∧ j_ln H s = L) → cn ≤ 50 + 5 * v.toInt.toNat → sn ≤ 500 + 70 * v.toInt.toNat → 0 ≤ v.toInt → v.toInt ≤ 7 → 7 - v.toInt < (k : Int) → J 157 [some (j_r (some s)), some (j_r (some x)), some (j_i g), some (j_i v)] [] H cn sn := by
    intro k
    induction k with
    | zero => intro v H nn yy cn sn V hn c hc hs h0 h1 hm; omega
    | succ k ih =>
      intro v H nn yy cn sn V hn c hc hs h0 h1 hm
      have w := V.w hn
      refine hJ [73, 157] 400 _ _ _ _ _ _ ?_
      conv => whnf
      refine ⟨rfl, _, _, _, _, _, _, c_y_cell c.1 rfl (by decide) (by rw [c.2]; exact hL), ⟨Nat.le_of_ble_eq_true rfl, Nat.le_of_ble_eq_true rfl, by (try dsimp only); omega, by (try dsimp only); omega⟩, fun _ _ z => False.elim z, ?_⟩
      rintro v9 h9 ⟨e9, v5, rfl⟩
      obtain rfl : H = h9 := e9.symm
      clear e9
      conv => whnf
      refine ⟨rfl, _, _, _, _, _, _, c_y_below (by decide), ⟨Nat.le_of_ble_eq_true rfl, Nat.le_of_ble_eq_true rfl, by (try dsimp only); omega, by (try dsimp only); omega⟩, fun _ _ z => False.elim z, ?_⟩
      rintro o9 h9 ⟨e9, er9⟩
      obtain ⟨p5, hp5⟩ : ∃ r, r = y_bl (v5) ((Int8.ofInt 7).toInt32) := ⟨_, rfl⟩
      obtain rfl : o9 = some (j_i p5) := er9.trans (congrArg (fun r => some (j_i r)) hp5.symm)
      obtain rfl : H = h9 := e9.symm
      clear er9 e9
      have bp5 := y_blb (v := v5) (n := (Int8.ofInt 7).toInt32) (by decide)
      rw [← hp5] at bp5
      conv => whnf
      refine ⟨fun c9 => ?_, fun c9 => ?_⟩
      · conv => whnf
        exact ⟨trivial, ⟨by (try dsimp only); omega, by (try dsimp only); omega⟩, x, rfl, w, V.2.2.2.1, c⟩
      · have c9 : ¬ p5.toInt ≤ v.toInt := c9
        have t : (v + Int32.ofInt 1).toInt = v.toInt + 1 := j_inc1 (by omega)
        conv => whnf
        refine ⟨rfl, _, _, _, _, _, _, c_y_cell c.1 rfl (by decide) (by rw [c.2]; exact hL), ⟨Nat.le_of_ble_eq_true rfl, Nat.le_of_ble_eq_true rfl, by (try dsimp only); omega, by (try dsimp only); omega⟩, fun _ _ z => False.elim z, ?_⟩
        rintro v9 h9 ⟨e9, v6, rfl⟩
        obtain rfl : H = h9 := e9.symm
        clear e9
        conv => whnf
        refine ⟨rfl, _, _, _, _, _, _, c_y_ran w, ⟨Nat.le_of_ble_eq_true rfl, Nat.le_of_ble_eq_true rfl, by (try dsimp only); omega, by (try dsimp only); omega⟩, ?_, ?_⟩
        · rintro k9 h9 ⟨-, r20, -⟩
          have := V.2.2.2.2.2.2
          omega
        · rintro v9 H' ⟨rfl, H1, b, c', d, e, q, hq, dd⟩
          have J1 : y_J (z_c H1 x) (fun _ => 0) := V.2.2.2.1.eq q.2.1
          have J2 : y_J (z_c H' x) (fun _ => 0) := (J1.run q.1.2.2.1 (y_bd q.1.1).2.1.1 hq).eq dd.2.1
          have y := q.2.2.tr dd.2.2
          obtain ⟨ya1, ya2, -⟩ := y s 10 c.1 rfl
          have n0 : j_sz H' x 0 = j_sz H x 0 := (dd.2.1.1 0 (by decide)).trans (q.2.1.1 0 (by decide))
          have n1 : j_sz H' x 1 = j_sz H1 x 1 + Int32.ofInt 1 := dd.2.1.1 1 (by decide)
          have n2 : j_sz H1 x 1 = j_sz H x 1 := q.2.1.1 1 (by decide)
          have n6 : (z_c H' x).1 6 = (z_c H x).1 6 := (dd.2.1.1 6 (by decide)).trans (q.2.1.1 6 (by decide))
          have b1 := (y_bd w.1).2.1
          have V' : y_V H' x nn yy (v + Int32.ofInt 1).toInt.toNat := ⟨dd.1.1, dd.1.2.1, dd.1.2.2.1, J2, by rw [n0]; exact V.2.2.2.2.1, by rw [n6]; exact V.2.2.2.2.2.1, by rw [n1, n2, j_inc1 (by omega)]; have := V.2.2.2.2.2.2; omega⟩
          conv => whnf
          exact j_use hF (ih (v + Int32.ofInt 1) H' nn yy _ _ V' hn ⟨ya1, ya2.trans c.2⟩ (by (try dsimp only); omega) (by (try dsimp only); omega) (by omega) (by omega) (by omega)) (And.intro rfl (And.intro rfl (And.intro rfl (And.intro rfl trivial))))
  have L73 : ∀ (k : Nat) (v : Int32) (H : j_H) (cn sn : Nat), y_V H x v.toInt.toNat (12 * v.toInt.toNat) 0 → (j_kd H s = some (.inr 10) ∧ j_ln H s = L) → cn ≤ 10 + 6 * v.toInt.toNat → sn ≤ 60 + 70 * v.toInt.toNat → 0 ≤ v.toInt → v.toInt ≤ g.toInt → g.toInt - v.toInt < (k : Int) → J 73 [some (j_r (some s)), some (j_r (some x)), some (j_i g), some (j_i v)] [] H cn sn := by
    intro k
    induction k with
    | zero => intro v H cn sn V c hc hs h0 h1 hm; omega
    | succ k ih =>
      intro v H cn sn V c hc hs h0 h1 hm
      refine hJ [73, 157] 400 _ _ _ _ _ _ ?_
      conv => whnf
      refine ⟨fun c9 => ?_, fun c9 => ?_⟩
      · have c9 : g.toInt ≤ v.toInt := c9
        conv => whnf
        exact j_use hF (L157 100 (Int32.ofInt 0) H _ _ _ _ V (by omega) c (by rw [show (Int32.ofInt 0).toInt = 0 by decide]; (try dsimp only); omega) (by rw [show (Int32.ofInt 0).toInt = 0 by decide]; (try dsimp only); omega) (by decide) (by decide) (by decide)) (And.intro rfl (And.intro rfl (And.intro rfl (And.intro rfl trivial))))
      · have c9 : ¬ g.toInt ≤ v.toInt := c9
        have t : (v + Int32.ofInt 1).toInt = v.toInt + 1 := j_inc1 (by omega)
        have n0 := V.2.2.2.2.1
        conv => whnf
        refine ⟨rfl, _, _, _, _, _, _, c_y_cell c.1 rfl (by decide) (by rw [c.2]; exact hL), ⟨Nat.le_of_ble_eq_true rfl, Nat.le_of_ble_eq_true rfl, by (try dsimp only); omega, by (try dsimp only); omega⟩, fun _ _ z => False.elim z, ?_⟩
        rintro v9 h9 ⟨e9, v7, rfl⟩
        obtain rfl : H = h9 := e9.symm
        clear e9
        conv => whnf
        refine ⟨rfl, _, _, _, _, _, _, c_y_below (by decide), ⟨Nat.le_of_ble_eq_true rfl, Nat.le_of_ble_eq_true rfl, by (try dsimp only); omega, by (try dsimp only); omega⟩, fun _ _ z => False.elim z, ?_⟩
        rintro o9 h9 ⟨e9, er9⟩
        obtain ⟨q1, hq1⟩ : ∃ r, r = y_bl (v7 >>> ((Int32.ofInt 2 * v) &&& 31)) ((Int16.ofInt 1000).toInt32) := ⟨_, rfl⟩
        obtain rfl : o9 = some (j_i q1) := er9.trans (congrArg (fun r => some (j_i r)) hq1.symm)
        obtain rfl : H = h9 := e9.symm
        clear er9 e9
        have bq1 := y_blb (v := v7 >>> ((Int32.ofInt 2 * v) &&& 31)) (n := (Int16.ofInt 1000).toInt32) (by decide)
        rw [← hq1] at bq1
        conv => whnf
        refine ⟨rfl, _, _, _, _, _, _, c_y_cell c.1 rfl (by decide) (by rw [c.2]; exact hL), ⟨Nat.le_of_ble_eq_true rfl, Nat.le_of_ble_eq_true rfl, by (try dsimp only); omega, by (try dsimp only); omega⟩, fun _ _ z => False.elim z, ?_⟩
        rintro v9 h9 ⟨e9, v8, rfl⟩
        obtain rfl : H = h9 := e9.symm
        clear e9
        conv => whnf
        refine ⟨rfl, _, _, _, _, _, _, c_y_below (by decide), ⟨Nat.le_of_ble_eq_true rfl, Nat.le_of_ble_eq_true rfl, by (try dsimp only); omega, by (try dsimp only); omega⟩, fun _ _ z => False.elim z, ?_⟩
        rintro o9 h9 ⟨e9, er9⟩
        obtain ⟨q2, hq2⟩ : ∃ r, r = y_bl (v8 >>> ((Int32.ofInt 2 * v) &&& 31)) ((Int16.ofInt 1000).toInt32) := ⟨_, rfl⟩
        obtain rfl : o9 = some (j_i q2) := er9.trans (congrArg (fun r => some (j_i r)) hq2.symm)
        obtain rfl : H = h9 := e9.symm
        clear er9 e9
        have bq2 := y_blb (v := v8 >>> ((Int32.ofInt 2 * v) &&& 31)) (n := (Int16.ofInt 1000).toInt32) (by decide)
        rw [← hq2] at bq2
        conv => whnf
        refine ⟨rfl, _, _, _, _, _, _, c_y_cell c.1 rfl (by decide) (by rw [c.2]; exact hL), ⟨Nat.le_of_ble_eq_true rfl, Nat.le_of_ble_eq_true rfl, by (try dsimp only); omega, by (try dsimp only); omega⟩, fun _ _ z => False.elim z, ?_⟩
        rintro v9 h9 ⟨e9, v9a, rfl⟩
        obtain rfl : H = h9 := e9.symm
        clear e9
        conv => whnf
        refine ⟨rfl, _, _, _, _, _, _, c_y_below (by decide), ⟨Nat.le_of_ble_eq_true rfl, Nat.le_of_ble_eq_true rfl, by (try dsimp only); omega, by (try dsimp only); omega⟩, fun _ _ z => False.elim z, ?_⟩
        rintro o9 h9 ⟨e9, er9⟩
        obtain ⟨q3, hq3⟩ : ∃ r, r = y_bl (v9a >>> ((Int32.ofInt 3 * v) &&& 31)) (Int32.ofInt 4) := ⟨_, rfl⟩
        obtain rfl : o9 = some (j_i q3) := er9.trans (congrArg (fun r => some (j_i r)) hq3.symm)
        obtain rfl : H = h9 := e9.symm
        clear er9 e9
        have bq3 := y_blb (v := v9a >>> ((Int32.ofInt 3 * v) &&& 31)) (n := Int32.ofInt 4) (by decide)
        rw [← hq3] at bq3
        conv => whnf
        refine ⟨V.1.1, rfl, _, _, _, _, _, _, c_G_grainz V.1 V.2.1, ⟨Nat.le_of_ble_eq_true rfl, Nat.le_of_ble_eq_true rfl, by (try dsimp only); omega, by (try dsimp only); omega⟩, ?_, ?_⟩
        · rintro k9 h9 ⟨hk, -⟩
          rcases hk with ⟨-, c⟩ | ⟨-, -, c⟩
          · exact c ⟨⟨by omega, by omega⟩, ⟨by omega, by omega⟩, ⟨by omega, by omega⟩⟩
          · refine c ?_
            show (j_sz H x 0).toInt < 8
            omega
        rintro v9 H1 ⟨⟨g1, g2⟩, rfl, fs, I9, e9⟩
        have c1 := ya V.1 fs c
        have V1 := V.grain (by omega) fs I9 e9 ((j_cqp g1).trans (j_cqp g2))
        clear fs
        conv => whnf
        refine ⟨rfl, _, _, _, _, _, _, c_y_cell c1.1 rfl (by decide) (by rw [c1.2]; exact hL), ⟨Nat.le_of_ble_eq_true rfl, Nat.le_of_ble_eq_true rfl, by (try dsimp only); omega, by (try dsimp only); omega⟩, fun _ _ z => False.elim z, ?_⟩
        rintro v9 h9 ⟨e9, v10, rfl⟩
        obtain rfl : H1 = h9 := e9.symm
        clear e9
        conv => whnf
        refine ⟨rfl, _, _, _, _, _, _, c_y_below (by decide), ⟨Nat.le_of_ble_eq_true rfl, Nat.le_of_ble_eq_true rfl, by (try dsimp only); omega, by (try dsimp only); omega⟩, fun _ _ z => False.elim z, ?_⟩
        rintro o9 h9 ⟨e9, er9⟩
        obtain ⟨q4, hq4⟩ : ∃ r, r = y_bl (v10 >>> ((Int32.ofInt 3 * v) &&& 31)) ((Int8.ofInt 12).toInt32) := ⟨_, rfl⟩
        obtain rfl : o9 = some (j_i q4) := er9.trans (congrArg (fun r => some (j_i r)) hq4.symm)
        obtain rfl : H1 = h9 := e9.symm
        clear er9 e9
        have bq4 := y_blb (v := v10 >>> ((Int32.ofInt 3 * v) &&& 31)) (n := (Int8.ofInt 12).toInt32) (by decide)
        rw [← hq4] at bq4
        have ep : (Int32.ofInt 1 + q4).toInt = 1 + q4.toInt := by rw [j_addI (by omega) (by omega), z1']
        have y6 := V1.2.2.2.2.2.1
        have y6' := V1.2.2.1.1.2.1.1
        have es : (j_it H1 x 6 + (Int32.ofInt 1 + q4)).toInt = ((z_c H1 x).1 6).toInt + (1 + q4.toInt) := by
          rw [← ep]
          exact j_addI (show _ by have : j_it H1 x 6 = (z_c H1 x).1 6 := rfl; rw [this]; omega) (show _ by have : j_it H1 x 6 = (z_c H1 x).1 6 := rfl; rw [this]; omega)
        conv => whnf
        refine ⟨V1.1.1, rfl, _, _, _, _, _, _, c_G_passz V1.1 V1.2.1 V1.2.2.1.1.1, ⟨Nat.le_of_ble_eq_true rfl, Nat.le_of_ble_eq_true rfl, by (try dsimp only); omega, by (try dsimp only); omega⟩, ?_, ?_⟩
        · rintro k9 h9 ⟨hk, -⟩
          rcases hk with ⟨-, c⟩ | ⟨-, -, c⟩
          · exact c ⟨by omega, by omega⟩
          · exact c (by omega)
        rintro v9 H2 ⟨⟨g1, g2⟩, rfl, fs, I9, e9⟩
        have c2 := ya V1.1 fs c1
        have V2 := V1.pass fs I9 e9 ((j_cqp g1).trans (j_cqp g2)) (by omega)
        conv => whnf
        exact j_use hF (ih (v + Int32.ofInt 1) H2 _ _ (by rw [show (v + Int32.ofInt 1).toInt.toNat = v.toInt.toNat + 1 by omega, show 12 * (v.toInt.toNat + 1) = 12 * v.toInt.toNat + 12 by omega]; exact V2) c2 (by (try dsimp only); omega) (by (try dsimp only); omega) (by omega) (by omega) (by omega)) (And.intro rfl (And.intro rfl (And.intro rfl (And.intro rfl trivial))))
  subst hg
  conv => whnf
  exact j_use hF (L73 100 (Int32.ofInt 0) h5 _ _ V5 c5 (by decide) (by decide) (by decide) (by rw [show (Int32.ofInt 0).toInt = 0 by decide]; omega) (by rw [show (Int32.ofInt 0).toInt = 0 by decide]; omega)) (And.intro rfl (And.intro rfl (And.intro rfl (And.intro rfl trivial))))

