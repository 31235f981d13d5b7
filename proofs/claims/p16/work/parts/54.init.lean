/-! a new object of the class -/
theorem j_G.on {h h1 : j_H} {S : Nat → Prop} (g : j_G h) (o : j_On S h h1) (hS : ∀ q c, S q → j_kd h q = some (.inl c) → c = 3 ∨ c = 8) (new : ∀ q c, j_kd h1 q = some (.inl c) → j_kd h q = some (.inl c) ∨ c = 3 ∨ c = 8) : j_G h1 := by
  have old : ∀ q c, c ≠ 3 → c ≠ 8 → j_kd h1 q = some (.inl c) → j_kd h q = some (.inl c) := fun q c z3 z8 hq => by
    rcases new q c hq with r | r | r
    · exact r
    · exact absurd r z3
    · exact absurd r z8
  have up : ∀ q c, j_kd h q = some (.inl c) → j_kd h1 q = some (.inl c) := fun q c hq => ((o.2 q (j_nn hq)).1).trans hq
  have sm : ∀ q c, c ≠ 3 → c ≠ 8 → j_kd h q = some (.inl c) → ∀ k, j_it h1 q k = j_it h q k ∧ j_rf h1 q k = j_rf h q k := fun q c z3 z8 hq k => by
    have := (o.2 q (j_nn hq)).2.2 (fun z => by
      rcases hS q c z hq with r | r
      · exact z3 r
      · exact z8 r) k
    exact ⟨this.1, this.2.2⟩
  obtain ⟨g1, g2, g3, g4, g5⟩ := g
  refine ⟨fun a ha => ?_, fun a ha => ?_, fun a ha => ?_, fun a ha => ?_, fun a ha => ?_⟩
  · have ha := old a 4 (by decide) (by decide) ha
    obtain ⟨b, f1, f2⟩ := g1 a ha
    exact ⟨b, ((sm a 4 (by decide) (by decide) ha 1).2).trans f1, up _ _ f2⟩
  · have ha := old a 4 (by decide) (by decide) ha
    obtain ⟨b, f1, f2⟩ := g2 a ha
    exact ⟨b, ((sm a 4 (by decide) (by decide) ha 2).2).trans f1, up _ _ f2⟩
  · have ha := old a 7 (by decide) (by decide) ha
    obtain ⟨b, f1, f2⟩ := g3 a ha
    exact ⟨b, ((sm a 7 (by decide) (by decide) ha 6).2).trans f1, up _ _ f2⟩
  · have ha := old a 6 (by decide) (by decide) ha
    obtain ⟨b, f1, f2⟩ := g4 a ha
    exact ⟨b, ((sm a 6 (by decide) (by decide) ha 1).2).trans f1, up _ _ f2⟩
  · have ha := old a 6 (by decide) (by decide) ha
    rcases g5 a ha with f | ⟨b, f1, f2, f3, f4⟩
    · exact Or.inl (((sm a 6 (by decide) (by decide) ha 3).2).trans f)
    · refine Or.inr ⟨b, ((sm a 6 (by decide) (by decide) ha 3).2).trans f1, up _ _ f2, ?_, ?_⟩
      · rw [(sm b 6 (by decide) (by decide) f2 0).1]; exact f3
      · rw [(sm b 6 (by decide) (by decide) f2 0).1, (sm a 6 (by decide) (by decide) ha 0).1]; exact f4
set_option maxHeartbeats 4000000 in
set_option maxRecDepth 20000 in
theorem c_G_init {h : j_H} {x : Nat} (kx : j_kd h x = some (.inl 8)) (hG : j_G h) (hz : ∃ z t, j_st h 0 = some z ∧ j_kd h z = some (.inr t) ∧ t % 10 = 2 ∧ j_ln h z = 0) : j_Ct 77 4 80 3 9 [j_r (some x)] h (fun v h' => v = none ∧ j_WF h' x ∧ j_On (fun q => q = x) h h' ∧ ∀ k L, k < 3 → j_rf h' x k = some L → j_kd h L = none) j_no := by
  obtain ⟨z, t, z1, z2, z3, z4⟩ := hz
  refine j_intro km_77 (Nat.le_of_ble_eq_true rfl) ?_
  intro J hJ hF
  refine hJ [] 400 _ _ _ _ _ _ ?_
  conv => whnf
  refine ⟨_, rfl, ⟨Nat.le_of_ble_eq_true rfl, Nat.le_of_ble_eq_true rfl⟩, ?_⟩
  conv => whnf
  refine ⟨⟨Nat.le_of_ble_eq_true rfl, Nat.le_of_ble_eq_true rfl⟩, fun y0 hy0 => ?_⟩
  conv => whnf
  refine ⟨trivial, rfl, _, _, _, _, _, _, c_AL_init (if_pos rfl), ⟨Nat.le_of_ble_eq_true rfl, Nat.le_of_ble_eq_true rfl, Nat.le_of_ble_eq_true rfl, Nat.le_of_ble_eq_true rfl⟩, fun _ _ z => False.elim z, ?_⟩
  rintro v9 h1 ⟨rfl, e1⟩
  have nx0 : x ≠ y0 := fun z => by rw [z, hy0] at kx; cases kx
  conv => whnf
  refine ⟨_, rfl, by rw [e1]; exact (if_neg nx0).trans kx, ?_⟩
  obtain ⟨o1, k1, l1, r1, i1, s1, t1, n1⟩ := j_mkl (k := 0) kx hy0 (h' := j_up h1 x 0 (j_r (some y0))) (by rw [e1]; rfl)
  have kx1 := (l1 x n1).trans kx
  conv => whnf
  refine ⟨⟨Nat.le_of_ble_eq_true rfl, Nat.le_of_ble_eq_true rfl⟩, fun y1 hy1 => ?_⟩
  conv => whnf
  refine ⟨trivial, rfl, _, _, _, _, _, _, c_AL_init (if_pos rfl), ⟨Nat.le_of_ble_eq_true rfl, Nat.le_of_ble_eq_true rfl, Nat.le_of_ble_eq_true rfl, Nat.le_of_ble_eq_true rfl⟩, fun _ _ z => False.elim z, ?_⟩
  rintro v9 h3 ⟨rfl, e3⟩
  have hy1 : j_kd (j_up h1 x 0 (j_r (some y0))) y1 = none := hy1
  have nx1 : x ≠ y1 := fun z => by rw [← z, kx1] at hy1; cases hy1
  conv => whnf
  refine ⟨_, rfl, by rw [e3]; exact (if_neg nx1).trans kx1, ?_⟩
  obtain ⟨o3, k3, l3, r3, i3, s3, t3, n3⟩ := j_mkl (k := 1) kx1 hy1 (h' := j_up h3 x 1 (j_r (some y1))) (by rw [e3]; rfl)
  have kx3 := (l3 x n3).trans kx1
  conv => whnf
  refine ⟨⟨Nat.le_of_ble_eq_true rfl, Nat.le_of_ble_eq_true rfl⟩, fun y2 hy2 => ?_⟩
  conv => whnf
  refine ⟨trivial, rfl, _, _, _, _, _, _, c_AL_init (if_pos rfl), ⟨Nat.le_of_ble_eq_true rfl, Nat.le_of_ble_eq_true rfl, Nat.le_of_ble_eq_true rfl, Nat.le_of_ble_eq_true rfl⟩, fun _ _ z => False.elim z, ?_⟩
  rintro v9 h5 ⟨rfl, e5⟩
  have hy2 : j_kd (j_up h3 x 1 (j_r (some y1))) y2 = none := hy2
  have nx2 : x ≠ y2 := fun z => by rw [← z, kx3] at hy2; cases hy2
  conv => whnf
  refine ⟨_, rfl, by rw [e5]; exact (if_neg nx2).trans kx3, ?_⟩
  obtain ⟨o5, k5, l5, r5, i5, s5, t5, n5⟩ := j_mkl (k := 2) kx3 hy2 (h' := j_up h5 x 2 (j_r (some y2))) (by rw [e5]; rfl)
  have kx5 := (l5 x n5).trans kx3
  conv => whnf
  refine ⟨_, rfl, kx5, ?_⟩
  conv => whnf
  refine ⟨_, rfl, kx5, ?_⟩
  conv => whnf
  refine ⟨_, rfl, kx5, ?_⟩
  conv => whnf
  refine ⟨_, rfl, kx5, ?_⟩
  conv => whnf
  have n01 : y0 ≠ y1 := fun z => by rw [← z, k1] at hy1; cases hy1
  have k1' := (l3 y0 n01).trans k1
  have n02 : y0 ≠ y2 := fun z => by rw [← z, k1'] at hy2; cases hy2
  have n12 : y1 ≠ y2 := fun z => by rw [← z, k3] at hy2; cases hy2
  have k0f : j_kd (j_up h5 x 2 (j_r (some y2))) y0 = some (.inl 3) := (l5 y0 n02).trans k1'
  have k1f : j_kd (j_up h5 x 2 (j_r (some y2))) y1 = some (.inl 3) := (l5 y1 n12).trans k3
  have nz : j_kd h z ≠ none := j_nn z2
  have zx : z ≠ x := fun q => by rw [q, kx] at z2; cases z2
  have oo := (o1.trans o3).trans o5
  have ff : ∀ q, j_kd (j_up h1 x 0 (j_r (some y0))) q ≠ none → q ≠ x → ∀ k, j_it (j_up h5 x 2 (j_r (some y2))) q k = j_it (j_up h1 x 0 (j_r (some y0))) q k ∧ j_rf (j_up h5 x 2 (j_r (some y2))) q k = j_rf (j_up h1 x 0 (j_r (some y0))) q k := fun q hq hx k => ⟨(((o3.trans o5).2 q hq).2.2 hx k).1, (((o3.trans o5).2 q hq).2.2 hx k).2.2⟩
  have f1 : ∀ k, j_it (j_up h5 x 2 (j_r (some y2))) y1 k = j_it (j_up h3 x 1 (j_r (some y1))) y1 k ∧ j_rf (j_up h5 x 2 (j_r (some y2))) y1 k = j_rf (j_up h3 x 1 (j_r (some y1))) y1 k := fun k => ⟨((o5.2 y1 (j_nn k3)).2.2 (fun z => n3 z.symm) k).1, ((o5.2 y1 (j_nn k3)).2.2 (fun z => n3 z.symm) k).2.2⟩
  have st1 : j_st (j_up h1 x 0 (j_r (some y0))) 0 = some z := by rw [o1.1]; exact z1
  have st3 : j_st (j_up h3 x 1 (j_r (some y1))) 0 = some z := by rw [o3.1]; exact st1
  have of9 : j_On (fun q => q = x) h (j_up (j_up (j_up (j_up (j_up h5 x 2 (j_r (some y2))) x 3 (j_i (Int8.ofInt 20).toInt32)) x 4 (j_i (Int8.ofInt 50).toInt32)) x 5 (j_i (Int32.ofInt 2))) x 6 (j_i (Int32.ofInt 0))) := (((oo.trans (j_On.up rfl)).trans (j_On.up rfl)).trans (j_On.up rfl)).trans (j_On.up rfl)
  have itq : ∀ q, q ≠ x → ∀ k, j_it (j_up (j_up (j_up (j_up (j_up h5 x 2 (j_r (some y2))) x 3 (j_i (Int8.ofInt 20).toInt32)) x 4 (j_i (Int8.ofInt 50).toInt32)) x 5 (j_i (Int32.ofInt 2))) x 6 (j_i (Int32.ofInt 0))) q k = j_it (j_up h5 x 2 (j_r (some y2))) q k := fun q hq k =>
    ((j_up_ne _ _ hq k).1).trans (((j_up_ne _ _ hq k).1).trans (((j_up_ne _ _ hq k).1).trans ((j_up_ne _ _ hq k).1)))
  have kz := (oo.2 z nz).1
  have lz := (oo.2 z nz).2.1
  have li : ∀ y c M, (0:Int) ≤ M → y ≠ x → j_kd (j_up h5 x 2 (j_r (some y2))) y = some (.inl 3) → j_rf (j_up h5 x 2 (j_r (some y2))) y 1 = some z → (j_it (j_up h5 x 2 (j_r (some y2))) y 2).toInt = 0 → j_LI (j_up (j_up (j_up (j_up (j_up h5 x 2 (j_r (some y2))) x 3 (j_i (Int8.ofInt 20).toInt32)) x 4 (j_i (Int8.ofInt 50).toInt32)) x 5 (j_i (Int32.ofInt 2))) x 6 (j_i (Int32.ofInt 0))) y c M := by
    intro y c M hM hy ky ry iy
    have iy : (j_it (j_up (j_up (j_up (j_up (j_up h5 x 2 (j_r (some y2))) x 3 (j_i (Int8.ofInt 20).toInt32)) x 4 (j_i (Int8.ofInt 50).toInt32)) x 5 (j_i (Int32.ofInt 2))) x 6 (j_i (Int32.ofInt 0))) y 2).toInt = 0 := by rw [itq y hy]; exact iy
    have lz' : j_ln (j_up (j_up (j_up (j_up (j_up h5 x 2 (j_r (some y2))) x 3 (j_i (Int8.ofInt 20).toInt32)) x 4 (j_i (Int8.ofInt 50).toInt32)) x 5 (j_i (Int32.ofInt 2))) x 6 (j_i (Int32.ofInt 0))) z = 0 := lz.trans z4
    exact ⟨ky, by omega, by omega, z, t, ry, kz.trans z2, z3, by omega, ⟨by omega, Or.inr ⟨lz', (congrFun of9.1 0).trans z1⟩⟩, fun j hj => by omega⟩
  have ra : j_rf (j_up h5 x 2 (j_r (some y2))) y0 1 = some z := ((ff y0 (j_nn k1) (fun z => n1 z.symm) 1).2).trans (r1.trans z1)
  have rb : j_rf (j_up h5 x 2 (j_r (some y2))) y1 1 = some z := ((f1 1).2).trans (r3.trans st1)
  have rc : j_rf (j_up h5 x 2 (j_r (some y2))) y2 1 = some z := r5.trans st3
  have ap : ∀ u v, u ≠ v → j_rf (j_up h5 x 2 (j_r (some y2))) u 1 = some z → j_Ap (j_up (j_up (j_up (j_up (j_up h5 x 2 (j_r (some y2))) x 3 (j_i (Int8.ofInt 20).toInt32)) x 4 (j_i (Int8.ofInt 50).toInt32)) x 5 (j_i (Int32.ofInt 2))) x 6 (j_i (Int32.ofInt 0))) u v := fun u v huv hu => ⟨huv, fun a ha _ => by
    obtain rfl : z = a := Option.some.inj (hu.symm.trans ha)
    exact lz.trans z4⟩
  have la := li y0 4 8 (by decide) (fun z => n1 z.symm) k0f ra (by rw [(ff y0 (j_nn k1) (fun z => n1 z.symm) 2).1]; exact i1)
  have lb := li y1 7 20 (by decide) (fun z => n3 z.symm) k1f rb (by rw [(f1 2).1]; exact i3)
  have lc := li y2 6 10 (by decide) (fun z => n5 z.symm) k5 rc i5
  have x0 : j_rf (j_up h5 x 2 (j_r (some y2))) x 0 = some y0 := (t5 0 (by decide)).trans ((t3 0 (by decide)).trans s1)
  have x1 : j_rf (j_up h5 x 2 (j_r (some y2))) x 1 = some y1 := (t5 1 (by decide)).trans s3
  have hG' : j_G (j_up (j_up (j_up (j_up (j_up h5 x 2 (j_r (some y2))) x 3 (j_i (Int8.ofInt 20).toInt32)) x 4 (j_i (Int8.ofInt 50).toInt32)) x 5 (j_i (Int32.ofInt 2))) x 6 (j_i (Int32.ofInt 0))) := by
    refine hG.on of9 (fun q c hq hk => ?_) (fun q c hk => ?_)
    · rw [hq, kx] at hk
      cases hk
      exact Or.inr rfl
    · have hk : j_kd (j_up h5 x 2 (j_r (some y2))) q = some (.inl c) := hk
      by_cases w2 : q = y2
      · rw [w2, k5] at hk; cases hk; exact Or.inr (Or.inl rfl)
      rw [l5 q w2] at hk
      by_cases w1 : q = y1
      · rw [w1, k3] at hk; cases hk; exact Or.inr (Or.inl rfl)
      rw [l3 q w1] at hk
      by_cases w0 : q = y0
      · rw [w0, k1] at hk; cases hk; exact Or.inr (Or.inl rfl)
      rw [l1 q w0] at hk
      exact Or.inl hk
  refine ⟨rfl, ⟨Nat.le_of_ble_eq_true rfl, Nat.le_of_ble_eq_true rfl⟩, rfl, ⟨kx5, hG', y0, y1, y2, x0, la, x1, lb, s5, lc, ⟨ap _ _ n01 ra, ap _ _ n02 ra, ap _ _ n12 rb⟩, ?_⟩, of9, ?_⟩
  · intro arr r1' j e hj _
    have hj : (j : Int) < (j_it (j_up (j_up (j_up (j_up (j_up h5 x 2 (j_r (some y2))) x 3 (j_i (Int8.ofInt 20).toInt32)) x 4 (j_i (Int8.ofInt 50).toInt32)) x 5 (j_i (Int32.ofInt 2))) x 6 (j_i (Int32.ofInt 0))) y2 2).toInt := hj
    rw [itq y2 (fun z => n5 z.symm) 2] at hj
    omega
  · intro k L hk e
    have e : j_rf (j_up h5 x 2 (j_r (some y2))) x k = some L := e
    match k, hk, e with
    | 0, _, e => obtain rfl : y0 = L := Option.some.inj (x0.symm.trans e); exact hy0
    | 1, _, e => obtain rfl : y1 = L := Option.some.inj (x1.symm.trans e); exact (l1 y1 n01.symm).symm.trans hy1
    | 2, _, e => obtain rfl : y2 = L := Option.some.inj (s5.symm.trans e); exact (l1 y2 n02.symm).symm.trans ((l3 y2 n12.symm).symm.trans hy2)
    | n + 3, hk, _ => omega
