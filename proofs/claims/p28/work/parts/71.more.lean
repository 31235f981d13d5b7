/-! from other parts -/
theorem j_mul2 {x : Int32} (h0 : 0 ≤ x.toInt) (h1 : x.toInt ≤ 1000) : (Int32.ofInt (2) * x).toInt = 2 * x.toInt := by
  have e : (Int32.ofInt (2)).toInt = 2 := by decide
  rw [Int32.toInt_mul, e, Int.bmod_def]
  omega
theorem j_dbl {x : Int32} (h0 : 0 ≤ x.toInt) (h1 : x.toInt ≤ 1000) : (Int32.ofInt (2) * x).toInt = 2 * x.toInt := j_mul2 h0 h1
theorem j_zx {r a b c : Int32} (z : (b.toInt ≤ a.toInt ∧ a.toInt ≤ c.toInt ∧ r = Int32.ofInt 1) ∨ (¬ (b.toInt ≤ a.toInt ∧ a.toInt ≤ c.toInt) ∧ r = Int32.ofInt 0)) : (¬ r.toInt = 0 ∧ b.toInt ≤ a.toInt ∧ a.toInt ≤ c.toInt) ∨ (r.toInt = 0 ∧ ¬ (b.toInt ≤ a.toInt ∧ a.toInt ≤ c.toInt)) := by
  rcases z with ⟨q1, q2, q3⟩ | ⟨q1, q2⟩
  · exact Or.inl ⟨by rw [q3]; decide, q1, q2⟩
  · exact Or.inr ⟨by rw [q2]; decide, q1⟩
theorem z_b0 {b : Bool} : (z_b b).toInt = 0 ↔ b = false := by
  cases b
  · exact ⟨fun _ => rfl, fun _ => by decide⟩
  · exact ⟨fun z => absurd z (by decide), fun z => absurd z (by decide)⟩
theorem z_bn {b : Bool} (z : ¬ (z_b b).toInt = 0) : b = true := by
  cases b
  · exact absurd (by decide) z
  · rfl
theorem j_zy {p : Prop} {r : Int32} (z : (p ∧ r = Int32.ofInt 1) ∨ (¬ p ∧ r = Int32.ofInt 0)) : (¬ r.toInt = 0 ∧ p) ∨ (r.toInt = 0 ∧ ¬ p) := by
  rcases z with ⟨q1, q2⟩ | ⟨q1, q2⟩
  · exact Or.inl ⟨by rw [q2]; decide, q1⟩
  · exact Or.inr ⟨by rw [q2]; decide, q1⟩
/-- the numbers at the start -/
def j_s0 (k : Nat) : Int32 := match k with
  | 3 => (Int8.ofInt 20).toInt32
  | 4 => (Int8.ofInt 50).toInt32
  | 5 => Int32.ofInt 2
  | _ => Int32.ofInt 0
/-- the state at the start -/
def z_s0 : j_Z := (j_s0, fun _ _ _ => 0, fun _ _ => 0, fun _ _ => 0, fun _ _ => 0)
theorem z_start {A : j_Z} (h : ∀ k, k < 7 → A.1 k = j_s0 k) : z_eq A z_s0 := by
  have no : ∀ i k, i < 3 → ¬ z_lt A i k := fun i k hi hk => by
    unfold z_lt at hk
    rw [h i (by omega)] at hk
    match i, hi with
    | 0, _ => have : ((j_s0 0).toInt) = 0 := by decide
              omega
    | 1, _ => have : ((j_s0 1).toInt) = 0 := by decide
              omega
    | 2, _ => have : ((j_s0 2).toInt) = 0 := by decide
              omega
    | n + 3, hi => omega
  exact ⟨h, fun k i t hk => absurd hk (no 0 k (by decide)), fun k f hk => absurd hk (no 0 k (by decide)), fun k f hk => absurd hk (no 1 k (by decide)), fun k f hk => absurd hk (no 2 k (by decide))⟩
theorem z_new {h : j_H} {x : Nat} (s : ∀ i, i < 3 → (j_sz h x i).toInt = 0) : z_I h x := by
  have no : ∀ i k, i < 3 → ¬ z_in h x i k := fun i k hi hk => by
    unfold z_in at hk
    rw [s i hi] at hk
    omega
  exact ⟨⟨fun k hk => absurd hk (no 0 k (by decide)), ⟨fun _ => 0, fun k i hk => absurd hk (no 0 k (by decide))⟩, fun k hk => absurd hk (no 1 k (by decide)), fun k hk => absurd hk (no 2 k (by decide))⟩, fun k hk => absurd hk (no 1 k (by decide))⟩
theorem z_V0 : z_V z_s0 := ⟨⟨⟨by decide, by decide⟩, ⟨by decide, by decide⟩⟩, ⟨by decide, by decide⟩, fun k i hk => by
  have hk : (k : Int) < (j_s0 0).toInt := hk
  have : ((j_s0 0).toInt) = 0 := by decide
  omega, fun k hk => by
  have hk : (k : Int) < (j_s0 1).toInt := hk
  have : ((j_s0 1).toInt) = 0 := by decide
  omega⟩
theorem j_z0 {x : Int32} (h : x.toInt = 0) : x = Int32.ofInt 0 := Int32.toInt_inj.mp (h.trans (by decide))
set_option maxHeartbeats 4000000 in
set_option maxRecDepth 20000 in
theorem c_G_init5 {h : j_H} {x : Nat} (kx : j_kd h x = some (.inl 8)) (hG : j_G h) (hz : ∃ z t, j_st h 0 = some z ∧ j_kd h z = some (.inr t) ∧ t % 10 = 2 ∧ j_ln h z = 0) : j_Ct 77 4 80 3 9 [j_r (some x)] h (fun v h' => v = none ∧ (z_I h' x ∧ ∀ k, k < 7 → z_cn h' x k = j_s0 k) ∧ j_WF h' x ∧ j_On (fun q => q = x) h h' ∧ ∀ k L, k < 3 → j_rf h' x k = some L → j_kd h L = none) j_no := by
  obtain ⟨z, t, z1, z2, z3, z4⟩ := hz
  refine j_intro km_77 (Nat.le_of_ble_eq_true rfl) ?_
  intro J hJ hF
  refine hJ [] 400 _ _ _ _ _ _ ?_
  conv => whnf
  refine ⟨_, rfl, ⟨Nat.le_of_ble_eq_true rfl, Nat.le_of_ble_eq_true rfl⟩, ?_⟩
  conv => whnf
  refine ⟨⟨Nat.le_of_ble_eq_true rfl, Nat.le_of_ble_eq_true rfl⟩, fun y0 hy0 => ?_⟩
  conv => whnf
  refine ⟨trivial, rfl, _, _, _, _, _, _, c_AL_init (if_pos rfl), ⟨Nat.le_of_ble_eq_true rfl, Nat.le_of_ble_eq_true rfl, Nat.le_of_ble_eq_true rfl, Nat.le_of_ble_eq_true rfl⟩, fun _ _ z => False.elim z, ?_⟩
  rintro v9 h1 ⟨rfl, e1⟩
  have nx0 : x ≠ y0 := fun z => by rw [z, hy0] at kx; cases kx
  conv => whnf
  refine ⟨_, rfl, by rw [e1]; exact (if_neg nx0).trans kx, ?_⟩
  obtain ⟨o1, k1, l1, r1, i1, s1, t1, n1⟩ := j_mkl (k := 0) kx hy0 (h' := j_up h1 x 0 (j_r (some y0))) (by rw [e1]; rfl)
  have kx1 := (l1 x n1).trans kx
  conv => whnf
  refine ⟨⟨Nat.le_of_ble_eq_true rfl, Nat.le_of_ble_eq_true rfl⟩, fun y1 hy1 => ?_⟩
  conv => whnf
  refine ⟨trivial, rfl, _, _, _, _, _, _, c_AL_init (if_pos rfl), ⟨Nat.le_of_ble_eq_true rfl, Nat.le_of_ble_eq_true rfl, Nat.le_of_ble_eq_true rfl, Nat.le_of_ble_eq_true rfl⟩, fun _ _ z => False.elim z, ?_⟩
  rintro v9 h3 ⟨rfl, e3⟩
  have hy1 : j_kd (j_up h1 x 0 (j_r (some y0))) y1 = none := hy1
  have nx1 : x ≠ y1 := fun z => by rw [← z, kx1] at hy1; cases hy1
  conv => whnf
  refine ⟨_, rfl, by rw [e3]; exact (if_neg nx1).trans kx1, ?_⟩
  obtain ⟨o3, k3, l3, r3, i3, s3, t3, n3⟩ := j_mkl (k := 1) kx1 hy1 (h' := j_up h3 x 1 (j_r (some y1))) (by rw [e3]; rfl)
  have kx3 := (l3 x n3).trans kx1
  conv => whnf
  refine ⟨⟨Nat.le_of_ble_eq_true rfl, Nat.le_of_ble_eq_true rfl⟩, fun y2 hy2 => ?_⟩
  conv => whnf
  refine ⟨trivial, rfl, _, _, _, _, _, _, c_AL_init (if_pos rfl), ⟨Nat.le_of_ble_eq_true rfl, Nat.le_of_ble_eq_true rfl, Nat.le_of_ble_eq_true rfl, Nat.le_of_ble_eq_true rfl⟩, fun _ _ z => False.elim z, ?_⟩
  rintro v9 h5 ⟨rfl, e5⟩
  have hy2 : j_kd (j_up h3 x 1 (j_r (some y1))) y2 = none := hy2
  have nx2 : x ≠ y2 := fun z => by rw [← z, kx3] at hy2; cases hy2
  conv => whnf
  refine ⟨_, rfl, by rw [e5]; exact (if_neg nx2).trans kx3, ?_⟩
  obtain ⟨o5, k5, l5, r5, i5, s5, t5, n5⟩ := j_mkl (k := 2) kx3 hy2 (h' := j_up h5 x 2 (j_r (some y2))) (by rw [e5]; rfl)
  have kx5 := (l5 x n5).trans kx3
  conv => whnf
  refine ⟨_, rfl, kx5, ?_⟩
  conv => whnf
  refine ⟨_, rfl, kx5, ?_⟩
  conv => whnf
  refine ⟨_, rfl, kx5, ?_⟩
  conv => whnf
  refine ⟨_, rfl, kx5, ?_⟩
  conv => whnf
  have n01 : y0 ≠ y1 := fun z => by rw [← z, k1] at hy1; cases hy1
  have k1' := (l3 y0 n01).trans k1
  have n02 : y0 ≠ y2 := fun z => by rw [← z, k1'] at hy2; cases hy2
  have n12 : y1 ≠ y2 := fun z => by rw [← z, k3] at hy2; cases hy2
  have k0f : j_kd (j_up h5 x 2 (j_r (some y2))) y0 = some (.inl 3) := (l5 y0 n02).trans k1'
  have k1f : j_kd (j_up h5 x 2 (j_r (some y2))) y1 = some (.inl 3) := (l5 y1 n12).trans k3
  have nz : j_kd h z ≠ none := j_nn z2
  have zx : z ≠ x := fun q => by rw [q, kx] at z2; cases z2
  have oo := (o1.trans o3).trans o5
  have ff : ∀ q, j_kd (j_up h1 x 0 (j_r (some y0))) q ≠ none → q ≠ x → ∀ k, j_it (j_up h5 x 2 (j_r (some y2))) q k = j_it (j_up h1 x 0 (j_r (some y0))) q k ∧ j_rf (j_up h5 x 2 (j_r (some y2))) q k = j_rf (j_up h1 x 0 (j_r (some y0))) q k := fun q hq hx k => ⟨(((o3.trans o5).2 q hq).2.2 hx k).1, (((o3.trans o5).2 q hq).2.2 hx k).2.2⟩
  have f1 : ∀ k, j_it (j_up h5 x 2 (j_r (some y2))) y1 k = j_it (j_up h3 x 1 (j_r (some y1))) y1 k ∧ j_rf (j_up h5 x 2 (j_r (some y2))) y1 k = j_rf (j_up h3 x 1 (j_r (some y1))) y1 k := fun k => ⟨((o5.2 y1 (j_nn k3)).2.2 (fun z => n3 z.symm) k).1, ((o5.2 y1 (j_nn k3)).2.2 (fun z => n3 z.symm) k).2.2⟩
  have st1 : j_st (j_up h1 x 0 (j_r (some y0))) 0 = some z := by rw [o1.1]; exact z1
  have st3 : j_st (j_up h3 x 1 (j_r (some y1))) 0 = some z := by rw [o3.1]; exact st1
  have of9 : j_On (fun q => q = x) h (j_up (j_up (j_up (j_up (j_up h5 x 2 (j_r (some y2))) x 3 (j_i (Int8.ofInt 20).toInt32)) x 4 (j_i (Int8.ofInt 50).toInt32)) x 5 (j_i (Int32.ofInt 2))) x 6 (j_i (Int32.ofInt 0))) := (((oo.trans (j_On.up rfl)).trans (j_On.up rfl)).trans (j_On.up rfl)).trans (j_On.up rfl)
  have itq : ∀ q, q ≠ x → ∀ k, j_it (j_up (j_up (j_up (j_up (j_up h5 x 2 (j_r (some y2))) x 3 (j_i (Int8.ofInt 20).toInt32)) x 4 (j_i (Int8.ofInt 50).toInt32)) x 5 (j_i (Int32.ofInt 2))) x 6 (j_i (Int32.ofInt 0))) q k = j_it (j_up h5 x 2 (j_r (some y2))) q k := fun q hq k =>
    ((j_up_ne _ _ hq k).1).trans (((j_up_ne _ _ hq k).1).trans (((j_up_ne _ _ hq k).1).trans ((j_up_ne _ _ hq k).1)))
  have kz := (oo.2 z nz).1
  have lz := (oo.2 z nz).2.1
  have li : ∀ y c M, (0:Int) ≤ M → y ≠ x → j_kd (j_up h5 x 2 (j_r (some y2))) y = some (.inl 3) → j_rf (j_up h5 x 2 (j_r (some y2))) y 1 = some z → (j_it (j_up h5 x 2 (j_r (some y2))) y 2).toInt = 0 → j_LI (j_up (j_up (j_up (j_up (j_up h5 x 2 (j_r (some y2))) x 3 (j_i (Int8.ofInt 20).toInt32)) x 4 (j_i (Int8.ofInt 50).toInt32)) x 5 (j_i (Int32.ofInt 2))) x 6 (j_i (Int32.ofInt 0))) y c M := by
    intro y c M hM hy ky ry iy
    have iy : (j_it (j_up (j_up (j_up (j_up (j_up h5 x 2 (j_r (some y2))) x 3 (j_i (Int8.ofInt 20).toInt32)) x 4 (j_i (Int8.ofInt 50).toInt32)) x 5 (j_i (Int32.ofInt 2))) x 6 (j_i (Int32.ofInt 0))) y 2).toInt = 0 := by rw [itq y hy]; exact iy
    have lz' : j_ln (j_up (j_up (j_up (j_up (j_up h5 x 2 (j_r (some y2))) x 3 (j_i (Int8.ofInt 20).toInt32)) x 4 (j_i (Int8.ofInt 50).toInt32)) x 5 (j_i (Int32.ofInt 2))) x 6 (j_i (Int32.ofInt 0))) z = 0 := lz.trans z4
    exact ⟨ky, by omega, by omega, z, t, ry, kz.trans z2, z3, by omega, ⟨by omega, Or.inr ⟨lz', (congrFun of9.1 0).trans z1⟩⟩, fun j hj => by omega⟩
  have ra : j_rf (j_up h5 x 2 (j_r (some y2))) y0 1 = some z := ((ff y0 (j_nn k1) (fun z => n1 z.symm) 1).2).trans (r1.trans z1)
  have rb : j_rf (j_up h5 x 2 (j_r (some y2))) y1 1 = some z := ((f1 1).2).trans (r3.trans st1)
  have rc : j_rf (j_up h5 x 2 (j_r (some y2))) y2 1 = some z := r5.trans st3
  have ap : ∀ u v, u ≠ v → j_rf (j_up h5 x 2 (j_r (some y2))) u 1 = some z → j_Ap (j_up (j_up (j_up (j_up (j_up h5 x 2 (j_r (some y2))) x 3 (j_i (Int8.ofInt 20).toInt32)) x 4 (j_i (Int8.ofInt 50).toInt32)) x 5 (j_i (Int32.ofInt 2))) x 6 (j_i (Int32.ofInt 0))) u v := fun u v huv hu => ⟨huv, fun a ha _ => by
    obtain rfl : z = a := Option.some.inj (hu.symm.trans ha)
    exact lz.trans z4⟩
  have la := li y0 4 8 (by decide) (fun z => n1 z.symm) k0f ra (by rw [(ff y0 (j_nn k1) (fun z => n1 z.symm) 2).1]; exact i1)
  have lb := li y1 7 20 (by decide) (fun z => n3 z.symm) k1f rb (by rw [(f1 2).1]; exact i3)
  have lc := li y2 6 10 (by decide) (fun z => n5 z.symm) k5 rc i5
  have x0 : j_rf (j_up h5 x 2 (j_r (some y2))) x 0 = some y0 := (t5 0 (by decide)).trans ((t3 0 (by decide)).trans s1)
  have x1 : j_rf (j_up h5 x 2 (j_r (some y2))) x 1 = some y1 := (t5 1 (by decide)).trans s3
  have hG' : j_G (j_up (j_up (j_up (j_up (j_up h5 x 2 (j_r (some y2))) x 3 (j_i (Int8.ofInt 20).toInt32)) x 4 (j_i (Int8.ofInt 50).toInt32)) x 5 (j_i (Int32.ofInt 2))) x 6 (j_i (Int32.ofInt 0))) := by
    refine hG.on of9 (fun q c hq hk => ?_) (fun q c hk => ?_)
    · rw [hq, kx] at hk
      cases hk
      exact Or.inr rfl
    · have hk : j_kd (j_up h5 x 2 (j_r (some y2))) q = some (.inl c) := hk
      by_cases w2 : q = y2
      · rw [w2, k5] at hk; cases hk; exact Or.inr (Or.inl rfl)
      rw [l5 q w2] at hk
      by_cases w1 : q = y1
      · rw [w1, k3] at hk; cases hk; exact Or.inr (Or.inl rfl)
      rw [l3 q w1] at hk
      by_cases w0 : q = y0
      · rw [w0, k1] at hk; cases hk; exact Or.inr (Or.inl rfl)
      rw [l1 q w0] at hk
      exact Or.inl hk
  have v0 : (j_it (j_up (j_up (j_up (j_up (j_up h5 x 2 (j_r (some y2))) x 3 (j_i (Int8.ofInt 20).toInt32)) x 4 (j_i (Int8.ofInt 50).toInt32)) x 5 (j_i (Int32.ofInt 2))) x 6 (j_i (Int32.ofInt 0))) y0 2).toInt = 0 := by rw [itq y0 (fun z => n1 z.symm) 2, (ff y0 (j_nn k1) (fun z => n1 z.symm) 2).1]; exact i1
  have v1 : (j_it (j_up (j_up (j_up (j_up (j_up h5 x 2 (j_r (some y2))) x 3 (j_i (Int8.ofInt 20).toInt32)) x 4 (j_i (Int8.ofInt 50).toInt32)) x 5 (j_i (Int32.ofInt 2))) x 6 (j_i (Int32.ofInt 0))) y1 2).toInt = 0 := by rw [itq y1 (fun z => n3 z.symm) 2, (f1 2).1]; exact i3
  have v2 : (j_it (j_up (j_up (j_up (j_up (j_up h5 x 2 (j_r (some y2))) x 3 (j_i (Int8.ofInt 20).toInt32)) x 4 (j_i (Int8.ofInt 50).toInt32)) x 5 (j_i (Int32.ofInt 2))) x 6 (j_i (Int32.ofInt 0))) y2 2).toInt = 0 := by rw [itq y2 (fun z => n5 z.symm) 2]; exact i5
  have g0 : j_sz (j_up (j_up (j_up (j_up (j_up h5 x 2 (j_r (some y2))) x 3 (j_i (Int8.ofInt 20).toInt32)) x 4 (j_i (Int8.ofInt 50).toInt32)) x 5 (j_i (Int32.ofInt 2))) x 6 (j_i (Int32.ofInt 0))) x 0 = Int32.ofInt 0 := (j_sz_e (h := (j_up (j_up (j_up (j_up (j_up h5 x 2 (j_r (some y2))) x 3 (j_i (Int8.ofInt 20).toInt32)) x 4 (j_i (Int8.ofInt 50).toInt32)) x 5 (j_i (Int32.ofInt 2))) x 6 (j_i (Int32.ofInt 0)))) x0).trans (j_z0 v0)
  have g1 : j_sz (j_up (j_up (j_up (j_up (j_up h5 x 2 (j_r (some y2))) x 3 (j_i (Int8.ofInt 20).toInt32)) x 4 (j_i (Int8.ofInt 50).toInt32)) x 5 (j_i (Int32.ofInt 2))) x 6 (j_i (Int32.ofInt 0))) x 1 = Int32.ofInt 0 := (j_sz_e (h := (j_up (j_up (j_up (j_up (j_up h5 x 2 (j_r (some y2))) x 3 (j_i (Int8.ofInt 20).toInt32)) x 4 (j_i (Int8.ofInt 50).toInt32)) x 5 (j_i (Int32.ofInt 2))) x 6 (j_i (Int32.ofInt 0)))) x1).trans (j_z0 v1)
  have g2 : j_sz (j_up (j_up (j_up (j_up (j_up h5 x 2 (j_r (some y2))) x 3 (j_i (Int8.ofInt 20).toInt32)) x 4 (j_i (Int8.ofInt 50).toInt32)) x 5 (j_i (Int32.ofInt 2))) x 6 (j_i (Int32.ofInt 0))) x 2 = Int32.ofInt 0 := (j_sz_e (h := (j_up (j_up (j_up (j_up (j_up h5 x 2 (j_r (some y2))) x 3 (j_i (Int8.ofInt 20).toInt32)) x 4 (j_i (Int8.ofInt 50).toInt32)) x 5 (j_i (Int32.ofInt 2))) x 6 (j_i (Int32.ofInt 0)))) s5).trans (j_z0 v2)
  refine ⟨rfl, ⟨Nat.le_of_ble_eq_true rfl, Nat.le_of_ble_eq_true rfl⟩, rfl, ⟨z_new (fun i hi => ?_), fun k hk => ?_⟩, ⟨kx5, hG', y0, y1, y2, x0, la, x1, lb, s5, lc, ⟨ap _ _ n01 ra, ap _ _ n02 ra, ap _ _ n12 rb⟩, ?_⟩, of9, ?_⟩
  · match i, hi with
    | 0, _ => rw [g0]; decide
    | 1, _ => rw [g1]; decide
    | 2, _ => rw [g2]; decide
    | n + 3, hi => omega
  · match k, hk with
    | 0, _ => exact g0
    | 1, _ => exact g1
    | 2, _ => exact g2
    | 3, _ => exact (j_upm (by decide)).trans ((j_upm (by decide)).trans ((j_upm (by decide)).trans j_upi))
    | 4, _ => exact (j_upm (by decide)).trans ((j_upm (by decide)).trans j_upi)
    | 5, _ => exact (j_upm (by decide)).trans j_upi
    | 6, _ => exact j_upi
    | n + 7, hk => omega
  · intro arr r1' j e hj _
    have hj : (j : Int) < (j_it (j_up (j_up (j_up (j_up (j_up h5 x 2 (j_r (some y2))) x 3 (j_i (Int8.ofInt 20).toInt32)) x 4 (j_i (Int8.ofInt 50).toInt32)) x 5 (j_i (Int32.ofInt 2))) x 6 (j_i (Int32.ofInt 0))) y2 2).toInt := hj
    rw [itq y2 (fun z => n5 z.symm) 2] at hj
    omega
  · intro k L hk e
    have e : j_rf (j_up h5 x 2 (j_r (some y2))) x k = some L := e
    match k, hk, e with
    | 0, _, e => obtain rfl : y0 = L := Option.some.inj (x0.symm.trans e); exact hy0
    | 1, _, e => obtain rfl : y1 = L := Option.some.inj (x1.symm.trans e); exact (l1 y1 n01.symm).symm.trans hy1
    | 2, _, e => obtain rfl : y2 = L := Option.some.inj (s5.symm.trans e); exact (l1 y2 n02.symm).symm.trans ((l3 y2 n12.symm).symm.trans hy2)
    | n + 3, hk, _ => omega
