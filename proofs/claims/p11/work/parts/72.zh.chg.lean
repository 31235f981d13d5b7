/-! changed: word for word -/
theorem t_early_b {p s : Int32} : ∀ (n : Nat) (y l : Int32), 0 ≤ y.toInt → y.toInt + (n : Int) ≤ 3000 → 0 ≤ (t_early p s n y l).toInt ∧ (t_early p s n y l).toInt ≤ 3000 := by
  have q : (Int32.ofInt 3000).toInt = 3000 := by decide
  intro n
  induction n with
  | zero => intro y l h0 h1; exact ⟨h0, by show y.toInt ≤ 3000; omega⟩
  | succ n ih =>
    intro y l h0 h1
    show 0 ≤ (if l.toInt ≤ s.toInt then y else if l.toInt < p.toInt then Int32.ofInt 3000 else t_early p s n (y + Int32.ofInt 1) (l - l / p)).toInt ∧ (if l.toInt ≤ s.toInt then y else if l.toInt < p.toInt then Int32.ofInt 3000 else t_early p s n (y + Int32.ofInt 1) (l - l / p)).toInt ≤ 3000
    have e := j_inc1 (x := y) (by omega)
    by_cases h : l.toInt ≤ s.toInt
    · rw [if_pos h]; omega
    · rw [if_neg h]
      by_cases g : l.toInt < p.toInt
      · rw [if_pos g, q]; omega
      · rw [if_neg g]
        exact ih (y + Int32.ofInt 1) (l - l / p) (by omega) (by omega)
theorem t_late_b {p s : Int32} : ∀ (n : Nat) (y l : Int32), 0 ≤ y.toInt → y.toInt + (n : Int) ≤ 3000 → 0 ≤ (t_late p s n y l).toInt ∧ (t_late p s n y l).toInt ≤ 3000 := by
  have q : (Int32.ofInt 3000).toInt = 3000 := by decide
  intro n
  induction n with
  | zero => intro y l h0 h1; show 0 ≤ (Int32.ofInt 3000).toInt ∧ (Int32.ofInt 3000).toInt ≤ 3000; omega
  | succ n ih =>
    intro y l h0 h1
    show 0 ≤ (if l.toInt < p.toInt then Int32.ofInt 3000 else if (l - l / p).toInt < s.toInt then y else t_late p s n (y + Int32.ofInt 1) (l - l / p)).toInt ∧ (if l.toInt < p.toInt then Int32.ofInt 3000 else if (l - l / p).toInt < s.toInt then y else t_late p s n (y + Int32.ofInt 1) (l - l / p)).toInt ≤ 3000
    have e := j_inc1 (x := y) (by omega)
    by_cases h : l.toInt < p.toInt
    · rw [if_pos h, q]; omega
    · rw [if_neg h]
      by_cases g : (l - l / p).toInt < s.toInt
      · rw [if_pos g]; omega
      · rw [if_neg g]
        exact ih (y + Int32.ofInt 1) (l - l / p) (by omega) (by omega)
theorem z_te_b {p m d s : Int32} : 0 ≤ (z_te p m d s).toInt ∧ (z_te p m d s).toInt ≤ 3000 := t_early_b 3000 _ _ (by decide) (by decide)
theorem z_tl_b {p m d s : Int32} : 0 ≤ (z_tl p m d s).toInt ∧ (z_tl p m d s).toInt ≤ 3000 := t_late_b 3000 _ _ (by decide) (by decide)
theorem z_yr {x y w : Int32} (hx : 0 ≤ x.toInt ∧ x.toInt ≤ 3000) (hy : 0 ≤ y.toInt ∧ y.toInt ≤ 3000) (hw : 0 ≤ w.toInt ∧ w.toInt ≤ 3000) : ((x + y) - w).toInt = x.toInt + y.toInt - w.toInt := by
  have e : (x + y).toInt = x.toInt + y.toInt := j_addI (by omega) (by omega)
  rw [j_subI (by omega) (by omega), e]
theorem z_r0l' {p d s : Int32} (p0 : 0 ≤ p.toInt) (p1 : p.toInt ≤ 10008) (d0 : 0 ≤ d.toInt) (d1 : d.toInt ≤ 10008) (s0 : 0 ≤ s.toInt) (s1 : s.toInt ≤ 9) : 0 ≤ (((if Int32.ofInt (0) < (p - s) then (p - s) else Int32.ofInt (0)) + d) + s).toInt := by
  have e2 : (p - s).toInt = p.toInt - s.toInt := j_subI (by omega) (by omega)
  have e3 := z_mxb (y := p - s) (by omega)
  have e4 : ((if Int32.ofInt (0) < (p - s) then (p - s) else Int32.ofInt (0)) + d).toInt = (if Int32.ofInt (0) < (p - s) then (p - s) else Int32.ofInt (0)).toInt + d.toInt := j_addI (by omega) (by omega)
  rw [j_addI (by omega) (by omega)]
  omega
theorem z_mis_c {A B : j_Z} {c p : Int32} {k : Nat} (e : z_eq A B) (lk : z_lt A 1 k) : z_mis A c p k = z_mis B c p k := by
  unfold z_mis
  rw [z_tp_c e lk, e.2.2.2.1 k 1 lk (by decide), e.2.2.2.1 k 2 lk (by decide), e.2.2.2.1 k 3 lk (by decide), e.2.2.2.1 k 4 lk (by decide), e.2.2.2.1 k 6 lk (by decide)]
section MI
variable {z : j_Z} {c p : Int32} {k : Nat}
theorem z_mis6 (h : (z.2.2.2.1 k 6).toInt = 0) : z_mis z c p k = false := by
  unfold z_mis
  rw [decide_eq_false (fun q => q h), Bool.false_and]
theorem z_mis1 (h : ¬ (z.2.2.2.1 k 1).toInt = c.toInt) : z_mis z c p k = false := by
  unfold z_mis
  rw [decide_eq_false h, Bool.false_and, Bool.and_false]
theorem z_misE (h6 : ¬ (z.2.2.2.1 k 6).toInt = 0) (h1 : (z.2.2.2.1 k 1).toInt = c.toInt) : z_mis z c p k = (decide ((z_tl p (z.2.2.2.1 k 2) (z.2.2.2.1 k 3) (z.2.2.2.1 k 4)).toInt < (z_te (z_tp z k) (z.2.2.2.1 k 2) (z.2.2.2.1 k 3) (z.2.2.2.1 k 4)).toInt) || decide ((z_tl (z_tp z k) (z.2.2.2.1 k 2) (z.2.2.2.1 k 3) (z.2.2.2.1 k 4)).toInt < (z_te p (z.2.2.2.1 k 2) (z.2.2.2.1 k 3) (z.2.2.2.1 k 4)).toInt)) := by
  unfold z_mis
  rw [decide_eq_true h6, decide_eq_true h1, Bool.true_and, Bool.true_and]
end MI
theorem z_cn0 {f : Nat → Bool} {n : Nat} (h : f n = false) : z_cnt f (n + 1) = z_cnt f n := by
  show z_cnt f n + (if f n = true then Int32.ofInt 1 else Int32.ofInt 0) = _
  rw [h]
  exact Int32.add_zero _
theorem z_cn1 {f : Nat → Bool} {n : Nat} (h : f n = true) : z_cnt f (n + 1) = z_cnt f n + Int32.ofInt 1 := by
  show z_cnt f n + (if f n = true then Int32.ofInt 1 else Int32.ofInt 0) = _
  rw [if_pos h]
set_option maxHeartbeats 4000000 in
set_option maxRecDepth 20000 in
theorem c_Run_missx {h : j_H} {x k y : Nat} {a : Int32} (I : z_I h x) (V : z_V (z_c h x)) (hk : z_in h x 1 k) (hy : z_el h x 1 k = y) (ky : j_kd h y = some (.inl 7)) (ha : 2 ≤ a.toInt) : j_Ct 160 2 48 0 0 [j_r (some y), j_i a] h (fun v h' => h' = h ∧ v = some (j_i (z_b (decide ((z_tl a (j_it h y 2) (j_it h y 3) (j_it h y 4)).toInt < (z_te (z_tp (z_c h x) k) (j_it h y 2) (j_it h y 3) (j_it h y 4)).toInt) || decide ((z_tl (z_tp (z_c h x) k) (j_it h y 2) (j_it h y 3) (j_it h y 4)).toInt < (z_te a (j_it h y 2) (j_it h y 3) (j_it h y 4)).toInt))))) j_no := by
  refine j_intro km_160 (Nat.le_of_ble_eq_true rfl) ?_
  intro J hJ hF
  have hk0 : z_lt (z_c h x) 1 k := hk
  obtain ⟨-, vm, vd, vs⟩ := V.2.2.2 k hk0
  have d2 : (z_c h x).2.2.2.1 k 2 = j_it h y 2 := by rw [← hy]; rfl
  have d3 : (z_c h x).2.2.2.1 k 3 = j_it h y 3 := by rw [← hy]; rfl
  have d4 : (z_c h x).2.2.2.1 k 4 = j_it h y 4 := by rw [← hy]; rfl
  rw [d2] at vm
  rw [d3] at vd
  rw [d4] at vs
  have c8 : j_it h y 8 = z_te (z_tp (z_c h x) k) (j_it h y 2) (j_it h y 3) (j_it h y 4) := by
    unfold z_tp
    rw [z_pwx, ← hy]
    exact (I.2 k hk).1
  have c9 : j_it h y 9 = z_tl (z_tp (z_c h x) k) (j_it h y 2) (j_it h y 3) (j_it h y 4) := by
    unfold z_tp
    rw [z_pwx, ← hy]
    exact (I.2 k hk).2
  obtain ⟨Ea, hEa⟩ : ∃ r, r = z_te a (j_it h y 2) (j_it h y 3) (j_it h y 4) := ⟨_, rfl⟩
  obtain ⟨La, hLa⟩ : ∃ r, r = z_tl a (j_it h y 2) (j_it h y 3) (j_it h y 4) := ⟨_, rfl⟩
  obtain ⟨En, hEn⟩ : ∃ r, r = z_te (z_tp (z_c h x) k) (j_it h y 2) (j_it h y 3) (j_it h y 4) := ⟨_, rfl⟩
  obtain ⟨Ln, hLn⟩ : ∃ r, r = z_tl (z_tp (z_c h x) k) (j_it h y 2) (j_it h y 3) (j_it h y 4) := ⟨_, rfl⟩
  rw [← hEa, ← hLa, ← hEn, ← hLn] at hJ
  rw [← hEn] at c8
  rw [← hLn] at c9
  refine hJ [] 400 _ _ _ _ _ _ ?_
  conv => whnf
  refine ⟨_, rfl, ky, fun x1 ex1 => ?_⟩
  obtain rfl : x1 = j_it h y 2 := ex1.symm
  conv => whnf
  refine ⟨_, rfl, ky, fun x2 ex2 => ?_⟩
  obtain rfl : x2 = j_it h y 3 := ex2.symm
  conv => whnf
  refine ⟨_, rfl, ky, fun x3 ex3 => ?_⟩
  obtain rfl : x3 = j_it h y 4 := ex3.symm
  conv => whnf
  refine ⟨rfl, _, _, _, _, _, _, c_Table_earlyx ha (z_r0e vm.1 vm.2 vd.1 vd.2 vs.1 vs.2), ⟨Nat.le_of_ble_eq_true rfl, Nat.le_of_ble_eq_true rfl, Nat.le_of_ble_eq_true rfl, Nat.le_of_ble_eq_true rfl⟩, fun _ _ z => False.elim z, ?_⟩
  rintro v9 h9 ⟨e9, er⟩
  obtain rfl : v9 = some (j_i Ea) := er.trans (congrArg (fun r => some (j_i r)) (by rw [hEa]; rfl))
  obtain rfl : h = h9 := e9.symm
  conv => whnf
  refine ⟨_, rfl, ky, fun x5 ex5 => ?_⟩
  obtain rfl : x5 = j_it h y 2 := ex5.symm
  conv => whnf
  refine ⟨_, rfl, ky, fun x6 ex6 => ?_⟩
  obtain rfl : x6 = j_it h y 3 := ex6.symm
  conv => whnf
  refine ⟨_, rfl, ky, fun x7 ex7 => ?_⟩
  obtain rfl : x7 = j_it h y 4 := ex7.symm
  conv => whnf
  refine ⟨rfl, _, _, _, _, _, _, c_Table_latex ha (z_r0l' vm.1 vm.2 vd.1 vd.2 vs.1 vs.2), ⟨Nat.le_of_ble_eq_true rfl, Nat.le_of_ble_eq_true rfl, Nat.le_of_ble_eq_true rfl, Nat.le_of_ble_eq_true rfl⟩, fun _ _ z => False.elim z, ?_⟩
  rintro v9 h9 ⟨e9, er⟩
  obtain rfl : v9 = some (j_i La) := er.trans (congrArg (fun r => some (j_i r)) (by rw [hLa]; rfl))
  obtain rfl : h = h9 := e9.symm
  conv => whnf
  refine ⟨_, rfl, ky, fun x9 ex9 => ?_⟩
  obtain rfl : x9 = En := ex9.symm.trans c8
  conv => whnf
  refine ⟨fun c12 => ?_, fun c12 => ?_⟩
  · have c12 : La.toInt < x9.toInt := c12
    conv => whnf
    refine ⟨Or.inr rfl, ⟨Nat.le_of_ble_eq_true rfl, Nat.le_of_ble_eq_true rfl⟩, rfl, congrArg (fun r => some (j_i r)) (show Int32.ofInt 1 = _ from ?_)⟩
    rw [decide_eq_true c12]
    rfl
  · have c12 : ¬ La.toInt < x9.toInt := c12
    conv => whnf
    refine ⟨_, rfl, ky, fun x13 ex13 => ?_⟩
    obtain rfl : x13 = Ln := ex13.symm.trans c9
    conv => whnf
    refine ⟨fun c16 => ?_, fun c16 => ?_⟩
    · have c16 : Ea.toInt ≤ x13.toInt := c16
      conv => whnf
      refine ⟨Or.inl rfl, ⟨Nat.le_of_ble_eq_true rfl, Nat.le_of_ble_eq_true rfl⟩, rfl, congrArg (fun r => some (j_i r)) (show Int32.ofInt 0 = _ from ?_)⟩
      rw [decide_eq_false c12, decide_eq_false (show ¬ x13.toInt < Ea.toInt by omega)]
      rfl
    · have c16 : ¬ Ea.toInt ≤ x13.toInt := c16
      conv => whnf
      refine ⟨Or.inr rfl, ⟨Nat.le_of_ble_eq_true rfl, Nat.le_of_ble_eq_true rfl⟩, rfl, congrArg (fun r => some (j_i r)) (show Int32.ofInt 1 = _ from ?_)⟩
      rw [decide_eq_true (show x13.toInt < Ea.toInt by omega), Bool.or_true]
      rfl
set_option maxHeartbeats 4000000 in
set_option maxRecDepth 20000 in
theorem c_G_changedx {h : j_H} {x : Nat} {a b : Int32} (hW : j_WF h x) (I : z_I h x) (V : z_V (z_c h x)) : j_Ct 84 6 90 1 6 [j_r (some x), j_i a, j_i b] h (fun v h' => ((a.toInt = 0 ∨ a.toInt = 1) ∧ (2 ≤ b.toInt ∧ b.toInt ≤ 200)) ∧ v = some (j_i (z_chg (z_c h x) a b)) ∧ h' = h) (fun k h' => ((k = 2 ∧ ¬ (a.toInt = 0 ∨ a.toInt = 1)) ∨ (k = 0 ∧ (a.toInt = 0 ∨ a.toInt = 1) ∧ ¬ (2 ≤ b.toInt ∧ b.toInt ≤ 200))) ∧ h' = h) := by
  refine j_intro km_84 (Nat.le_of_ble_eq_true rfl) ?_
  intro J hJ hF
  obtain ⟨kx, hG, L0, L1, L2, e0, l0, e1, l1, e2, l2, ap, pn⟩ := id hW
  have b1 := l1.2.1; have d1 := l1.2.2.1
  have eR : j_sz h x 1 = j_it h L1 2 := j_sz_e e1
  have clR := j_clamp b1
  have z2 : (Int32.ofInt 2).toInt = 2 := by decide
  have z200 : ((Int16.ofInt 200).toInt32).toInt = 200 := by decide
  refine hJ [43] 400 _ _ _ _ _ _ ?_
  conv => whnf
  refine ⟨rfl, _, _, _, _, _, _, c_isClockx, ⟨Nat.le_of_ble_eq_true rfl, Nat.le_of_ble_eq_true rfl, Nat.le_of_ble_eq_true rfl, Nat.le_of_ble_eq_true rfl⟩, fun _ _ z => False.elim z, ?_⟩
  rintro v9 h9 ⟨e9, r1, rfl, zr1⟩
  have mr1 := j_zy zr1
  obtain rfl : h = h9 := e9.symm
  conv => whnf
  refine ⟨fun c2 => ?_, fun c2 => ?_⟩
  rotate_left
  · have c2 : ¬ ¬ r1.toInt = 0 := c2
    have kb : ¬ (a.toInt = 0 ∨ a.toInt = 1) := by
      rcases mr1 with ⟨q, -⟩ | ⟨-, q⟩
      · exact absurd q c2
      · exact q
    conv => whnf
    exact ⟨⟨Nat.le_of_ble_eq_true rfl, Nat.le_of_ble_eq_true rfl⟩, ⟨Nat.le_of_ble_eq_true rfl, Nat.le_of_ble_eq_true rfl⟩, Or.inl ⟨rfl, kb⟩, rfl⟩
  have c2 : ¬ r1.toInt = 0 := c2
  have ka : (a.toInt = 0 ∨ a.toInt = 1) := by
    rcases mr1 with ⟨-, q⟩ | ⟨q, -⟩
    · exact q
    · exact absurd q c2
  conv => whnf
  refine ⟨rfl, _, _, _, _, _, _, c_within, ⟨Nat.le_of_ble_eq_true rfl, Nat.le_of_ble_eq_true rfl, Nat.le_of_ble_eq_true rfl, Nat.le_of_ble_eq_true rfl⟩, fun _ _ z => False.elim z, ?_⟩
  rintro v9 h9 ⟨e9, r7, rfl, zr7⟩
  have mr7 := j_zx zr7
  obtain rfl : h = h9 := e9.symm
  conv => whnf
  refine ⟨fun c8 => ?_, fun c8 => ?_⟩
  rotate_left
  · have c8 : ¬ ¬ r7.toInt = 0 := c8
    have kc : ¬ (2 ≤ b.toInt ∧ b.toInt ≤ 200) := by
      rcases mr7 with ⟨q, -⟩ | ⟨-, q⟩
      · exact absurd q c8
      · intro z
        refine q ⟨?_, ?_⟩
        · show (Int32.ofInt 2).toInt ≤ _; omega
        · show _ ≤ ((Int16.ofInt 200).toInt32).toInt; omega
    conv => whnf
    exact ⟨⟨Nat.le_of_ble_eq_true rfl, Nat.le_of_ble_eq_true rfl⟩, ⟨Nat.le_of_ble_eq_true rfl, Nat.le_of_ble_eq_true rfl⟩, Or.inr ⟨rfl, ka, kc⟩, rfl⟩
  have c8 : ¬ r7.toInt = 0 := c8
  have kc : (2 ≤ b.toInt ∧ b.toInt ≤ 200) := by
    rcases mr7 with ⟨-, q1, q2⟩ | ⟨q, -⟩
    · have q1 : (Int32.ofInt 2).toInt ≤ b.toInt := q1
      have q2 : b.toInt ≤ ((Int16.ofInt 200).toInt32).toInt := q2
      omega
    · exact absurd q c8
  have L4 : ∀ (n : Nat) (v2 : Int32), 0 ≤ v2.toInt → v2.toInt ≤ (j_it h L1 2).toInt → (j_it h L1 2).toInt - v2.toInt < (n : Int) → J 43 [some (j_r (some x)), some (j_i a), some (j_i b), some (j_i (z_cnt (z_mis (z_c h x) a b) v2.toNatClampNeg)), some (j_i v2), none] [] h 0 0 := by
    intro n
    induction n with
    | zero => intro v2 hn hm hz; omega
    | succ n ih4 =>
      intro v2 hn hm hz
      have cl := j_clamp hn
      refine hJ [43] 400 _ _ _ _ _ _ ?_
      conv => whnf
      refine ⟨_, rfl, kx, fun o3 eo => ?_⟩
      obtain rfl : o3 = some L1 := eo.symm.trans e1
      conv => whnf
      refine ⟨l1.1, rfl, _, _, _, _, _, _, c_AL_size (h := h) l1 j_Sc.rf j_sf_ok, ⟨Nat.le_of_ble_eq_true rfl, Nat.le_of_ble_eq_true rfl, Nat.le_of_ble_eq_true rfl, Nat.le_of_ble_eq_true rfl⟩, fun _ _ z => False.elim z, ?_⟩
      rintro v9 h9 ⟨e9, rfl⟩
      obtain rfl : h = h9 := e9.symm
      conv => whnf
      refine ⟨fun c4 => ?_, fun c4 => ?_⟩
      · have c4 : (j_it h L1 2).toInt ≤ v2.toInt := c4
        have ev : v2.toNatClampNeg = (j_sz h x 1).toNatClampNeg := by rw [eR]; omega
        conv => whnf
        exact ⟨trivial, ⟨Nat.le_of_ble_eq_true rfl, Nat.le_of_ble_eq_true rfl⟩, ⟨ka, kc⟩, by rw [ev]; rfl, rfl⟩
      · have c4 : ¬ (j_it h L1 2).toInt ≤ v2.toInt := c4
        have hin : z_in h x 1 v2.toNatClampNeg := by unfold z_in; rw [eR]; omega
        have t14 : (v2 + Int32.ofInt 1).toInt = v2.toInt + 1 := j_inc1 (by omega)
        have cl2 := j_clamp (i := v2 + Int32.ofInt 1) (by omega)
        have ek : (v2 + Int32.ofInt 1).toNatClampNeg = v2.toNatClampNeg + 1 := by omega
        have nx := ih4 (v2 + Int32.ofInt 1) (by omega) (by omega) (by omega)
        rw [ek] at nx
        clear ih4
        conv => whnf
        refine ⟨_, rfl, kx, fun o5 eo => ?_⟩
        obtain rfl : o5 = some L1 := eo.symm.trans e1
        conv => whnf
        refine ⟨l1.1, rfl, _, _, _, _, _, _, c_AL_get (h := h) l1 j_Sc.rf j_sf_ok (by omega) (by omega), ⟨Nat.le_of_ble_eq_true rfl, Nat.le_of_ble_eq_true rfl, Nat.le_of_ble_eq_true rfl, Nat.le_of_ble_eq_true rfl⟩, fun _ _ z => False.elim z, ?_⟩
        rintro v9 h9 ⟨e9, y, rfl, ky, xg6⟩
        obtain rfl : h = h9 := e9.symm
        have hy : z_el h x 1 v2.toNatClampNeg = y := z_el_get e1 xg6
        have r1 : (z_c h x).2.2.2.1 v2.toNatClampNeg 1 = j_it h y 1 := by rw [← hy]; rfl
        have r2 : (z_c h x).2.2.2.1 v2.toNatClampNeg 2 = j_it h y 2 := by rw [← hy]; rfl
        have r3 : (z_c h x).2.2.2.1 v2.toNatClampNeg 3 = j_it h y 3 := by rw [← hy]; rfl
        have r4 : (z_c h x).2.2.2.1 v2.toNatClampNeg 4 = j_it h y 4 := by rw [← hy]; rfl
        have r6 : (z_c h x).2.2.2.1 v2.toNatClampNeg 6 = j_it h y 7 := by rw [← hy]; rfl
        conv => whnf
        refine ⟨Or.inr ⟨_, rfl, ky⟩, ?_⟩
        conv => whnf
        refine ⟨_, rfl, ky, fun x7 ex7 => ?_⟩
        obtain rfl : x7 = j_it h y 7 := ex7.symm
        conv => whnf
        refine ⟨fun c12 => ?_, fun c12 => ?_⟩
        · have c12 : (j_it h y 7).toInt = 0 := c12
          rw [z_cn0 (z_mis6 (by rw [r6]; exact c12))] at nx
          exact j_use hF nx (And.intro rfl (And.intro rfl (And.intro rfl (And.intro rfl (And.intro rfl trivial)))))
        · have c12 : ¬ (j_it h y 7).toInt = 0 := c12
          conv => whnf
          refine ⟨_, rfl, ky, fun x14 ex14 => ?_⟩
          obtain rfl : x14 = j_it h y 1 := ex14.symm
          conv => whnf
          refine ⟨fun c17 => ?_, fun c17 => ?_⟩
          · have c17 : ¬ (j_it h y 1).toInt = a.toInt := c17
            rw [z_cn0 (z_mis1 (by rw [r1]; exact c17))] at nx
            exact j_use hF nx (And.intro rfl (And.intro rfl (And.intro rfl (And.intro rfl (And.intro rfl trivial)))))
          · have c17 : ¬ ¬ (j_it h y 1).toInt = a.toInt := c17
            have me := z_misE (z := z_c h x) (c := a) (p := b) (k := v2.toNatClampNeg) (by rw [r6]; exact c12) (by rw [r1]; exact Classical.not_not.mp c17)
            rw [r2, r3, r4] at me
            conv => whnf
            refine ⟨ky, rfl, _, _, _, _, _, _, c_Run_missx I V hin hy ky kc.1, ⟨Nat.le_of_ble_eq_true rfl, Nat.le_of_ble_eq_true rfl, Nat.le_of_ble_eq_true rfl, Nat.le_of_ble_eq_true rfl⟩, fun _ _ z => False.elim z, ?_⟩
            rintro v9 h9 ⟨e9, rfl⟩
            obtain rfl : h = h9 := e9.symm
            rw [← me]
            conv => whnf
            refine ⟨fun c20 => ?_, fun c20 => ?_⟩
            · have c20 : (z_b (z_mis (z_c h x) a b v2.toNatClampNeg)).toInt = 0 := c20
              rw [z_cn0 (z_b0.mp c20)] at nx
              exact j_use hF nx (And.intro rfl (And.intro rfl (And.intro rfl (And.intro rfl (And.intro rfl trivial)))))
            · have c20 : ¬ (z_b (z_mis (z_c h x) a b v2.toNatClampNeg)).toInt = 0 := c20
              rw [z_cn1 (z_bn c20)] at nx
              exact j_use hF nx (And.intro rfl (And.intro rfl (And.intro rfl (And.intro rfl (And.intro rfl trivial)))))
  have cl0 : (Int32.ofInt 0).toNatClampNeg = 0 := by decide
  have st := L4 100 (Int32.ofInt 0) (by decide) (by have : (Int32.ofInt 0).toInt = 0 := (by decide); omega) (by have : (Int32.ofInt 0).toInt = 0 := (by decide); omega)
  rw [cl0] at st
  exact j_use hF st (And.intro rfl (And.intro rfl (And.intro rfl (And.intro rfl (And.intro rfl trivial)))))
set_option maxHeartbeats 4000000 in
set_option maxRecDepth 20000 in
theorem c_Lw_changedx {h : j_H} {x out : Nat} {a b : Int32} (hW : j_WF h x) (I : z_I h x) (V : z_V (z_c h x)) (ko : j_kd h out = some (.inl 9)) : j_Ct 232 7 115 1 6 [j_r (some x), j_i a, j_i b, j_r (some out)] h (z_LQ x out h (q_pace a b) (z_chg (z_c h x) a b) (z_c h x)) j_no := by
  refine j_intro km_232 (Nat.le_of_ble_eq_true rfl) ?_
  intro J hJ hF
  refine hJ [] 400 _ _ _ _ _ _ ?_
  conv => whnf
  refine ⟨hW.1, rfl, _, _, _, _, _, _, c_G_changedx hW I V, ⟨Nat.le_of_ble_eq_true rfl, Nat.le_of_ble_eq_true rfl, Nat.le_of_ble_eq_true rfl, Nat.le_of_ble_eq_true rfl⟩, ?_, ?_⟩
  · rintro k9 h9 ⟨hk, e9⟩
    obtain rfl : h = h9 := e9.symm
    rcases hk with ⟨rfl, c1⟩ | ⟨rfl, c1, c2⟩
    · conv => whnf
      intro a9
      conv => whnf
      exact ⟨trivial, ⟨Nat.le_of_ble_eq_true rfl, Nat.le_of_ble_eq_true rfl⟩, z_LQ.no hW I (j_cqn c1) (by decide)⟩
    · conv => whnf
      intro a9
      conv => whnf
      exact ⟨trivial, ⟨Nat.le_of_ble_eq_true rfl, Nat.le_of_ble_eq_true rfl⟩, z_LQ.no hW I ((j_cqp c1).trans (j_cqn c2)) (by decide)⟩
  · rintro v9 h9 ⟨⟨c1, c2⟩, rfl, e9⟩
    obtain rfl : h = h9 := e9.symm
    conv => whnf
    refine ⟨_, rfl, ko, ?_⟩
    conv => whnf
    exact ⟨trivial, ⟨Nat.le_of_ble_eq_true rfl, Nat.le_of_ble_eq_true rfl⟩, z_LQ.ok ko ((j_cqp c1).trans (j_cqp c2)) ⟨hW, j_On.rf, fun _ z _ => z⟩ I z_eq.rf⟩
