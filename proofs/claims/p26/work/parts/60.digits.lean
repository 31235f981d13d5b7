/-! numbers in decimal -/
def j_dg : Nat → Nat → Nat
  | 0, _ => 1
  | f + 1, n => if n < 10 then 1 else if n < 100 then 2 else j_dg f (n / 100) + 2
theorem j_dg_le : ∀ (f n k : Nat), 1 ≤ k → n < 10 ^ k → j_dg f n ≤ k := by
  intro f
  induction f with
  | zero => intro n k hk _; exact hk
  | succ f ih =>
    intro n k hk hn
    unfold j_dg
    split
    · exact hk
    · split
      · match k, hk, hn with
        | 1, _, hn => omega
        | k + 2, _, _ => omega
      · match k, hk, hn with
        | 1, _, hn => omega
        | 2, _, hn => omega
        | k + 3, _, hn =>
          have e : 10 ^ (k + 3) = 10 ^ (k + 1) * 100 := by rw [show k + 3 = (k + 1) + 2 from rfl, Nat.pow_add]
          have := ih (n / 100) (k + 1) (by omega) (by omega)
          omega
theorem j_negI {x : Int32} (h : x.toInt ≠ -2147483648) : (-x).toInt = -x.toInt := by
  have h1 := j_lb x
  have h2 := j_ub x
  rw [Int32.toInt_neg, Int.bmod_def]
  omega
theorem j_pows : ∀ k : Nat, k ≤ 9 → 10 ^ k ≤ 1000000000 := by decide
set_option maxRecDepth 20000 in
theorem c_stringSize {h : j_H} {x : Int32} : j_Ct 15 0 0 0 0 [j_i x] h (fun v h' => h' = h ∧ ∃ r, v = some (j_i r) ∧ 1 ≤ r.toInt ∧ r.toInt ≤ 11 ∧ ∀ f, (j_dg f x.toInt.natAbs : Int) + (if x.toInt < 0 then 1 else 0) ≤ r.toInt) j_no := by
  have b1 := j_lb x
  have b2 := j_ub x
  have z1 : (Int32.ofInt 1).toInt = 1 := by decide
  have z0 : (Int32.ofInt 0).toInt = 0 := by decide
  have z10 : ((Int8.ofInt 10).toInt32).toInt = 10 := by decide
  refine j_intro km_15 (Nat.le_of_ble_eq_true rfl) ?_
  intro J hJ hF
  have fin : ∀ (k : Nat) (d : Int), 1 ≤ k → x.toInt.natAbs < 10 ^ k → 0 ≤ d → (x.toInt < 0 → d = 1) → ∀ f, (j_dg f x.toInt.natAbs : Int) + (if x.toInt < 0 then 1 else 0) ≤ k + d := by
    intro k d hk hx hd hs f
    have := j_dg_le f x.toInt.natAbs k hk hx
    split
    · have := hs (by assumption); omega
    · omega
  have L : ∀ (m : Nat) (y d p i : Int32) (k : Nat), 10 ≤ k + m → 1 ≤ k → k ≤ 10 → i.toInt = (k : Int) → (k ≤ 9 → p.toInt = -((10 ^ k : Nat) : Int)) → y.toInt ≤ 0 → y.toInt.natAbs = x.toInt.natAbs → 0 ≤ d.toInt → d.toInt ≤ 1 → (x.toInt < 0 → d.toInt = 1) → J 16 [some (j_i y), some (j_i d), some (j_i p), some (j_i i)] [] h 0 0 := by
    intro m
    induction m with
    | zero =>
      intro y d p i k hm k1 k2 hi hp y0 ya d0 d1 ds
      refine hJ [16] 400 _ _ _ _ _ _ ?_
      conv => whnf
      refine ⟨fun c => ?_, fun c => absurd (show ((Int8.ofInt 10).toInt32).toInt ≤ i.toInt by omega) (show ¬ ((Int8.ofInt 10).toInt32).toInt ≤ i.toInt from c)⟩
      have e : ((Int8.ofInt 10).toInt32 + d).toInt = 10 + d.toInt := by rw [j_addI (by omega) (by omega), z10]
      conv => whnf
      exact ⟨trivial, ⟨Nat.le_of_ble_eq_true rfl, Nat.le_of_ble_eq_true rfl⟩, rfl, _, rfl, by omega, by omega, fun f => by rw [e]; exact fin 10 d.toInt (by omega) (by omega) d0 ds f⟩
    | succ m ih =>
      intro y d p i k hm k1 k2 hi hp y0 ya d0 d1 ds
      refine hJ [16] 400 _ _ _ _ _ _ ?_
      conv => whnf
      refine ⟨fun c => ?_, fun c => ?_⟩
      · have e : ((Int8.ofInt 10).toInt32 + d).toInt = 10 + d.toInt := by rw [j_addI (by omega) (by omega), z10]
        conv => whnf
        exact ⟨trivial, ⟨Nat.le_of_ble_eq_true rfl, Nat.le_of_ble_eq_true rfl⟩, rfl, _, rfl, by omega, by omega, fun f => by rw [e]; exact fin 10 d.toInt (by omega) (by omega) d0 ds f⟩
      · have c : ¬ ((Int8.ofInt 10).toInt32).toInt ≤ i.toInt := c
        have hp := hp (by omega)
        have pw := j_pows k (by omega)
        conv => whnf
        refine ⟨fun c2 => ?_, fun c2 => ?_⟩
        · have ei : (i + Int32.ofInt 1).toInt = ((k + 1 : Nat) : Int) := by rw [j_addI (by omega) (by omega), z1]; omega
          refine j_use hF (ih y d ((Int8.ofInt 10).toInt32 * p) (i + Int32.ofInt 1) (k + 1) (by omega) (by omega) (by omega) ei (fun hk => ?_) y0 ya d0 d1 ds) (And.intro rfl (And.intro rfl (And.intro rfl (And.intro rfl trivial))))
          have pw1 := j_pows (k + 1) hk
          have e2 : 10 ^ (k + 1) = 10 ^ k * 10 := Nat.pow_succ 10 k
          rw [Int32.toInt_mul, z10, Int.bmod_def]
          omega
        · have c2 : ¬ y.toInt ≤ p.toInt := c2
          have e : (i + d).toInt = (k : Int) + d.toInt := by rw [j_addI (by omega) (by omega), hi]
          conv => whnf
          exact ⟨trivial, ⟨Nat.le_of_ble_eq_true rfl, Nat.le_of_ble_eq_true rfl⟩, rfl, _, rfl, by omega, by omega, fun f => by rw [e]; exact fin k d.toInt k1 (by omega) d0 ds f⟩
  refine hJ [16] 400 _ _ _ _ _ _ ?_
  conv => whnf
  refine ⟨fun c => ?_, fun c => ?_⟩
  · have c : x.toInt < 0 := c
    exact j_use hF (L 9 x (Int32.ofInt 1) (Int8.ofInt (-10)).toInt32 (Int32.ofInt 1) 1 (by omega) (by omega) (by omega) (by decide) (fun _ => by decide) (by omega) rfl (by decide) (by decide) (fun _ => by decide)) (And.intro rfl (And.intro rfl (And.intro rfl (And.intro rfl trivial))))
  · have c : ¬ x.toInt < 0 := c
    have e := j_negI (x := x) (by omega)
    exact j_use hF (L 9 (-x) (Int32.ofInt 0) (Int8.ofInt (-10)).toInt32 (Int32.ofInt 1) 1 (by omega) (by omega) (by omega) (by decide) (fun _ => by decide) (by omega) (by omega) (by decide) (by decide) (fun z => absurd z c)) (And.intro rfl (And.intro rfl (And.intro rfl (And.intro rfl trivial))))
/-- only the bytes of b have changed -/
def j_Gc (b : Nat) (h h' : j_H) : Prop := j_On (fun q => q = b) h h' ∧ (j_Bf h b → j_Bf h' b) ∧ ∀ q, j_kd h' q = j_kd h q
theorem j_Gc.rf {b : Nat} {h : j_H} : j_Gc b h h := ⟨j_On.rf, id, fun _ => rfl⟩
theorem j_Gc.ui {b i : Nat} {x : Int32} {h h1 : j_H} (g : j_Gc b h h1) : j_Gc b h (j_ui h1 b i x.toInt8.toInt32) := ⟨g.1.trans (j_On.up (v := j_i x.toInt8.toInt32) rfl), fun f => (g.2.1 f).ui, fun q => g.2.2 q⟩
theorem j_td {y : Int32} (y0 : y.toInt ≤ 0) : (y / (Int8.ofInt 100).toInt32).toInt = -((y.toInt.natAbs / 100 : Nat) : Int) := by
  have b1 := j_lb y
  have z : ((Int8.ofInt 100).toInt32).toInt = 100 := by decide
  have e : y.toInt.tdiv 100 = -((y.toInt.natAbs / 100 : Nat) : Int) := by
    have e1 : y.toInt = -((y.toInt.natAbs : Nat) : Int) := by omega
    generalize y.toInt.natAbs = n at e1 ⊢
    rw [e1, Int.neg_tdiv, Int.tdiv_eq_ediv_of_nonneg (by omega)]
    omega
  rw [Int32.toInt_div, z, e, Int.bmod_def]
  omega
theorem j_zm : (Int32.ofInt (-1)).toInt = -1 := by decide
theorem j_zh : ((Int8.ofInt (-100)).toInt32).toInt = -100 := by decide
theorem j_zp : ((Int8.ofInt 100).toInt32).toInt = 100 := by decide
theorem j_z9 : ((Int8.ofInt (-9)).toInt32).toInt = -9 := by decide
theorem j_m1 {q : Int32} (hq : 1 ≤ q.toInt) : (q + Int32.ofInt (-1)).toInt = q.toInt - 1 := by
  have := j_ub q
  have e : (Int32.ofInt (-1)).toInt = -1 := j_zm
  rw [j_addI (by omega) (by omega)]; omega
theorem j_m2 {q : Int32} (hq : 2 ≤ q.toInt) : (q + Int32.ofInt (-1) + Int32.ofInt (-1)).toInt = q.toInt - 2 := by
  rw [j_m1 (by rw [j_m1 (by omega)]; omega), j_m1 (by omega)]
  omega
theorem j_em {y : Int32} (y0 : y.toInt ≤ 0) : (y / (Int8.ofInt 100).toInt32 * (Int8.ofInt 100).toInt32).toInt = -((y.toInt.natAbs / 100 * 100 : Nat) : Int) := by
  have b3 := j_lb y
  rw [Int32.toInt_mul, j_td y0, j_zp, Int.bmod_def]
  omega
theorem j_rm {y : Int32} (y0 : y.toInt ≤ 0) : (y / (Int8.ofInt 100).toInt32 * (Int8.ofInt 100).toInt32 - y).toInt = ((y.toInt.natAbs % 100 : Nat) : Int) := by
  have b3 := j_lb y
  rw [j_subI (by rw [j_em y0]; omega) (by rw [j_em y0]; omega), j_em y0]
  omega
set_option maxHeartbeats 4000000 in
set_option maxRecDepth 20000 in
theorem c_getChars {h : j_H} {x p : Int32} {b : Nat} (kb : j_kd h b = some (.inr 1)) (lb : j_ln h b ≤ 100) (sa : j_SA h) (hp : p.toInt ≤ (j_ln h b : Int)) (hd : (j_dg 6 x.toInt.natAbs : Int) + (if x.toInt < 0 then 1 else 0) ≤ p.toInt) : j_Ct 14 0 0 0 0 [j_i x, j_i p, j_r (some b)] h (fun v h' => j_Gc b h h' ∧ ∃ r, v = some (j_i r)) j_no := by
  have b1 := j_lb x
  have b2 := j_ub x
  obtain ⟨F6, e6⟩ : ∃ F : Nat, F = 6 := ⟨6, rfl⟩
  rw [← e6] at hd
  obtain ⟨a1, s1, k1, l1⟩ := sa 1 (Or.inl rfl)
  obtain ⟨a2, s2, k2, l2⟩ := sa 2 (Or.inr rfl)
  have up : ∀ h1, j_Gc b h h1 → j_kd h1 b = some (.inr 1) ∧ j_ln h1 b = j_ln h b ∧ (j_st h1 1 = some a1 ∧ j_kd h1 a1 = some (.inr 11) ∧ j_ln h1 a1 = 100) ∧ (j_st h1 2 = some a2 ∧ j_kd h1 a2 = some (.inr 11) ∧ j_ln h1 a2 = 100) := fun h1 g =>
    ⟨(g.2.2 b).trans kb, (g.1.2 b (fun z => by rw [kb] at z; cases z)).2.1, ⟨by rw [g.1.1]; exact s1, (g.2.2 a1).trans k1, ((g.1.2 a1 (fun z => by rw [k1] at z; cases z)).2.1).trans l1⟩, ⟨by rw [g.1.1]; exact s2, (g.2.2 a2).trans k2, ((g.1.2 a2 (fun z => by rw [k2] at z; cases z)).2.1).trans l2⟩⟩
  refine j_intro km_14 (Nat.le_of_ble_eq_true rfl) ?_
  intro J hJ hF
  have S : ∀ (q sg : Int32) (h1 : j_H), j_Gc b h h1 → (sg.toInt ≠ 0 → 1 ≤ q.toInt) → q.toInt ≤ (j_ln h b : Int) → J 104 [none, none, some (j_r (some b)), none, none, some (j_i q), some (j_i sg)] [] h1 0 0 := by
    intro q sg h1 g hs hq
    obtain ⟨kb1, lb1, -, -⟩ := up h1 g
    refine hJ [] 400 _ _ _ _ _ _ ?_
    conv => whnf
    refine ⟨fun c => ?_, fun c => ?_⟩
    · conv => whnf
      exact ⟨trivial, ⟨Nat.le_of_ble_eq_true rfl, Nat.le_of_ble_eq_true rfl⟩, g, _, rfl⟩
    · have c : ¬ sg.toInt = 0 := c
      have hs := hs c
      conv => whnf
      refine ⟨_, rfl, kb1, j_vp (by rw [j_m1 hs]; omega) (by rw [j_m1 hs, lb1]; omega), ?_⟩
      have g3 := g.ui (i := (q + Int32.ofInt (-1)).toNatClampNeg) (x := (Int8.ofInt 45).toInt32)
      conv => whnf
      exact ⟨trivial, ⟨Nat.le_of_ble_eq_true rfl, Nat.le_of_ble_eq_true rfl⟩, g3, _, rfl⟩
  have Tl : ∀ (y q sg : Int32) (h1 : j_H), j_Gc b h h1 → -100 < y.toInt → y.toInt ≤ 0 → 1 + (if sg.toInt = 0 then 0 else 1) ≤ q.toInt → (10 ≤ y.toInt.natAbs → 2 + (if sg.toInt = 0 then 0 else 1) ≤ q.toInt) → q.toInt ≤ (j_ln h b : Int) → J 72 [some (j_i y), none, some (j_r (some b)), none, none, some (j_i q), some (j_i sg)] [] h1 0 0 := by
    intro y q sg h1 g hy y0 q1 q2 hq
    obtain ⟨kb1, lb1, ⟨t1, t2, t3⟩, ⟨u1, u2, u3⟩⟩ := up h1 g
    have hq1 : 1 ≤ q.toInt := by split at q1 <;> omega
    have ny := j_negI (x := y) (by omega)
    refine hJ [104] 400 _ _ _ _ _ _ ?_
    conv => whnf
    refine ⟨_, _, u1, u2, rfl, j_vp (by rw [ny]; omega) (by rw [ny, u3]; omega), fun v _ => ?_⟩
    conv => whnf
    refine ⟨_, rfl, kb1, j_vp (by rw [j_m1 hq1]; omega) (by rw [j_m1 hq1, lb1]; omega), ?_⟩
    have g2 := g.ui (i := (q + Int32.ofInt (-1)).toNatClampNeg) (x := v)
    conv => whnf
    refine ⟨fun c => ?_, fun c => ?_⟩
    · refine j_use hF (S (q + Int32.ofInt (-1)) sg _ g2 (fun n => ?_) (by rw [j_m1 hq1]; omega)) (And.intro rfl (And.intro rfl (And.intro rfl trivial)))
      rw [if_neg n] at q1
      rw [j_m1 hq1]
      omega
    · have c : ¬ -9 ≤ y.toInt := by rw [← j_z9]; exact c
      have q2 := q2 (by omega)
      have hq2 : 2 ≤ q.toInt := by split at q2 <;> omega
      obtain ⟨kb2, lb2, ⟨t1, t2, t3⟩, -⟩ := up _ g2
      conv => whnf
      refine ⟨_, _, t1, t2, rfl, j_vp (by rw [ny]; omega) (by rw [ny, t3]; omega), fun w _ => ?_⟩
      conv => whnf
      refine ⟨_, rfl, kb2, j_vp (by rw [j_m2 hq2]; omega) (by rw [j_m2 hq2, lb2]; omega), ?_⟩
      have g3 := g2.ui (i := (q + Int32.ofInt (-1) + Int32.ofInt (-1)).toNatClampNeg) (x := w)
      refine j_use hF (S (q + Int32.ofInt (-1) + Int32.ofInt (-1)) sg _ g3 (fun n => ?_) (by rw [j_m2 hq2]; omega)) (And.intro rfl (And.intro rfl (And.intro rfl trivial)))
      rw [if_neg n] at q2
      rw [j_m2 hq2]
      omega
  have L : ∀ (f : Nat) (y q sg : Int32) (h1 : j_H), j_Gc b h h1 → y.toInt ≤ 0 → y.toInt.natAbs < 100 ^ f → (j_dg f y.toInt.natAbs : Int) + (if sg.toInt = 0 then 0 else 1) ≤ q.toInt → q.toInt ≤ (j_ln h b : Int) → J 22 [some (j_i y), none, some (j_r (some b)), none, none, some (j_i q), some (j_i sg)] [] h1 0 0 := by
    intro f
    induction f with
    | zero =>
      intro y q sg h1 g y0 hy hd hq
      refine hJ [22, 72] 400 _ _ _ _ _ _ ?_
      conv => whnf
      refine ⟨fun c => ?_, fun c => absurd (show ((Int8.ofInt (-100)).toInt32).toInt < y.toInt by rw [j_zh]; omega) (show ¬ ((Int8.ofInt (-100)).toInt32).toInt < y.toInt from c)⟩
      clear c
      exact j_use hF (Tl y q sg h1 g (by omega) y0 hd (fun z => by omega) hq) (And.intro rfl (And.intro rfl (And.intro rfl (And.intro rfl trivial))))
    | succ f ih =>
      intro y q sg h1 g y0 hy hd hq
      refine hJ [22, 72] 400 _ _ _ _ _ _ ?_
      conv => whnf
      refine ⟨fun c => ?_, fun c => ?_⟩
      · have c : -100 < y.toInt := by rw [← j_zh]; exact c
        unfold j_dg at hd
        refine j_use hF (Tl y q sg h1 g (by omega) y0 ?_ (fun z => ?_) hq) (And.intro rfl (And.intro rfl (And.intro rfl (And.intro rfl trivial))))
        · split at hd
          · exact hd
          · rw [if_pos (by omega)] at hd
            split at hd <;> split <;> omega
        · rw [if_neg (by omega), if_pos (by omega)] at hd
          split at hd <;> split <;> omega
      · have c : ¬ -100 < y.toInt := by rw [← j_zh]; exact c
        unfold j_dg at hd
        rw [if_neg (by omega), if_neg (by omega)] at hd
        have hq2 : 2 ≤ q.toInt := by split at hd <;> omega
        have hq1 : 1 ≤ q.toInt := by omega
        obtain ⟨kb1, lb1, ⟨t1, t2, t3⟩, ⟨u1, u2, u3⟩⟩ := up h1 g
        conv => whnf
        refine ⟨fun z => absurd (congrArg Int32.toInt z) (by rw [j_zp]; decide), ?_⟩
        conv => whnf
        refine ⟨_, _, u1, u2, rfl, j_vp (by rw [j_rm y0]; omega) (by rw [j_rm y0, u3]; omega), fun v _ => ?_⟩
        conv => whnf
        refine ⟨_, rfl, kb1, j_vp (by rw [j_m1 hq1]; omega) (by rw [j_m1 hq1, lb1]; omega), ?_⟩
        have g2 := g.ui (i := (q + Int32.ofInt (-1)).toNatClampNeg) (x := v)
        obtain ⟨kb2, lb2, ⟨t1, t2, t3⟩, -⟩ := up _ g2
        conv => whnf
        refine ⟨_, _, t1, t2, rfl, j_vp (by rw [j_rm y0]; omega) (by rw [j_rm y0, t3]; omega), fun w _ => ?_⟩
        conv => whnf
        refine ⟨_, rfl, kb2, j_vp (by rw [j_m2 hq2]; omega) (by rw [j_m2 hq2, lb2]; omega), ?_⟩
        have g3 := g2.ui (i := (q + Int32.ofInt (-1) + Int32.ofInt (-1)).toNatClampNeg) (x := w)
        refine j_use hF (ih (y / (Int8.ofInt 100).toInt32) (q + Int32.ofInt (-1) + Int32.ofInt (-1)) sg _ g3 (by rw [j_td y0]; omega) ?_ ?_ (by rw [j_m2 hq2]; omega)) (And.intro rfl (And.intro rfl (And.intro rfl (And.intro rfl trivial))))
        · rw [j_td y0, Int.natAbs_neg, Int.natAbs_natCast]
          have : 100 ^ (f + 1) = 100 ^ f * 100 := Nat.pow_succ 100 f
          omega
        · rw [j_td y0, Int.natAbs_neg, Int.natAbs_natCast, j_m2 hq2]
          split at hd
          · rename_i z; rw [if_pos z]; omega
          · rename_i z; rw [if_neg z]; omega
  have pw : (100 : Nat) ^ 6 = 1000000000000 := by decide
  refine hJ [22] 400 _ _ _ _ _ _ ?_
  conv => whnf
  refine ⟨fun c => ?_, fun c => ?_⟩
  · have c : 0 ≤ x.toInt := c
    have e := j_negI (x := x) (by omega)
    conv => whnf
    refine ⟨fun c2 => absurd (show (Int32.ofInt 0).toInt = 0 by decide) (show ¬ (Int32.ofInt 0).toInt = 0 from c2), fun _ => ?_⟩
    refine j_use hF (L F6 (-x) p (Int32.ofInt 0) h j_Gc.rf (by rw [e]; omega) (by rw [e6, pw, e]; omega) ?_ hp) (And.intro rfl (And.intro rfl (And.intro rfl (And.intro rfl trivial))))
    rw [if_neg (by omega)] at hd
    rw [if_pos (by decide), e, Int.natAbs_neg]
    exact hd
  · have c : ¬ 0 ≤ x.toInt := c
    conv => whnf
    refine ⟨fun _ => ?_, fun c2 => absurd (show ¬ (Int32.ofInt 1).toInt = 0 by decide) c2⟩
    refine j_use hF (L F6 x p (Int32.ofInt 1) h j_Gc.rf (by omega) (by rw [e6, pw]; omega) ?_ hp) (And.intro rfl (And.intro rfl (And.intro rfl (And.intro rfl trivial))))
    rw [if_pos (by omega)] at hd
    rw [if_neg (by decide)]
    exact hd
