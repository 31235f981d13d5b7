theorem z_b01 (b : Bool) : z_b b = Int32.ofInt 0 ∨ z_b b = Int32.ofInt 1 := by cases b; exact Or.inl rfl; exact Or.inr rfl
set_option maxHeartbeats 8000000 in
set_option maxRecDepth 20000 in
theorem c_y_arePrints {h : j_H} {x : Nat} (w : y_W h x) : j_Ct 167 8 177 90 540 [j_r (some x)] h (fun v h' => y_Q x h h' ∧ v = some (j_i (Int32.ofInt 1))) j_no := by
  refine j_intro km_167 (Nat.le_of_ble_eq_true rfl) ?_
  intro J hJ hF
  have bd := y_bd w.1
  have cz := j_clamp (i := j_sz h x 2) bd.2.2.1
  have z10 : ((Int8.ofInt 10).toInt32).toInt = 10 := by decide
  have one : (Int32.ofInt 1).toInt = 1 := by decide
  have zero : (Int32.ofInt 0).toInt = 0 := by decide
  refine hJ [4, 25, 95, 113, 125] 400 _ _ _ _ _ _ ?_
  have L125 : ∀ (s : Int32) (H : j_H) (cn sn : Nat), y_Q x h H → s = z_cnt (z_st (z_c h x)) (j_sz h x 2).toNatClampNeg → cn ≤ 89 → sn ≤ 534 → J 125 [some (j_r (some x)), some (j_i s), none, none, none, none] [] H cn sn := by
    intro s H cn sn q es hc hs
    refine hJ [4, 25, 95, 113, 125] 400 _ _ _ _ _ _ ?_
    conv => whnf
    refine ⟨q.1.1.1, rfl, _, _, _, _, _, _, y_lab q.1 (by decide), ⟨Nat.le_of_ble_eq_true rfl, Nat.le_of_ble_eq_true rfl, by (try dsimp only); omega, by (try dsimp only); omega⟩, fun _ _ z => False.elim z, ?_⟩
    rintro o9 h8 ⟨q8, er9⟩
    obtain ⟨r8, hr8⟩ : ∃ r, r = z_cnt (z_st (z_c h x)) (j_sz h x 2).toNatClampNeg := ⟨_, rfl⟩
    obtain rfl : o9 = some (j_i r8) := er9.trans (congrArg (fun r => some (j_i r)) (by rw [hr8]; exact z_cnt_st q.2.1 (z_cP q.1.1 q.1.2.1) (y_bd q.1.1).2.2.1))
    clear er9
    conv => whnf
    refine ⟨fun c5 => absurd (congrArg Int32.toInt (hr8.trans es.symm)) c5, fun _ => ?_⟩
    conv => whnf
    exact ⟨Or.inr rfl, ⟨by (try dsimp only); omega, by (try dsimp only); omega⟩, q.tr q8, rfl⟩
  have L : ∀ (k : Nat) (s v : Int32) (H : j_H) (cn sn : Nat), y_Q x h H → s = z_cnt (z_st (z_c h x)) v.toNatClampNeg → cn ≤ 8 * v.toInt.toNat → sn ≤ 48 * v.toInt.toNat → 0 ≤ v.toInt → v.toInt ≤ (j_sz h x 2).toInt → (j_sz h x 2).toInt - v.toInt < (k : Int) → J 4 [some (j_r (some x)), some (j_i s), some (j_i v), none, none, none] [] H cn sn := by
    intro k
    induction k with
    | zero => intro s v H cn sn q iv hc hs h0 h1 hm; omega
    | succ k ih =>
      intro s v H cn sn q iv hc hs h0 h1 hm
      have cl := j_clamp h0
      have z2 := congrArg Int32.toInt (show j_sz H x 2 = j_sz h x 2 from q.2.1.1 2 (by decide))
      have z1 := congrArg Int32.toInt (show j_sz H x 1 = j_sz h x 1 from q.2.1.1 1 (by decide))
      refine hJ [4, 25, 95, 113, 125] 400 _ _ _ _ _ _ ?_
      conv => whnf
      refine ⟨fun c => ?_, fun c => ?_⟩
      · have c : ((Int8.ofInt 10).toInt32).toInt ≤ v.toInt := c
        exact j_use hF (L125 s H _ _ q (by rw [iv, show v.toNatClampNeg = (j_sz h x 2).toNatClampNeg by omega]) (by (try dsimp only); omega) (by (try dsimp only); omega)) (And.intro rfl (And.intro rfl trivial))
      · have c : ¬ ((Int8.ofInt 10).toInt32).toInt ≤ v.toInt := c
        have t : (v + Int32.ofInt 1).toInt = v.toInt + 1 := j_inc1 (by omega)
        have ct := j_clamp (i := v + Int32.ofInt 1) (by omega)
        conv => whnf
        refine ⟨q.1.1.1, rfl, _, _, _, _, _, _, c_G_ofPrintx q.1.1 q.1.2.1, ⟨Nat.le_of_ble_eq_true rfl, Nat.le_of_ble_eq_true rfl, by (try dsimp only); omega, by (try dsimp only); omega⟩, ?_, ?_⟩
        · rintro k9 h9 ⟨hk, e9⟩
          obtain rfl : H = h9 := e9.symm
          rcases hk with ⟨rfl, c1⟩ | ⟨rfl, -, c2⟩
          · conv => whnf
            intro a9
            conv => whnf
            exact j_use hF (L125 s H _ _ q (by rw [iv, show v.toNatClampNeg = (j_sz h x 2).toNatClampNeg by omega]) (by (try dsimp only); omega) (by (try dsimp only); omega)) (And.intro rfl (And.intro rfl trivial))
          · exact absurd (by decide) c2
        rintro o9 h9 ⟨⟨⟨-, lv⟩, -⟩, er9, e9⟩
        obtain rfl : H = h9 := e9.symm
        have lk : z_lt (z_c h x) 2 v.toNatClampNeg := by show (v.toNatClampNeg : Int) < (j_sz h x 2).toInt; omega
        have lH : z_lt (z_c H x) 2 v.toNatClampNeg := by show (v.toNatClampNeg : Int) < (j_sz H x 2).toInt; omega
        have PP := z_cP q.1.1 q.1.2.1
        obtain ⟨r0, hr0⟩ : ∃ r, r = z_b (z_st (z_c h x) v.toNatClampNeg) := ⟨_, rfl⟩
        obtain rfl : o9 = some (j_i r0) := er9.trans (congrArg (fun r => some (j_i r)) (by rw [hr0]; exact z_pq_c (w := 3) q.2.1 PP lH))
        clear er9 e9
        obtain ⟨rn, on⟩ := y_pr w.2.1 (k := v.toNatClampNeg) lk
        have L25 : ∀ (b : Int32) (cn sn : Nat), b = r0 → cn ≤ 8 * v.toInt.toNat + 1 → sn ≤ 48 * v.toInt.toNat + 6 → J 25 [some (j_r (some x)), some (j_i s), some (j_i v), none, none, none] [j_i b] H cn sn := by
          rintro b cn sn rfl hc hs
          refine hJ [4, 25, 95, 113, 125] 400 _ _ _ _ _ _ ?_
          conv => whnf
          refine ⟨q.1.1.1, rfl, _, _, _, _, _, _, y_ofPrintq q.1 ⟨h0, by omega⟩ (by decide), ⟨Nat.le_of_ble_eq_true rfl, Nat.le_of_ble_eq_true rfl, by (try dsimp only); omega, by (try dsimp only); omega⟩, fun _ _ z => False.elim z, ?_⟩
          rintro o9 h9 ⟨e9, er9⟩
          obtain ⟨r2, hr2⟩ : ∃ r, r = (z_c h x).2.2.2.2 v.toNatClampNeg 2 := ⟨_, rfl⟩
          obtain rfl : o9 = some (j_i r2) := er9.trans (congrArg (fun r => some (j_i r)) (by rw [hr2]; exact z_pq_c (w := 2) q.2.1 PP lH))
          obtain rfl : H = h9 := e9.symm
          clear er9 e9
          conv => whnf
          refine ⟨q.1.1.1, rfl, _, _, _, _, _, _, y_ofPrintq q.1 ⟨h0, by omega⟩ (by decide), ⟨Nat.le_of_ble_eq_true rfl, Nat.le_of_ble_eq_true rfl, by (try dsimp only); omega, by (try dsimp only); omega⟩, fun _ _ z => False.elim z, ?_⟩
          rintro o9 h9 ⟨e9, er9⟩
          obtain ⟨r3, hr3⟩ : ∃ r, r = (z_c h x).2.2.2.2 v.toNatClampNeg 0 := ⟨_, rfl⟩
          obtain rfl : o9 = some (j_i r3) := er9.trans (congrArg (fun r => some (j_i r)) (by rw [hr3]; exact z_pq_c (w := 0) q.2.1 PP lH))
          obtain rfl : H = h9 := e9.symm
          clear er9 e9
          rw [← hr2] at on
          rw [← hr3] at rn
          have L113 : ∀ (H9 : j_H) (cn sn : Nat) (d : Int32), y_Q x h H9 → d = (if z_st (z_c h x) v.toNatClampNeg = true then Int32.ofInt 1 else Int32.ofInt 0) → cn ≤ 8 * v.toInt.toNat + 8 → sn ≤ 48 * v.toInt.toNat + 48 → J 113 [some (j_r (some x)), some (j_i s), some (j_i v), none, none, none] [j_i d, j_i s] H9 cn sn := by
            intro H9 cn sn d q9 ed hc hs
            refine hJ [4, 25, 95, 113, 125] 400 _ _ _ _ _ _ ?_
            conv => whnf
            exact j_use hF (ih (s + d) (v + Int32.ofInt 1) H9 _ _ q9 (by rw [iv, ed, show (v + Int32.ofInt 1).toNatClampNeg = v.toNatClampNeg + 1 by omega]; rfl) (by (try dsimp only); omega) (by (try dsimp only); omega) (by omega) (by omega) (by omega)) (And.intro rfl (And.intro rfl (And.intro rfl trivial)))
          have L95 : ∀ (H9 : j_H) (cn sn : Nat), y_Q x h H9 → cn ≤ 8 * v.toInt.toNat + 8 → sn ≤ 48 * v.toInt.toNat + 48 → J 95 [some (j_r (some x)), some (j_i s), some (j_i v), some (j_i b), some (j_i r2), some (j_i r3)] [] H9 cn sn := by
            intro H9 cn sn q9 hc hs
            refine hJ [4, 25, 95, 113, 125] 400 _ _ _ _ _ _ ?_
            conv => whnf
            refine ⟨fun _ => ?_, fun c9 => ?_⟩
            rotate_left
            · have c9 : ¬ r2.toInt < v.toInt := c9
              omega
            conv => whnf
            refine ⟨fun c10 => ?_, fun c10 => ?_⟩
            · have c10 : b.toInt = 0 := c10
              exact j_use hF (L113 H9 _ _ (Int32.ofInt 0) q9 (by rw [hr0] at c10; rw [z_b0.mp c10]; rfl) (by (try dsimp only); omega) (by (try dsimp only); omega)) (And.intro rfl (And.intro rfl (And.intro rfl trivial)))
            · have c10 : ¬ b.toInt = 0 := c10
              exact j_use hF (L113 H9 _ _ (Int32.ofInt 1) q9 (by rw [hr0] at c10; rw [z_bn c10]; rfl) (by (try dsimp only); omega) (by (try dsimp only); omega)) (And.intro rfl (And.intro rfl (And.intro rfl trivial)))
          conv => whnf
          refine ⟨fun c11 => ?_, fun c11 => ?_⟩
          · exact j_use hF (L95 H _ _ q (by (try dsimp only); omega) (by (try dsimp only); omega)) (And.intro rfl (And.intro rfl (And.intro rfl (And.intro rfl (And.intro rfl (And.intro rfl trivial))))))
          · have c11 : ¬ b.toInt = 0 := c11
            have st := z_bn (show ¬ (z_b (z_st (z_c h x) v.toNatClampNeg)).toInt = 0 by rw [← hr0]; exact c11)
            obtain ⟨s1, s2, s3⟩ := y_prt st
            rw [← hr2] at s3
            rw [← hr3] at s1 s2
            have cr3 := j_clamp (i := r3) rn.1
            have lr : z_lt (z_c h x) 1 r3.toNatClampNeg := by show (r3.toNatClampNeg : Int) < (j_sz h x 1).toInt; omega
            have lrH : z_lt (z_c H x) 1 r3.toNatClampNeg := by show (r3.toNatClampNeg : Int) < (j_sz H x 1).toInt; omega
            conv => whnf
            refine ⟨q.1.1.1, rfl, _, _, _, _, _, _, y_ofRunq q.1 ⟨rn.1, by omega⟩ (by decide), ⟨Nat.le_of_ble_eq_true rfl, Nat.le_of_ble_eq_true rfl, by (try dsimp only); omega, by (try dsimp only); omega⟩, fun _ _ z => False.elim z, ?_⟩
            rintro o9 h9 ⟨e9, er9⟩
            obtain ⟨r4, hr4⟩ : ∃ r, r = z_rq (z_c h x) r3.toNatClampNeg 7 := ⟨_, rfl⟩
            obtain rfl : o9 = some (j_i r4) := er9.trans (congrArg (fun r => some (j_i r)) (by rw [hr4]; exact z_rq_c (w := 7) q.2.1 lrH))
            obtain rfl : H = h9 := e9.symm
            clear er9 e9
            conv => whnf
            refine ⟨fun c12 => ?_, fun _ => ?_⟩
            · have c12 : r4.toInt = 0 := c12
              rw [hr4] at c12
              have : (z_b (decide (¬ ((z_c h x).2.2.2.1 r3.toNatClampNeg 6).toInt = 0))).toInt = 0 := c12
              rw [decide_eq_true s1] at this
              exact absurd this (by decide)
            have V5 := (w.2.2.1.1.1.2.2.2 r3.toNatClampNeg lr).1
            conv => whnf
            refine ⟨q.1.1.1, rfl, _, _, _, _, _, _, y_ofRunq q.1 ⟨rn.1, by omega⟩ (by decide), ⟨Nat.le_of_ble_eq_true rfl, Nat.le_of_ble_eq_true rfl, by (try dsimp only); omega, by (try dsimp only); omega⟩, fun _ _ z => False.elim z, ?_⟩
            rintro o9 h9 ⟨e9, er9⟩
            obtain ⟨r5, hr5⟩ : ∃ r, r = (z_c h x).2.2.2.1 r3.toNatClampNeg 1 := ⟨_, rfl⟩
            obtain rfl : o9 = some (j_i r5) := er9.trans (congrArg (fun r => some (j_i r)) (by rw [hr5]; exact z_rq_c (w := 1) q.2.1 lrH))
            obtain rfl : H = h9 := e9.symm
            clear er9 e9
            rw [← hr5] at V5 s2
            have e8 : ((Int8.ofInt 8).toInt32 + r5).toInt = 8 + r5.toInt := by
              have z8 : ((Int8.ofInt 8).toInt32).toInt = 8 := by decide
              rw [j_addI (by omega) (by omega), z8]
            have c8 := j_clamp (i := (Int8.ofInt 8).toInt32 + r5) (by omega)
            conv => whnf
            refine ⟨q.1.1.1, rfl, _, _, _, _, _, _, y_lab q.1 ⟨by omega, by omega⟩, ⟨Nat.le_of_ble_eq_true rfl, Nat.le_of_ble_eq_true rfl, by (try dsimp only); omega, by (try dsimp only); omega⟩, fun _ _ z => False.elim z, ?_⟩
            rintro o9 h6 ⟨q6, er9⟩
            obtain ⟨r6, hr6⟩ : ∃ r, r = z_lq (z_c h x) ((Int8.ofInt 8).toInt32 + r5).toNatClampNeg := ⟨_, rfl⟩
            obtain rfl : o9 = some (j_i r6) := er9.trans (congrArg (fun r => some (j_i r)) (by rw [hr6]; exact z_lq_c q.2.1 (y_bd q.1.1).1.1 (y_bd q.1.1).2.1.1 (y_bd q.1.1).2.2.1 (z_cnt_st q.2.1 PP (y_bd q.1.1).2.2.1)))
            clear er9
            have qq := q.tr q6
            have y2 := congrArg Int32.toInt (show j_sz h6 x 2 = j_sz h x 2 from qq.2.1.1 2 (by decide))
            have l6 : z_lt (z_c h6 x) 2 v.toNatClampNeg := by show (v.toNatClampNeg : Int) < (j_sz h6 x 2).toInt; omega
            have P6 := z_cP qq.1.1 qq.1.2.1
            conv => whnf
            refine ⟨qq.1.1.1, rfl, _, _, _, _, _, _, y_ofPrintq qq.1 ⟨h0, by omega⟩ (by decide), ⟨Nat.le_of_ble_eq_true rfl, Nat.le_of_ble_eq_true rfl, by (try dsimp only); omega, by (try dsimp only); omega⟩, fun _ _ z => False.elim z, ?_⟩
            rintro o9 h9 ⟨e9, er9⟩
            obtain ⟨r7, hr7⟩ : ∃ r, r = (z_c h x).2.2.2.2 v.toNatClampNeg 1 := ⟨_, rfl⟩
            obtain rfl : o9 = some (j_i r7) := er9.trans (congrArg (fun r => some (j_i r)) (by rw [hr7]; exact z_pq_c (w := 1) qq.2.1 P6 l6))
            obtain rfl : h6 = h9 := e9.symm
            clear er9 e9
            have ep : r6.toInt = r7.toInt := by
              rw [hr7, s2, hr6]
              unfold j_pf
              rcases V5 with z | z
              · rw [if_pos z, show ((Int8.ofInt 8).toInt32 + r5).toNatClampNeg = 8 by omega]
                rfl
              · rw [if_neg (by omega), show ((Int8.ofInt 8).toInt32 + r5).toNatClampNeg = 9 by omega]
                rfl
            conv => whnf
            refine ⟨fun c13 => absurd ep c13, fun _ => ?_⟩
            conv => whnf
            refine ⟨fun c14 => ?_, fun c14 => ?_⟩
            · exact j_use hF (L95 h6 _ _ qq (by (try dsimp only); omega) (by (try dsimp only); omega)) (And.intro rfl (And.intro rfl (And.intro rfl (And.intro rfl (And.intro rfl (And.intro rfl trivial))))))
            · have c14 : ¬ r2.toInt < 0 := c14
              have cr2 := j_clamp (i := r2) (by omega)
              have l7 : z_lt (z_c h6 x) 2 r2.toNatClampNeg := by show (r2.toNatClampNeg : Int) < (j_sz h6 x 2).toInt; omega
              conv => whnf
              refine ⟨qq.1.1.1, rfl, _, _, _, _, _, _, y_ofPrintq qq.1 ⟨by omega, by omega⟩ (by decide), ⟨Nat.le_of_ble_eq_true rfl, Nat.le_of_ble_eq_true rfl, by (try dsimp only); omega, by (try dsimp only); omega⟩, fun _ _ z => False.elim z, ?_⟩
              rintro o9 h9 ⟨e9, er9⟩
              obtain ⟨r9, hr9⟩ : ∃ r, r = z_b (z_st (z_c h x) r2.toNatClampNeg) := ⟨_, rfl⟩
              obtain rfl : o9 = some (j_i r9) := er9.trans (congrArg (fun r => some (j_i r)) (by rw [hr9]; exact z_pq_c (w := 3) qq.2.1 P6 l7))
              obtain rfl : h6 = h9 := e9.symm
              clear er9 e9
              conv => whnf
              refine ⟨fun c15 => ?_, fun _ => ?_⟩
              · have c15 : r9.toInt = 0 := c15
                rw [hr9, s3 (by omega) (by omega)] at c15
                exact absurd c15 (by decide)
              · exact j_use hF (L95 h6 _ _ qq (by (try dsimp only); omega) (by (try dsimp only); omega)) (And.intro rfl (And.intro rfl (And.intro rfl (And.intro rfl (And.intro rfl (And.intro rfl trivial))))))
        conv => whnf
        refine ⟨fun c16 => ?_, fun c16 => ?_⟩
        · have c16 : ¬ r0.toInt = (Int32.ofInt 1).toInt := c16
          exact j_use hF (L25 (Int32.ofInt 0) _ _ (by rcases z_b01 (z_st (z_c h x) v.toNatClampNeg) with z | z <;> rw [← hr0] at z; exact z.symm; exact absurd (congrArg Int32.toInt z) c16) (by (try dsimp only); omega) (by (try dsimp only); omega)) (And.intro rfl (And.intro rfl (And.intro rfl trivial)))
        · have c16 : ¬ ¬ r0.toInt = (Int32.ofInt 1).toInt := c16
          exact j_use hF (L25 (Int32.ofInt 1) _ _ (Int32.toInt_inj.mp (Decidable.not_not.mp c16).symm) (by (try dsimp only); omega) (by (try dsimp only); omega)) (And.intro rfl (And.intro rfl (And.intro rfl trivial)))
  exact j_use hF (L 100 (Int32.ofInt 0) (Int32.ofInt 0) h _ _ (y_Q.rf w) (by rw [show (Int32.ofInt 0).toNatClampNeg = 0 by decide]; rfl) (by decide) (by decide) (by decide) (by rw [zero]; omega) (by rw [zero]; omega)) (And.intro rfl (And.intro rfl (And.intro rfl trivial)))
