/-! digest of the class -/
section ZP
variable {h : j_H} {x : Nat} {it : Nat → Nat → Int32}
theorem z_cP (hW : j_WF h x) (I : z_I h x) : ∀ k, z_lt (z_c h x) 2 k → z_lt (z_c h x) 1 ((z_c h x).2.2.2.2 k 0).toNatClampNeg ∧ (((z_c h x).2.2.2.2 k 2).toInt < 0 ∨ ((z_c h x).2.2.2.2 k 2).toNatClampNeg < k) := by
  intro k hk
  obtain ⟨r, r1, -, r2, -, -, -, on⟩ := z_pr hW I hk rfl
  refine ⟨?_, ?_⟩
  · rw [show ((z_c h x).2.2.2.2 k 0).toNatClampNeg = r from r2]
    exact r1
  · rcases on with ⟨-, q⟩ | ⟨q, q1, -, -, -, q5⟩
    · exact Or.inl q
    · refine Or.inr ?_
      rw [show ((z_c h x).2.2.2.2 k 2).toNatClampNeg = q from q5]
      exact q1
theorem z_cbd (hW : j_WF h x) : (0 ≤ ((z_c h x).1 0).toInt ∧ ((z_c h x).1 0).toInt ≤ 8) ∧ (0 ≤ ((z_c h x).1 1).toInt ∧ ((z_c h x).1 1).toInt ≤ 20) ∧ 0 ≤ ((z_c h x).1 2).toInt := by
  obtain ⟨kx, hG, L0, L1, L2, e0, l0, e1, l1, e2, l2, -⟩ := hW
  refine ⟨?_, ?_, ?_⟩
  · show 0 ≤ (j_sz h x 0).toInt ∧ (j_sz h x 0).toInt ≤ 8
    rw [j_sz_e e0]
    exact ⟨l0.2.1, l0.2.2.1⟩
  · show 0 ≤ (j_sz h x 1).toInt ∧ (j_sz h x 1).toInt ≤ 20
    rw [j_sz_e e1]
    exact ⟨l1.2.1, l1.2.2.1⟩
  · show 0 ≤ (j_sz h x 2).toInt
    rw [j_sz_e e2]
    exact l2.2.1
theorem z_lqN (hW : j_WF h x) (I : z_I h x) (sc : j_Sc j_sf h it) {w : Nat} : z_lq (z_c (j_wi h it) x) w = z_lq (z_c h x) w := by
  obtain ⟨-, I', q⟩ := z_notes hW I sc
  have hW' := hW.sc sc j_sf_ok
  have b := z_cbd hW'
  exact z_lq_c q b.1.1 b.2.1.1 b.2.2 (z_cnt_st q (z_cP hW' I') b.2.2)
theorem z_goN (hW : j_WF h x) (I : z_I h x) (sc : j_Sc j_sf h it) {s : Int64} : z_go (z_pl (z_c (j_wi h it) x)) (j_sz (j_wi h it) x 2).toNatClampNeg (z_go (z_rl (z_c (j_wi h it) x)) (j_sz (j_wi h it) x 1).toNatClampNeg (z_go (z_gl (z_c (j_wi h it) x)) (j_sz (j_wi h it) x 0).toNatClampNeg s)) = z_go (z_pl (z_c h x)) (j_sz h x 2).toNatClampNeg (z_go (z_rl (z_c h x)) (j_sz h x 1).toNatClampNeg (z_go (z_gl (z_c h x)) (j_sz h x 0).toNatClampNeg s)) := by
  obtain ⟨-, I', q⟩ := z_notes hW I sc
  have hW' := hW.sc sc j_sf_ok
  obtain ⟨⟨h0, -⟩, ⟨h1, -⟩, h2⟩ := z_cbd hW'
  have P := z_cP hW' I'
  have n0 : j_sz (j_wi h it) x 0 = j_sz h x 0 := q.1 0 (by decide)
  have n1 : j_sz (j_wi h it) x 1 = j_sz h x 1 := q.1 1 (by decide)
  have n2 : j_sz (j_wi h it) x 2 = j_sz h x 2 := q.1 2 (by decide)
  have g : ∀ s, z_go (z_gl (z_c (j_wi h it) x)) (j_sz (j_wi h it) x 0).toNatClampNeg s = z_go (z_gl (z_c h x)) (j_sz (j_wi h it) x 0).toNatClampNeg s := fun s => z_go_c _ (fun k s hk => by
    have lk : z_lt (z_c (j_wi h it) x) 0 k := z_ltn h0 hk
    unfold z_gl z_gE z_gL
    rw [z_fl_c 10 (fun w _ => z_gq_c q h1 lk), z_eO_c q h1, z_lO_c q h1, z_nE_c q h0 h1 lk, z_nL_c q h0 h1 lk])
  have r : ∀ s, z_go (z_rl (z_c (j_wi h it) x)) (j_sz (j_wi h it) x 1).toNatClampNeg s = z_go (z_rl (z_c h x)) (j_sz (j_wi h it) x 1).toNatClampNeg s := fun s => z_go_c _ (fun k s hk => by
    unfold z_rl
    exact z_fl_c 8 (fun w _ => z_rq_c q (z_ltn h1 hk)))
  have p : ∀ s, z_go (z_pl (z_c (j_wi h it) x)) (j_sz (j_wi h it) x 2).toNatClampNeg s = z_go (z_pl (z_c h x)) (j_sz (j_wi h it) x 2).toNatClampNeg s := fun s => z_go_c _ (fun k s hk => by
    unfold z_pl
    exact z_fl_c 4 (fun w _ => z_pq_c q P (z_ltn h2 hk)))
  rw [g, r, p, n0, n1, n2]
end ZP
set_option maxHeartbeats 4000000 in
set_option maxRecDepth 20000 in
theorem c_G_digestx {h : j_H} {it : Nat → Nat → Int32} {x : Nat} (hW : j_WF h x) (I : z_I h x) (B : z_B (z_c h x)) (sc : j_Sc j_sf h it) : j_Ct 92 8 176 0 0 [j_r (some x)] (j_wi h it) (fun v h' => v = some (j_l (z_dig (z_c h x))) ∧ ∃ it', h' = j_wi h it' ∧ j_Sc j_sf h it') j_no := by
  refine j_intro km_92 (Nat.le_of_ble_eq_true rfl) ?_
  intro J hJ hF
  obtain ⟨kx, hG, L0, L1, L2, e0, l0, e1, l1, e2, l2, ap, pn⟩ := id hW
  have b0 := l0.2.1; have b1 := l1.2.1; have b2 := l2.2.1; have d0 := l0.2.2.1; have d1 := l1.2.2.1; have d2 := l2.2.2.1
  refine hJ [6, 31, 49, 66, 79, 92] 400 _ _ _ _ _ _ ?_
  have L6 : ∀ (m : Nat) (w1 : Int64) (v2 : Int32) (it : Nat → Nat → Int32), j_Sc j_sf h it → w1 = z_fl (z_lq (z_c h x)) v2.toNatClampNeg (Int64.ofNat 3643) → v2.toInt ≤ 11 → 0 ≤ v2.toInt → (2147483647 - v2.toInt) < (m : Int) → J 6 [some (j_r (some x)), some (j_l w1), none, some (j_i v2)] [] (j_wi h it) 0 0 := by
    intro m
    induction m with
    | zero => intro w1 v2 it sc iv hl hn hm; exact absurd hm (by have := j_ub v2; omega)
    | succ m ih6 =>
      intro w1 v2 it sc iv hl hn hm
      have cl := j_clamp hn
      have uv2 := j_ub v2; have lv2 := j_lb v2
      refine hJ [6, 31, 49, 66, 79, 92] 400 _ _ _ _ _ _ ?_
      have q3 : ((Int8.ofInt (10)).toInt32).toInt = 10 := by decide
      conv => whnf
      refine ⟨fun c4 => ?_, fun c4 => ?_⟩
      · have c4 : (((Int8.ofInt (10)).toInt32)).toInt < v2.toInt := c4
        have C31 : ∀ (w5 : Int64) (v6 : Int32) (it : Nat → Nat → Int32), j_Sc j_sf h it → w5 = z_fl (z_lq (z_c h x)) 11 (Int64.ofNat 3643) → J 31 [some (j_r (some x)), some (j_l w5), none, some (j_i v6)] [] (j_wi h it) 0 0 := by
          intro w5 v6 it sc hv31
          refine hJ [6, 31, 49, 66, 79, 92] 400 _ _ _ _ _ _ ?_
          conv => whnf
          refine ⟨kx, rfl, _, _, _, _, _, _, c_G_digestGrainsx (h := j_wi h it) (hW.sc sc j_sf_ok) (z_notes hW I sc).2.1, ⟨Nat.le_of_ble_eq_true rfl, Nat.le_of_ble_eq_true rfl, Nat.le_of_ble_eq_true rfl, Nat.le_of_ble_eq_true rfl⟩, fun _ _ z => False.elim z, ?_⟩
          rintro v9 h9 ⟨rfl, rfl⟩
          conv => whnf
          refine ⟨kx, rfl, _, _, _, _, _, _, c_G_digestRunsx (h := j_wi h it) (hW.sc sc j_sf_ok) (z_notes hW I sc).2.1, ⟨Nat.le_of_ble_eq_true rfl, Nat.le_of_ble_eq_true rfl, Nat.le_of_ble_eq_true rfl, Nat.le_of_ble_eq_true rfl⟩, fun _ _ z => False.elim z, ?_⟩
          rintro v9 h9 ⟨rfl, rfl⟩
          conv => whnf
          refine ⟨kx, rfl, _, _, _, _, _, _, c_G_digestPrintsx (h := j_wi h it) (hW.sc sc j_sf_ok) (z_notes hW I sc).2.1, ⟨Nat.le_of_ble_eq_true rfl, Nat.le_of_ble_eq_true rfl, Nat.le_of_ble_eq_true rfl, Nat.le_of_ble_eq_true rfl⟩, fun _ _ z => False.elim z, ?_⟩
          rintro v9 h9 ⟨rfl, rfl⟩
          have C49 : ∀ (w13 : Int64) (v14 : Int32) (it : Nat → Nat → Int32), j_Sc j_sf h it → w13 = z_go (z_pl (z_c h x)) (j_sz h x 2).toNatClampNeg (z_go (z_rl (z_c h x)) (j_sz h x 1).toNatClampNeg (z_go (z_gl (z_c h x)) (j_sz h x 0).toNatClampNeg (z_fl (z_lq (z_c h x)) 11 (Int64.ofNat 3643)))) → J 49 [some (j_r (some x)), some (j_l w13), none, some (j_i v14)] [] (j_wi h it) 0 0 := by
            intro w13 v14 it sc hv49
            refine hJ [6, 31, 49, 66, 79, 92] 400 _ _ _ _ _ _ ?_
            conv => whnf
            refine ⟨kx, rfl, _, _, _, _, _, _, c_G_findFewestx (h := h) hW I sc, ⟨Nat.le_of_ble_eq_true rfl, Nat.le_of_ble_eq_true rfl, Nat.le_of_ble_eq_true rfl, Nat.le_of_ble_eq_true rfl⟩, fun _ _ z => False.elim z, ?_⟩
            rintro v9 h9 ⟨rfl, it16, rfl, sit16, -⟩
            conv => whnf
            refine ⟨kx, rfl, _, _, _, _, _, _, c_G_findBestx (h := h) hW I sit16, ⟨Nat.le_of_ble_eq_true rfl, Nat.le_of_ble_eq_true rfl, Nat.le_of_ble_eq_true rfl, Nat.le_of_ble_eq_true rfl⟩, fun _ _ z => False.elim z, ?_⟩
            rintro v9 h9 ⟨⟨it18, rfl, sit18⟩, r17, rfl, hr17⟩
            have C66 : ∀ (w19 : Int64) (v20 : Int32) (it : Nat → Nat → Int32), j_Sc j_sf h it → w19 = z_a (z_go (z_pl (z_c h x)) (j_sz h x 2).toNatClampNeg (z_go (z_rl (z_c h x)) (j_sz h x 1).toNatClampNeg (z_go (z_gl (z_c h x)) (j_sz h x 0).toNatClampNeg (z_fl (z_lq (z_c h x)) 11 (Int64.ofNat 3643))))) (z_fw (z_c h x)) → z_enc v20 (z_best (z_c h x)) → J 66 [some (j_r (some x)), some (j_l w19), none, some (j_i v20)] [] (j_wi h it) 0 0 := by
              intro w19 v20 it sc hv66 en
              refine hJ [6, 31, 49, 66, 79, 92] 400 _ _ _ _ _ _ ?_
              conv => whnf
              refine ⟨rfl, _, _, _, _, _, _, c_G_runOfPairx en, ⟨Nat.le_of_ble_eq_true rfl, Nat.le_of_ble_eq_true rfl, Nat.le_of_ble_eq_true rfl, Nat.le_of_ble_eq_true rfl⟩, fun _ _ z => False.elim z, ?_⟩
              rintro v9 h9 ⟨rfl, rfl⟩
              have C79 : ∀ (w22 : Int64) (v23 : Int32) (it : Nat → Nat → Int32), j_Sc j_sf h it → w22 = z_a (z_a (z_go (z_pl (z_c h x)) (j_sz h x 2).toNatClampNeg (z_go (z_rl (z_c h x)) (j_sz h x 1).toNatClampNeg (z_go (z_gl (z_c h x)) (j_sz h x 0).toNatClampNeg (z_fl (z_lq (z_c h x)) 11 (Int64.ofNat 3643))))) (z_fw (z_c h x))) (z_bans (z_c h x) (Int32.ofInt 1)) → v23 = v20 → J 79 [some (j_r (some x)), some (j_l w22), none, some (j_i v23)] [] (j_wi h it) 0 0 := by
                intro w22 v23 it sc hv79 ev
                refine hJ [6, 31, 49, 66, 79, 92] 400 _ _ _ _ _ _ ?_
                conv => whnf
                refine ⟨rfl, _, _, _, _, _, _, c_G_runOfPairx (by rw [ev]; exact en), ⟨Nat.le_of_ble_eq_true rfl, Nat.le_of_ble_eq_true rfl, Nat.le_of_ble_eq_true rfl, Nat.le_of_ble_eq_true rfl⟩, fun _ _ z => False.elim z, ?_⟩
                rintro v9 h9 ⟨rfl, rfl⟩
                have C92 : ∀ (w25 : Int64) (v26 : Int32) (it : Nat → Nat → Int32), j_Sc j_sf h it → w25 = z_a (z_a (z_a (z_go (z_pl (z_c h x)) (j_sz h x 2).toNatClampNeg (z_go (z_rl (z_c h x)) (j_sz h x 1).toNatClampNeg (z_go (z_gl (z_c h x)) (j_sz h x 0).toNatClampNeg (z_fl (z_lq (z_c h x)) 11 (Int64.ofNat 3643))))) (z_fw (z_c h x))) (z_bans (z_c h x) (Int32.ofInt 1))) (z_bans (z_c h x) (Int32.ofInt 0)) → J 92 [some (j_r (some x)), some (j_l w25), none, some (j_i v26)] [] (j_wi h it) 0 0 := by
                  intro w25 v26 it sc hv92
                  refine hJ [6, 31, 49, 66, 79, 92] 400 _ _ _ _ _ _ ?_
                  conv => whnf
                  refine ⟨kx, rfl, _, _, _, _, _, _, c_G_isSoundx (h := j_wi h it) (hW.sc sc j_sf_ok) (z_notes hW I sc).2.1 (B.eq (z_notes hW I sc).2.2), ⟨Nat.le_of_ble_eq_true rfl, Nat.le_of_ble_eq_true rfl, Nat.le_of_ble_eq_true rfl, Nat.le_of_ble_eq_true rfl⟩, fun _ _ z => False.elim z, ?_⟩
                  rintro v9 h9 ⟨rfl, it28, rfl, sit28⟩
                  conv => whnf
                  refine ⟨rfl, _, _, _, _, _, _, c_oneIfx, ⟨Nat.le_of_ble_eq_true rfl, Nat.le_of_ble_eq_true rfl, Nat.le_of_ble_eq_true rfl, Nat.le_of_ble_eq_true rfl⟩, fun _ _ z => False.elim z, ?_⟩
                  rintro v9 h9 ⟨rfl, rfl⟩
                  conv => whnf
                  exact ⟨rfl, ⟨Nat.le_of_ble_eq_true rfl, Nat.le_of_ble_eq_true rfl⟩, congrArg (fun r => some (j_l r)) (by rw [hv92]; rfl), _, rfl, (sc.trans sit28 (fun _ _ z => z))⟩
                exact j_use hF (C92 _ _ _ sc (by rw [hv79]; rfl)) (And.intro rfl (And.intro rfl (And.intro rfl trivial)))
              exact j_use hF (C79 _ _ _ sc (by rw [hv66]; rfl) rfl) (And.intro rfl (And.intro rfl (And.intro rfl trivial)))
            exact j_use hF (C66 _ _ _ sit18 (by rw [hv49]; rfl) hr17) (And.intro rfl (And.intro rfl (And.intro rfl trivial)))
          exact j_use hF (C49 _ _ _ sc (by rw [hv31]; exact z_goN hW I sc)) (And.intro rfl (And.intro rfl (And.intro rfl trivial)))
        exact j_use hF (C31 _ _ _ sc (by rw [iv, show v2.toNatClampNeg = 11 by omega])) (And.intro rfl (And.intro rfl (And.intro rfl trivial)))
      · have c4 : ¬ (((Int8.ofInt (10)).toInt32)).toInt < v2.toInt := c4
        conv => whnf
        refine ⟨kx, rfl, _, _, _, _, _, _, c_G_labFactx (h := j_wi h it) (hW.sc sc j_sf_ok) (z_notes hW I sc).2.1 ⟨by omega, by omega⟩, ⟨Nat.le_of_ble_eq_true rfl, Nat.le_of_ble_eq_true rfl, Nat.le_of_ble_eq_true rfl, Nat.le_of_ble_eq_true rfl⟩, fun _ _ z => False.elim z, ?_⟩
        rintro v9 h9 ⟨⟨it31, rfl, sit31⟩, rfl⟩
        have s31 : j_Sc j_sf h it31 := sc.trans sit31 (fun _ _ z => z)
        have t99 : (v2 + Int32.ofInt 1).toInt = v2.toInt + 1 := j_inc1 (by omega)
        have ct32 := j_clamp (i := v2 + Int32.ofInt 1) (by omega)
        have t32 : (v2 + Int32.ofInt 1).toInt = v2.toInt + 1 := j_inc1 (by omega)
        exact j_use hF (ih6 _ _ _ s31 (by rw [show (v2 + Int32.ofInt 1).toNatClampNeg = v2.toNatClampNeg + 1 by omega, iv, z_lqN hW I sc]; rfl) (by omega) (by omega) (by omega)) (And.intro rfl (And.intro rfl (And.intro rfl trivial)))
  have q33 : ((Int32.ofInt (0))).toInt = 0 := by decide
  have qc := j_clamp (i := Int32.ofInt 0) (by omega)
  exact j_use hF (L6 4294967296 _ _ _ sc (by rw [show (Int32.ofInt 0).toNatClampNeg = 0 by omega]; rfl) (by omega) (by omega) (by omega)) (And.intro rfl (And.intro rfl (And.intro rfl trivial)))
