/-! bestSwap: the class -/
theorem z_sw_com {z : j_Z} {A B : Int32} (hne : A.toNatClampNeg ≠ B.toNatClampNeg) (k : Nat) : (n_swap z A B).2.2.2.1 k 0 = (n_swap z B A).2.2.2.1 k 0 := by
  show (if k = A.toNatClampNeg then _ else if k = B.toNatClampNeg then _ else _) = (if k = B.toNatClampNeg then _ else if k = A.toNatClampNeg then _ else _)
  by_cases ka : k = A.toNatClampNeg
  · rw [if_pos ka, if_neg (show ¬ k = B.toNatClampNeg by omega), if_pos ka]
  · by_cases kb : k = B.toNatClampNeg
    · rw [if_neg ka, if_pos kb, if_pos kb]
    · rw [if_neg ka, if_neg kb, if_neg kb, if_neg ka]
theorem z_sw_cdb {z : j_Z} {A B : Int32} (hne : A.toNatClampNeg ≠ B.toNatClampNeg) {k j : Nat} : z_db (n_swap z A B) k j = z_db (n_swap z B A) k j := by
  unfold z_db
  rw [z_sw_mt, z_sw_mt, z_sw_com hne k, z_sw_com hne j]
set_option maxHeartbeats 4000000 in
set_option maxRecDepth 20000 in
theorem c_G_doublesLessx {h : j_H} {it : Nat → Nat → Int32} {x a b y z n : Nat} (hW : j_WF h x) (I : z_I h x) (sc : j_Sc j_sf h it) (hn : n = (j_sz h x 1).toNatClampNeg) (hn20 : n ≤ 20) (ha : z_in h x 1 a) (hb : z_in h x 1 b) (han : a < n) (hbn : b < n) (hab : a ≠ b) (hy : z_el h x 1 a = y) (hz : z_el h x 1 b = z) (hT : z_T h x it (z_DT (z_c h x) n)) (hM : z_M h x it (z_DM (z_c h x) n 0)) (ky : j_kd h y = some (.inl 7)) (kz : j_kd h z = some (.inl 7)) : j_Ct 96 2 40 0 0 [j_r (some y), j_r (some z)] (j_wi h it) (fun v h' => h' = j_wi h it ∧ ∃ r, v = some (j_i r) ∧ r.toInt = (if z_okS (z_c h x) a b = true then (z_dbn (z_c h x) : Int) - (z_Ds (z_c h x) a b : Int) else 0)) j_no := by
  refine j_intro km_96 (Nat.le_of_ble_eq_true rfl) ?_
  intro J hJ hF
  have hG : j_G h := hW.2.1
  have z0 : (Int32.ofInt 0).toInt = 0 := by decide
  obtain ⟨gA, hgA, rgA⟩ := (I.1.2.2.1 _ ha).2
  obtain ⟨gB, hgB, rgB⟩ := (I.1.2.2.1 _ hb).2
  have lgA : ((z_c h x).2.2.2.1 a 0).toInt = (gA : Int) := (z_lbl I ha hgA).mp rgA
  have lgB : ((z_c h x).2.2.2.1 b 0).toInt = (gB : Int) := (z_lbl I hb hgB).mp rgB
  have no : z_okS (z_c h x) a b = false → (Int32.ofInt 0).toInt = (if z_okS (z_c h x) a b = true then (z_dbn (z_c h x) : Int) - (z_Ds (z_c h x) a b : Int) else 0) := by
    intro q
    rw [q, if_neg (by decide)]
    exact z0
  refine hJ [] 400 _ _ _ _ _ _ ?_
  conv => whnf
  refine ⟨_, rfl, ky, fun x1 ex1 => ?_⟩
  obtain rfl : x1 = (z_c h x).2.2.2.1 a 6 := by rw [← ex1, ← hy]; exact sc.at (z_k1 hW ha) rfl
  conv => whnf
  refine ⟨fun c2 => ?_, fun c2 => ?_⟩
  · have c2 : ((z_c h x).2.2.2.1 a 6).toInt = 0 := c2
    conv => whnf
    refine ⟨trivial, ⟨Nat.le_of_ble_eq_true rfl, Nat.le_of_ble_eq_true rfl⟩, rfl, _, rfl, no ?_⟩
    unfold z_okS z_dst
    rw [decide_eq_false (show ¬ ¬ ((z_c h x).2.2.2.1 a 6).toInt = 0 from fun q => q c2), Bool.false_and, Bool.false_and]
  · have c2 : ¬ ((z_c h x).2.2.2.1 a 6).toInt = 0 := c2
    conv => whnf
    refine ⟨_, rfl, kz, fun x3 ex3 => ?_⟩
    obtain rfl : x3 = (z_c h x).2.2.2.1 b 6 := by rw [← ex3, ← hz]; exact sc.at (z_k1 hW hb) rfl
    conv => whnf
    refine ⟨fun c4 => ?_, fun c4 => ?_⟩
    · have c4 : ((z_c h x).2.2.2.1 b 6).toInt = 0 := c4
      conv => whnf
      refine ⟨trivial, ⟨Nat.le_of_ble_eq_true rfl, Nat.le_of_ble_eq_true rfl⟩, rfl, _, rfl, no ?_⟩
      unfold z_okS z_dst
      rw [decide_eq_false (show ¬ ¬ ((z_c h x).2.2.2.1 b 6).toInt = 0 from fun q => q c4), Bool.and_false, Bool.false_and]
    · have c4 : ¬ ((z_c h x).2.2.2.1 b 6).toInt = 0 := c4
      conv => whnf
      refine ⟨_, rfl, ky, fun o5 eo => ?_⟩
      obtain rfl : o5 = some (z_el h x 0 gA) := by rw [← eo, ← hy]; exact rgA
      conv => whnf
      refine ⟨_, rfl, kz, fun o7 eo => ?_⟩
      obtain rfl : o7 = some (z_el h x 0 gB) := by rw [← eo, ← hz]; exact rgB
      have kA := z_k0 hW hgA
      have kB := z_k0 hW hgB
      conv => whnf
      refine ⟨fun c9 => ?_, fun c9 => ?_⟩
      · have c9 : some (z_el h x 0 gA) = some (z_el h x 0 gB) := c9
        have gg := I.g hgA hgB (Option.some.inj c9)
        conv => whnf
        refine ⟨trivial, ⟨Nat.le_of_ble_eq_true rfl, Nat.le_of_ble_eq_true rfl⟩, rfl, _, rfl, no ?_⟩
        unfold z_okS
        rw [decide_eq_true (show ((z_c h x).2.2.2.1 a 0).toInt = ((z_c h x).2.2.2.1 b 0).toInt by omega)]
        exact Bool.and_false _
      · have c9 : ¬ some (z_el h x 0 gA) = some (z_el h x 0 gB) := c9
        have hl : ¬ ((z_c h x).2.2.2.1 a 0).toInt = ((z_c h x).2.2.2.1 b 0).toInt := fun q => c9 (by rw [show gA = gB by omega])
        have ok : z_okS (z_c h x) a b = true := by
          unfold z_okS z_dst
          rw [decide_eq_true c2, decide_eq_true c4, decide_eq_false hl]
          rfl
        have eA := (z_onat (n := a) (by omega)).2
        have eB := (z_onat (n := b) (by omega)).2
        have hne : (Int32.ofInt (a : Int)).toNatClampNeg ≠ (Int32.ofInt (b : Int)).toNatClampNeg := by omega
        have n1 : ((z_c h x).1 1).toNatClampNeg = n := hn.symm
        have D := z_sw_D (z := z_c h x) (A := Int32.ofInt (a : Int)) (B := Int32.ofInt (b : Int)) (by rw [n1]; omega) (by rw [n1]; omega) hne (by rw [eA, eB]; exact hl)
        rw [n1, eA, eB] at D
        conv => whnf
        refine ⟨_, rfl, ky, fun x10 ex10 => ?_⟩
        have hx10 : ∀ j, z_bq x10 j = z_DM (z_c h x) n 0 a j := fun j => by rw [← hM a ha j, hy]; exact congrArg (fun r => z_bq r j) ex10.symm
        conv => whnf
        refine ⟨_, rfl, kz, fun o11 eo => ?_⟩
        obtain rfl : o11 = some (z_el h x 0 gB) := by rw [← eo, ← hz]; exact rgB
        conv => whnf
        refine ⟨_, rfl, kB, fun x13 ex13 => ?_⟩
        have hx13 : ∀ j, z_bq x13 j = z_DT (z_c h x) n gB j := fun j => by rw [← hT gB hgB j]; exact congrArg (fun r => z_bq r j) ex13.symm
        conv => whnf
        refine ⟨kz, rfl, _, _, _, _, _, _, c_Run_bitx (h := j_wi h it) (k := b) kz (by show (it z 0).toInt = (b : Int); rw [← hz, sc.at (z_k1 hW hb) rfl]; exact (I.1.2.2.1 b hb).1) (by omega), ⟨Nat.le_of_ble_eq_true rfl, Nat.le_of_ble_eq_true rfl, Nat.le_of_ble_eq_true rfl, Nat.le_of_ble_eq_true rfl⟩, fun _ _ z => False.elim z, ?_⟩
        rintro v9 h9 ⟨rfl, r14, rfl, hr14⟩
        conv => whnf
        refine ⟨_, rfl, kz, fun x15 ex15 => ?_⟩
        have hx15 : ∀ j, z_bq x15 j = z_DM (z_c h x) n 0 b j := fun j => by rw [← hM b hb j, hz]; exact congrArg (fun r => z_bq r j) ex15.symm
        conv => whnf
        refine ⟨_, rfl, ky, fun o16 eo => ?_⟩
        obtain rfl : o16 = some (z_el h x 0 gA) := by rw [← eo, ← hy]; exact rgA
        conv => whnf
        refine ⟨_, rfl, kA, fun x18 ex18 => ?_⟩
        have hx18 : ∀ j, z_bq x18 j = z_DT (z_c h x) n gA j := fun j => by rw [← hT gA hgA j]; exact congrArg (fun r => z_bq r j) ex18.symm
        conv => whnf
        refine ⟨ky, rfl, _, _, _, _, _, _, c_Run_bitx (h := j_wi h it) (k := a) ky (by show (it y 0).toInt = (a : Int); rw [← hy, sc.at (z_k1 hW ha) rfl]; exact (I.1.2.2.1 a ha).1) (by omega), ⟨Nat.le_of_ble_eq_true rfl, Nat.le_of_ble_eq_true rfl, Nat.le_of_ble_eq_true rfl, Nat.le_of_ble_eq_true rfl⟩, fun _ _ z => False.elim z, ?_⟩
        rintro v9 h9 ⟨rfl, r19, rfl, hr19⟩
        conv => whnf
        refine ⟨ky, rfl, _, _, _, _, _, _, c_Run_countMissedx (h := h) hW I hn hn20 ha han hy hT hM ky, ⟨Nat.le_of_ble_eq_true rfl, Nat.le_of_ble_eq_true rfl, Nat.le_of_ble_eq_true rfl, Nat.le_of_ble_eq_true rfl⟩, fun _ _ z => False.elim z, ?_⟩
        rintro v9 h9 ⟨rfl, r20, rfl, hr20⟩
        conv => whnf
        refine ⟨kz, rfl, _, _, _, _, _, _, c_Run_countMissedx (h := h) hW I hn hn20 hb hbn hz hT hM kz, ⟨Nat.le_of_ble_eq_true rfl, Nat.le_of_ble_eq_true rfl, Nat.le_of_ble_eq_true rfl, Nat.le_of_ble_eq_true rfl⟩, fun _ _ z => False.elim z, ?_⟩
        rintro v9 h9 ⟨rfl, r22, rfl, hr22⟩
        have c1 : (z_bc ((x10 &&& x13) &&& (r14 ^^^ Int32.ofInt (-1)))).toInt = (z_dg1 (z_db (n_swap (z_c h x) (Int32.ofInt (a : Int)) (Int32.ofInt (b : Int)))) a n : Int) := by
          unfold z_dg1
          rw [z_bcI, ← z_ct_cut (show n ≤ 32 by omega)]
          refine congrArg Int.ofNat (z_ct_c 32 (fun j hj => ?_))
          rw [z_bq_and, z_bq_and, z_bq_xor, z_bq_m1, hx10, hx13, hr14, decide_eq_true hj, Bool.xor_true]
          exact z_sw_then han hab eA eB hl lgB
        have c2' : (z_bc ((x15 &&& x18) &&& (r19 ^^^ Int32.ofInt (-1)))).toInt = (z_dg1 (z_db (n_swap (z_c h x) (Int32.ofInt (a : Int)) (Int32.ofInt (b : Int)))) b n : Int) := by
          unfold z_dg1
          rw [z_bcI, ← z_ct_cut (show n ≤ 32 by omega)]
          refine congrArg Int.ofNat (z_ct_c 32 (fun j hj => ?_))
          rw [z_bq_and, z_bq_and, z_bq_xor, z_bq_m1, hx15, hx18, hr19, decide_eq_true hj, Bool.xor_true, z_sw_cdb hne]
          exact z_sw_then hbn (Ne.symm hab) eB eA (fun q => hl q.symm) lgA
        conv => whnf
        refine ⟨rfl, _, _, _, _, _, _, c_bitCountx, ⟨Nat.le_of_ble_eq_true rfl, Nat.le_of_ble_eq_true rfl, Nat.le_of_ble_eq_true rfl, Nat.le_of_ble_eq_true rfl⟩, fun _ _ z => False.elim z, ?_⟩
        rintro v9 h9 ⟨rfl, rfl⟩
        conv => whnf
        refine ⟨rfl, _, _, _, _, _, _, c_bitCountx, ⟨Nat.le_of_ble_eq_true rfl, Nat.le_of_ble_eq_true rfl, Nat.le_of_ble_eq_true rfl, Nat.le_of_ble_eq_true rfl⟩, fun _ _ z => False.elim z, ?_⟩
        rintro v9 h9 ⟨rfl, rfl⟩
        have l1 := z_ct_le (f := fun j => decide (a ≠ j) && z_db (z_c h x) a j) n
        have l2 := z_ct_le (f := fun j => decide (b ≠ j) && z_db (z_c h x) b j) n
        have l3 : z_dg1 (z_db (n_swap (z_c h x) (Int32.ofInt (a : Int)) (Int32.ofInt (b : Int)))) a n ≤ n := z_ct_le n
        have l4 : z_dg1 (z_db (n_swap (z_c h x) (Int32.ofInt (a : Int)) (Int32.ofInt (b : Int)))) b n ≤ n := z_ct_le n
        have d1 : z_dg1 (z_db (z_c h x)) a n = z_ct (fun j => decide (a ≠ j) && z_db (z_c h x) a j) n := rfl
        have d2 : z_dg1 (z_db (z_c h x)) b n = z_ct (fun j => decide (b ≠ j) && z_db (z_c h x) b j) n := rfl
        have s1 : (r20 + r22).toInt = r20.toInt + r22.toInt := j_addI (by omega) (by omega)
        have s2 : (r20 + r22 - z_bc ((x10 &&& x13) &&& (r14 ^^^ Int32.ofInt (-1)))).toInt = r20.toInt + r22.toInt - (z_bc ((x10 &&& x13) &&& (r14 ^^^ Int32.ofInt (-1)))).toInt := by rw [j_subI (by omega) (by omega), s1]
        have s3 : (r20 + r22 - z_bc ((x10 &&& x13) &&& (r14 ^^^ Int32.ofInt (-1))) - z_bc ((x15 &&& x18) &&& (r19 ^^^ Int32.ofInt (-1)))).toInt = r20.toInt + r22.toInt - (z_bc ((x10 &&& x13) &&& (r14 ^^^ Int32.ofInt (-1)))).toInt - (z_bc ((x15 &&& x18) &&& (r19 ^^^ Int32.ofInt (-1)))).toInt := by rw [j_subI (by omega) (by omega), s2]
        conv => whnf
        refine ⟨trivial, ⟨Nat.le_of_ble_eq_true rfl, Nat.le_of_ble_eq_true rfl⟩, rfl, _, rfl, s3.trans ?_⟩
        rw [if_pos ok]
        unfold z_Ds
        omega
