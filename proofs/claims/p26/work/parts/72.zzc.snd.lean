/-! isSound: the class, always true -/
theorem z_ag_ff {z : j_Z} (h0 : 0 ≤ (z.1 0).toInt) (h1 : (z.1 0).toInt ≤ 8) : ∀ s, z_ag z (z_ff z s) := by
  intro s
  induction s with
  | zero =>
    intro i j hi hj bi bj
    have b : z_bq (z_al (z.1 0)) i = false := bi
    rw [z_bq_al h0 h1, decide_eq_true (show i < (z.1 0).toNatClampNeg from hi)] at b
    cases b
  | succ s ih =>
    by_cases c : (z_bc (Int32.ofInt (s : Int))).toInt < (z_bc (z_ff z s)).toInt ∧ z_ag z (Int32.ofInt (s : Int))
    · rw [z_ffT c]
      exact c.2
    · rw [z_ffF c]
      exact ih
theorem z_fM_b {p : Nat → Bool} {f : Nat → Int32} : ∀ n, (∀ k, k < n → -3000 ≤ (f k).toInt ∧ (f k).toInt ≤ 6000) → 0 ≤ (z_fM p f n).toInt ∧ (z_fM p f n).toInt ≤ 6000 := by
  intro n
  induction n with
  | zero => intro _; show 0 ≤ (Int32.ofInt 0).toInt ∧ (Int32.ofInt 0).toInt ≤ 6000; exact ⟨by decide, by decide⟩
  | succ n ih =>
    intro h
    have a := ih (fun k hk => h k (by omega))
    have b := h n (by omega)
    show 0 ≤ (if p n = true then z_mAx (z_fM p f n) (f n) else z_fM p f n).toInt ∧ (if p n = true then z_mAx (z_fM p f n) (f n) else z_fM p f n).toInt ≤ 6000
    by_cases q : p n = true
    · rw [if_pos q]
      unfold z_mAx
      by_cases g : z_fM p f n < f n
      · rw [if_pos g]
        have g := Int32.lt_iff_toInt_lt.mp g
        omega
      · rw [if_neg g]
        exact a
    · rw [if_neg q]
      exact a
theorem z_fm_b {p : Nat → Bool} {f : Nat → Int32} : ∀ n, (∀ k, k < n → -3000 ≤ (f k).toInt ∧ (f k).toInt ≤ 6000) → -3000 ≤ (z_fm p f n).toInt ∧ (z_fm p f n).toInt ≤ 3000 := by
  intro n
  induction n with
  | zero => intro _; show -3000 ≤ ((Int16.ofInt 3000).toInt32).toInt ∧ ((Int16.ofInt 3000).toInt32).toInt ≤ 3000; exact ⟨by decide, by decide⟩
  | succ n ih =>
    intro h
    have a := ih (fun k hk => h k (by omega))
    have b := h n (by omega)
    show -3000 ≤ (if p n = true then z_mIn (z_fm p f n) (f n) else z_fm p f n).toInt ∧ (if p n = true then z_mIn (z_fm p f n) (f n) else z_fm p f n).toInt ≤ 3000
    by_cases q : p n = true
    · rw [if_pos q]
      unfold z_mIn
      by_cases g : f n < z_fm p f n
      · rw [if_pos g]
        have g := Int32.lt_iff_toInt_lt.mp g
        omega
      · rw [if_neg g]
        exact a
    · rw [if_neg q]
      exact a
theorem z_mAx_t {a b : Int32} : (z_mAx a b).toInt = if a.toInt < b.toInt then b.toInt else a.toInt := by
  unfold z_mAx
  by_cases g : a < b
  · rw [if_pos g, if_pos (Int32.lt_iff_toInt_lt.mp g)]
  · rw [if_neg g, if_neg (fun q => g (Int32.lt_iff_toInt_lt.mpr q))]
theorem z_mIn_t {a b : Int32} : (z_mIn a b).toInt = if b.toInt < a.toInt then b.toInt else a.toInt := by
  unfold z_mIn
  by_cases g : b < a
  · rw [if_pos g, if_pos (Int32.lt_iff_toInt_lt.mp g)]
  · rw [if_neg g, if_neg (fun q => g (Int32.lt_iff_toInt_lt.mpr q))]
section SB
variable {z : j_Z}
theorem z_er_b (B : z_B1 z) {k : Nat} (hk : z_lt z 1 k) : -3000 ≤ (z_er z k).toInt ∧ (z_er z k).toInt ≤ 6000 := by
  have t := z_te_b (p := z_tp z k) (m := z.2.2.2.1 k 2) (d := z.2.2.2.1 k 3) (s := z.2.2.2.1 k 4)
  have y := B.2.2 k hk
  have b := B.1
  unfold z_er
  rw [z_yr t b y]
  omega
theorem z_lr_b (B : z_B1 z) {k : Nat} (hk : z_lt z 1 k) : -3000 ≤ (z_lr z k).toInt ∧ (z_lr z k).toInt ≤ 6000 := by
  have t := z_tl_b (p := z_tp z k) (m := z.2.2.2.1 k 2) (d := z.2.2.2.1 k 3) (s := z.2.2.2.1 k 4)
  have y := B.2.2 k hk
  have b := B.1
  unfold z_lr
  rw [z_yr t b y]
  omega
theorem z_eO_b (B : z_B1 z) (h1 : 0 ≤ (z.1 1).toInt) {g : Nat} {c w : Int32} : 0 ≤ (z_eO z g c w).toInt ∧ (z_eO z g c w).toInt ≤ 6000 := z_fM_b _ (fun k hk => z_er_b B (z_ltn h1 hk))
theorem z_lO_b (B : z_B1 z) (h1 : 0 ≤ (z.1 1).toInt) {g : Nat} {c w : Int32} : -3000 ≤ (z_lO z g c w).toInt ∧ (z_lO z g c w).toInt ≤ 3000 := z_fm_b _ (fun k hk => z_lr_b B (z_ltn h1 hk))
theorem z_nE_b (B : z_B1 z) (h1 : 0 ≤ (z.1 1).toInt) {g : Nat} : (z_gE z g).toInt ≤ (z_nE z g).toInt ∧ (z_nE z g).toInt ≤ 6000 := by
  have st : ∀ n, (z_gE z g).toInt ≤ (z_fX z_mAx (z_gE z g) (z_up z g) (fun k => z_gE z k) n).toInt ∧ (z_fX z_mAx (z_gE z g) (z_up z g) (fun k => z_gE z k) n).toInt ≤ 6000 := by
    intro n
    induction n with
    | zero => exact ⟨Int.le_refl _, (z_eO_b B h1).2⟩
    | succ n ih =>
      show (z_gE z g).toInt ≤ (if z_up z g n = true then z_mAx (z_fX z_mAx (z_gE z g) (z_up z g) (fun k => z_gE z k) n) (z_gE z n) else z_fX z_mAx (z_gE z g) (z_up z g) (fun k => z_gE z k) n).toInt ∧ (if z_up z g n = true then z_mAx (z_fX z_mAx (z_gE z g) (z_up z g) (fun k => z_gE z k) n) (z_gE z n) else z_fX z_mAx (z_gE z g) (z_up z g) (fun k => z_gE z k) n).toInt ≤ 6000
      by_cases q : z_up z g n = true
      · rw [if_pos q]
        have b : (z_gE z n).toInt ≤ 6000 := (z_eO_b B h1).2
        rw [z_mAx_t]
        split <;> omega
      · rw [if_neg q]
        exact ih
  exact st _
theorem z_nL_b (B : z_B1 z) (h1 : 0 ≤ (z.1 1).toInt) {g : Nat} : (z_nL z g).toInt ≤ (z_gL z g).toInt ∧ -3000 ≤ (z_nL z g).toInt := by
  have st : ∀ n, (z_fX z_mIn (z_gL z g) (z_dw z g) (fun k => z_gL z k) n).toInt ≤ (z_gL z g).toInt ∧ -3000 ≤ (z_fX z_mIn (z_gL z g) (z_dw z g) (fun k => z_gL z k) n).toInt := by
    intro n
    induction n with
    | zero => exact ⟨Int.le_refl _, (z_lO_b B h1).1⟩
    | succ n ih =>
      show (if z_dw z g n = true then z_mIn (z_fX z_mIn (z_gL z g) (z_dw z g) (fun k => z_gL z k) n) (z_gL z n) else z_fX z_mIn (z_gL z g) (z_dw z g) (fun k => z_gL z k) n).toInt ≤ (z_gL z g).toInt ∧ -3000 ≤ (if z_dw z g n = true then z_mIn (z_fX z_mIn (z_gL z g) (z_dw z g) (fun k => z_gL z k) n) (z_gL z n) else z_fX z_mIn (z_gL z g) (z_dw z g) (fun k => z_gL z k) n).toInt
      by_cases q : z_dw z g n = true
      · rw [if_pos q]
        have b : -3000 ≤ (z_gL z n).toInt := (z_lO_b B h1).1
        rw [z_mIn_t]
        split <;> omega
      · rw [if_neg q]
        exact ih
  exact st _
end SB
set_option maxHeartbeats 4000000 in
set_option maxRecDepth 20000 in
theorem c_Motes_areAllTherex {h : j_H} {y : Nat} (ky : j_kd h y = some (.inl 5)) (e : j_it h y 1 + j_it h y 2 + j_it h y 3 = j_it h y 0) : j_Ct 147 0 0 0 0 [j_r (some y)] h (fun v h' => h' = h ∧ v = some (j_i (Int32.ofInt 1))) j_no := by
  refine j_intro km_147 (Nat.le_of_ble_eq_true rfl) ?_
  intro J hJ hF
  refine hJ [] 400 _ _ _ _ _ _ ?_
  conv => whnf
  refine ⟨_, rfl, ky, fun x1 ex1 => ?_⟩
  obtain rfl : x1 = j_it h y 1 := ex1.symm
  conv => whnf
  refine ⟨_, rfl, ky, fun x2 ex2 => ?_⟩
  obtain rfl : x2 = j_it h y 2 := ex2.symm
  conv => whnf
  refine ⟨_, rfl, ky, fun x3 ex3 => ?_⟩
  obtain rfl : x3 = j_it h y 3 := ex3.symm
  conv => whnf
  refine ⟨_, rfl, ky, fun x4 ex4 => ?_⟩
  obtain rfl : x4 = j_it h y 0 := ex4.symm
  conv => whnf
  refine ⟨fun c6 => ?_, fun c6 => ?_⟩
  · exact absurd (congrArg Int32.toInt e) (show ¬ (j_it h y 1 + j_it h y 2 + j_it h y 3).toInt = (j_it h y 0).toInt from c6)
  · conv => whnf
    exact ⟨Or.inr rfl, ⟨Nat.le_of_ble_eq_true rfl, Nat.le_of_ble_eq_true rfl⟩, rfl, rfl⟩
set_option maxHeartbeats 4000000 in
set_option maxRecDepth 20000 in
theorem c_G_allMotesx {h : j_H} {x : Nat} (hW : j_WF h x) (I : z_I h x) (U : z_U (z_c h x)) : j_Ct 81 3 64 0 0 [j_r (some x)] h (fun v h' => h' = h ∧ v = some (j_i (Int32.ofInt 1))) j_no := by
  refine j_intro km_81 (Nat.le_of_ble_eq_true rfl) ?_
  intro J hJ hF
  obtain ⟨kx, hG, L0, L1, L2, e0, l0, e1, l1, e2, l2, ap, pn⟩ := id hW
  have bn := l0.2.1; have dn := l0.2.2.1
  have eR : j_sz h x 0 = j_it h L0 2 := j_sz_e e0
  have h1 : 0 ≤ ((z_c h x).1 1).toInt := z_n1 hW
  refine hJ [2] 400 _ _ _ _ _ _ ?_
  have L4 : ∀ (n : Nat) (v2 : Int32), 0 ≤ v2.toInt → v2.toInt ≤ (j_it h L0 2).toInt → (j_it h L0 2).toInt - v2.toInt < (n : Int) → J 2 [some (j_r (some x)), some (j_i v2), none] [] h 0 0 := by
    intro n
    induction n with
    | zero => intro v2 hn hm hz; omega
    | succ n ih4 =>
      intro v2 hn hm hz
      have cl := j_clamp hn
      refine hJ [2] 400 _ _ _ _ _ _ ?_
      conv => whnf
      refine ⟨_, rfl, kx, fun o3 eo => ?_⟩
      obtain rfl : o3 = some L0 := eo.symm.trans e0
      conv => whnf
      refine ⟨l0.1, rfl, _, _, _, _, _, _, c_AL_size (h := h) l0 j_Sc.rf j_sf_ok, ⟨Nat.le_of_ble_eq_true rfl, Nat.le_of_ble_eq_true rfl, Nat.le_of_ble_eq_true rfl, Nat.le_of_ble_eq_true rfl⟩, fun _ _ z => False.elim z, ?_⟩
      rintro v9 h9 ⟨e9, rfl⟩
      obtain rfl : h = h9 := e9.symm
      conv => whnf
      refine ⟨fun c4 => ?_, fun c4 => ?_⟩
      · conv => whnf
        exact ⟨Or.inr rfl, ⟨Nat.le_of_ble_eq_true rfl, Nat.le_of_ble_eq_true rfl⟩, rfl, rfl⟩
      · have c4 : ¬ (j_it h L0 2).toInt ≤ v2.toInt := c4
        have hin : z_in h x 0 v2.toNatClampNeg := by unfold z_in; rw [eR]; omega
        have t10 : (v2 + Int32.ofInt 1).toInt = v2.toInt + 1 := j_inc1 (by omega)
        have nx := ih4 (v2 + Int32.ofInt 1) (by omega) (by omega) (by omega)
        conv => whnf
        refine ⟨_, rfl, kx, fun o5 eo => ?_⟩
        obtain rfl : o5 = some L0 := eo.symm.trans e0
        conv => whnf
        refine ⟨l0.1, rfl, _, _, _, _, _, _, c_AL_get (h := h) l0 j_Sc.rf j_sf_ok (by omega) (by omega), ⟨Nat.le_of_ble_eq_true rfl, Nat.le_of_ble_eq_true rfl, Nat.le_of_ble_eq_true rfl, Nat.le_of_ble_eq_true rfl⟩, fun _ _ z => False.elim z, ?_⟩
        rintro v9 h9 ⟨e9, g6, rfl, kg6, xg6⟩
        obtain rfl : h = h9 := e9.symm
        have yg6 := z_el_get e0 xg6
        conv => whnf
        refine ⟨Or.inr ⟨_, rfl, kg6⟩, ?_⟩
        conv => whnf
        refine ⟨_, rfl, kg6, fun o7 eo => ?_⟩
        obtain ⟨b8, eb8, kb8⟩ := hG.1 _ kg6
        obtain rfl : o7 = some b8 := eo.symm.trans eb8
        have u0 := U v2.toNatClampNeg 0 hin (by decide)
        have m0 : z_mo h (z_el h x 0 v2.toNatClampNeg) 0 = b8 := by rw [yg6]; exact z_mo_of (i := 0) eb8
        conv => whnf
        refine ⟨kb8, rfl, _, _, _, _, _, _, c_Motes_areAllTherex kb8 (by rw [← m0]; exact u0), ⟨Nat.le_of_ble_eq_true rfl, Nat.le_of_ble_eq_true rfl, Nat.le_of_ble_eq_true rfl, Nat.le_of_ble_eq_true rfl⟩, fun _ _ z => False.elim z, ?_⟩
        rintro v9 h9 ⟨e9, rfl⟩
        obtain rfl : h = h9 := e9.symm
        conv => whnf
        refine ⟨fun c => absurd (show (Int32.ofInt 1).toInt = 0 from c) (by decide), fun _ => ?_⟩
        conv => whnf
        refine ⟨_, rfl, kg6, fun o10 eo => ?_⟩
        obtain ⟨b11, eb11, kb11⟩ := hG.2.1 _ kg6
        obtain rfl : o10 = some b11 := eo.symm.trans eb11
        have u1 := U v2.toNatClampNeg 1 hin (by decide)
        have m1 : z_mo h (z_el h x 0 v2.toNatClampNeg) 1 = b11 := by rw [yg6]; exact z_mo_of (i := 1) eb11
        conv => whnf
        refine ⟨kb11, rfl, _, _, _, _, _, _, c_Motes_areAllTherex kb11 (by rw [← m1]; exact u1), ⟨Nat.le_of_ble_eq_true rfl, Nat.le_of_ble_eq_true rfl, Nat.le_of_ble_eq_true rfl, Nat.le_of_ble_eq_true rfl⟩, fun _ _ z => False.elim z, ?_⟩
        rintro v9 h9 ⟨e9, rfl⟩
        obtain rfl : h = h9 := e9.symm
        conv => whnf
        refine ⟨fun _ => ?_, fun c => absurd (show ¬ (Int32.ofInt 1).toInt = 0 by decide) c⟩
        exact j_use hF nx (And.intro rfl (And.intro rfl trivial))
  have q0 : (Int32.ofInt 0).toInt = 0 := by decide
  exact j_use hF (L4 100 (Int32.ofInt 0) (by omega) (by omega) (by omega)) (And.intro rfl (And.intro rfl trivial))
set_option maxHeartbeats 4000000 in
set_option maxRecDepth 20000 in
theorem c_G_noWiderx {h : j_H} {x : Nat} (hW : j_WF h x) (I : z_I h x) (B : z_B1 (z_c h x)) : j_Ct 121 5 114 0 0 [j_r (some x)] h (fun v h' => h' = h ∧ v = some (j_i (Int32.ofInt 1))) j_no := by
  refine j_intro km_121 (Nat.le_of_ble_eq_true rfl) ?_
  intro J hJ hF
  obtain ⟨kx, hG, L0, L1, L2, e0, l0, e1, l1, e2, l2, ap, pn⟩ := id hW
  have bn := l0.2.1; have dn := l0.2.2.1
  have eR : j_sz h x 0 = j_it h L0 2 := j_sz_e e0
  have h1 : 0 ≤ ((z_c h x).1 1).toInt := z_n1 hW
  refine hJ [2] 400 _ _ _ _ _ _ ?_
  have L4 : ∀ (n : Nat) (v2 : Int32), 0 ≤ v2.toInt → v2.toInt ≤ (j_it h L0 2).toInt → (j_it h L0 2).toInt - v2.toInt < (n : Int) → J 2 [some (j_r (some x)), some (j_i v2), none, none] [] h 0 0 := by
    intro n
    induction n with
    | zero => intro v2 hn hm hz; omega
    | succ n ih4 =>
      intro v2 hn hm hz
      have cl := j_clamp hn
      refine hJ [2] 400 _ _ _ _ _ _ ?_
      conv => whnf
      refine ⟨_, rfl, kx, fun o3 eo => ?_⟩
      obtain rfl : o3 = some L0 := eo.symm.trans e0
      conv => whnf
      refine ⟨l0.1, rfl, _, _, _, _, _, _, c_AL_size (h := h) l0 j_Sc.rf j_sf_ok, ⟨Nat.le_of_ble_eq_true rfl, Nat.le_of_ble_eq_true rfl, Nat.le_of_ble_eq_true rfl, Nat.le_of_ble_eq_true rfl⟩, fun _ _ z => False.elim z, ?_⟩
      rintro v9 h9 ⟨e9, rfl⟩
      obtain rfl : h = h9 := e9.symm
      conv => whnf
      refine ⟨fun c4 => ?_, fun c4 => ?_⟩
      · conv => whnf
        exact ⟨Or.inr rfl, ⟨Nat.le_of_ble_eq_true rfl, Nat.le_of_ble_eq_true rfl⟩, rfl, rfl⟩
      · have c4 : ¬ (j_it h L0 2).toInt ≤ v2.toInt := c4
        have hin : z_in h x 0 v2.toNatClampNeg := by unfold z_in; rw [eR]; omega
        have t10 : (v2 + Int32.ofInt 1).toInt = v2.toInt + 1 := j_inc1 (by omega)
        have nx := ih4 (v2 + Int32.ofInt 1) (by omega) (by omega) (by omega)
        conv => whnf
        refine ⟨_, rfl, kx, fun o5 eo => ?_⟩
        obtain rfl : o5 = some L0 := eo.symm.trans e0
        conv => whnf
        refine ⟨l0.1, rfl, _, _, _, _, _, _, c_AL_get (h := h) l0 j_Sc.rf j_sf_ok (by omega) (by omega), ⟨Nat.le_of_ble_eq_true rfl, Nat.le_of_ble_eq_true rfl, Nat.le_of_ble_eq_true rfl, Nat.le_of_ble_eq_true rfl⟩, fun _ _ z => False.elim z, ?_⟩
        rintro v9 h9 ⟨e9, g6, rfl, kg6, xg6⟩
        obtain rfl : h = h9 := e9.symm
        have yg6 := z_el_get e0 xg6
        conv => whnf
        refine ⟨Or.inr ⟨_, rfl, kg6⟩, ?_⟩
        conv => whnf
        refine ⟨kx, rfl, _, _, _, _, _, _, c_G_lateOfx hW I hin yg6, ⟨Nat.le_of_ble_eq_true rfl, Nat.le_of_ble_eq_true rfl, Nat.le_of_ble_eq_true rfl, Nat.le_of_ble_eq_true rfl⟩, fun _ _ z => False.elim z, ?_⟩
        rintro v9 h9 ⟨e9, rfl⟩
        obtain rfl : h = h9 := e9.symm
        conv => whnf
        refine ⟨kx, rfl, _, _, _, _, _, _, c_G_earlyOfx hW I hin yg6, ⟨Nat.le_of_ble_eq_true rfl, Nat.le_of_ble_eq_true rfl, Nat.le_of_ble_eq_true rfl, Nat.le_of_ble_eq_true rfl⟩, fun _ _ z => False.elim z, ?_⟩
        rintro v9 h9 ⟨e9, rfl⟩
        obtain rfl : h = h9 := e9.symm
        conv => whnf
        refine ⟨kx, rfl, _, _, _, _, _, _, c_G_narrowedLatex hW I hin yg6, ⟨Nat.le_of_ble_eq_true rfl, Nat.le_of_ble_eq_true rfl, Nat.le_of_ble_eq_true rfl, Nat.le_of_ble_eq_true rfl⟩, fun _ _ z => False.elim z, ?_⟩
        rintro v9 h9 ⟨e9, rfl⟩
        obtain rfl : h = h9 := e9.symm
        conv => whnf
        refine ⟨kx, rfl, _, _, _, _, _, _, c_G_narrowedEarlyx hW I hin yg6, ⟨Nat.le_of_ble_eq_true rfl, Nat.le_of_ble_eq_true rfl, Nat.le_of_ble_eq_true rfl, Nat.le_of_ble_eq_true rfl⟩, fun _ _ z => False.elim z, ?_⟩
        rintro v9 h9 ⟨e9, rfl⟩
        obtain rfl : h = h9 := e9.symm
        have bE : 0 ≤ (z_gE (z_c h x) v2.toNatClampNeg).toInt ∧ (z_gE (z_c h x) v2.toNatClampNeg).toInt ≤ 6000 := z_eO_b B h1
        have bL : -3000 ≤ (z_gL (z_c h x) v2.toNatClampNeg).toInt ∧ (z_gL (z_c h x) v2.toNatClampNeg).toInt ≤ 3000 := z_lO_b B h1
        have nE := z_nE_b B h1 (g := v2.toNatClampNeg)
        have nL := z_nL_b B h1 (g := v2.toNatClampNeg)
        have w1 : (z_gL (z_c h x) v2.toNatClampNeg - z_gE (z_c h x) v2.toNatClampNeg).toInt = (z_gL (z_c h x) v2.toNatClampNeg).toInt - (z_gE (z_c h x) v2.toNatClampNeg).toInt := j_subI (by omega) (by omega)
        have w2 : (z_nL (z_c h x) v2.toNatClampNeg - z_nE (z_c h x) v2.toNatClampNeg).toInt = (z_nL (z_c h x) v2.toNatClampNeg).toInt - (z_nE (z_c h x) v2.toNatClampNeg).toInt := j_subI (by omega) (by omega)
        conv => whnf
        refine ⟨fun _ => ?_, fun c14 => ?_⟩
        · exact j_use hF nx (And.intro rfl (And.intro rfl trivial))
        · have c14 : ¬ (z_nL (z_c h x) v2.toNatClampNeg - z_nE (z_c h x) v2.toNatClampNeg).toInt ≤ (z_gL (z_c h x) v2.toNatClampNeg - z_gE (z_c h x) v2.toNatClampNeg).toInt := c14
          omega
  have q0 : (Int32.ofInt 0).toInt = 0 := by decide
  exact j_use hF (L4 100 (Int32.ofInt 0) (by omega) (by omega) (by omega)) (And.intro rfl (And.intro rfl trivial))
set_option maxHeartbeats 4000000 in
set_option maxRecDepth 20000 in
theorem c_G_othersAgreex {h : j_H} {x : Nat} (hW : j_WF h x) (I : z_I h x) : j_Ct 126 6 135 0 0 [j_r (some x)] h (fun v h' => (∃ it', h' = j_wi h it' ∧ j_Sc j_sf h it') ∧ ∃ r, v = some (j_i r) ∧ ¬ r.toInt = 0) j_no := by
  refine j_intro km_126 (Nat.le_of_ble_eq_true rfl) ?_
  intro J hJ hF
  obtain ⟨kx, hG, L0, L1, L2, e0, l0, e1, l1, e2, l2, ap, pn⟩ := id hW
  have eG : j_sz h x 0 = j_it h L0 2 := j_sz_e e0
  have g0 : 0 ≤ (j_sz h x 0).toInt := by rw [eG]; exact l0.2.1
  have g8 : (j_sz h x 0).toInt ≤ 8 := by rw [eG]; exact l0.2.2.1
  refine hJ [] 400 _ _ _ _ _ _ ?_
  conv => whnf
  refine ⟨kx, rfl, _, _, _, _, _, _, c_G_findFewestx (h := h) hW I j_Sc.rf, ⟨Nat.le_of_ble_eq_true rfl, Nat.le_of_ble_eq_true rfl, Nat.le_of_ble_eq_true rfl, Nat.le_of_ble_eq_true rfl⟩, fun _ _ z => False.elim z, ?_⟩
  rintro v9 h9 ⟨rfl, it2, rfl, sit2, nt⟩
  conv => whnf
  refine ⟨kx, rfl, _, _, _, _, _, _, c_G_allGrainsx (h := h) hW sit2, ⟨Nat.le_of_ble_eq_true rfl, Nat.le_of_ble_eq_true rfl, Nat.le_of_ble_eq_true rfl, Nat.le_of_ble_eq_true rfl⟩, fun _ _ z => False.elim z, ?_⟩
  rintro v9 h9 ⟨rfl, rfl⟩
  conv => whnf
  refine ⟨kx, rfl, _, _, _, _, _, _, c_G_agreex (h := h) (s := z_fw (z_c h x)) hW I sit2 (fun i hi => (nt i hi).2.2) (fun j => z_ha (z := z_c h x) g0 g8), ⟨Nat.le_of_ble_eq_true rfl, Nat.le_of_ble_eq_true rfl, Nat.le_of_ble_eq_true rfl, Nat.le_of_ble_eq_true rfl⟩, fun _ _ z => False.elim z, ?_⟩
  rintro v9 h9 ⟨rfl, r5, rfl, zr5, zz5⟩
  have n5 := zr5.mpr (z_ag_ff (z := z_c h x) g0 g8 _)
  conv => whnf
  exact ⟨zz5, ⟨Nat.le_of_ble_eq_true rfl, Nat.le_of_ble_eq_true rfl⟩, ⟨_, rfl, sit2⟩, _, rfl, n5⟩
set_option maxHeartbeats 4000000 in
set_option maxRecDepth 20000 in
theorem c_G_printsBornex {h : j_H} {x : Nat} (hW : j_WF h x) (I : z_I h x) : j_Ct 132 3 64 0 0 [j_r (some x)] h (fun v h' => h' = h ∧ v = some (j_i (Int32.ofInt 1))) j_no := by
  refine j_intro km_132 (Nat.le_of_ble_eq_true rfl) ?_
  intro J hJ hF
  obtain ⟨kx, hG, L0, L1, L2, e0, l0, e1, l1, e2, l2, ap, pn⟩ := id hW
  have bn := l2.2.1; have dn := l2.2.2.1
  have eR : j_sz h x 2 = j_it h L2 2 := j_sz_e e2
  have h1 : 0 ≤ ((z_c h x).1 1).toInt := z_n1 hW
  refine hJ [2] 400 _ _ _ _ _ _ ?_
  have L4 : ∀ (n : Nat) (v2 : Int32), 0 ≤ v2.toInt → v2.toInt ≤ (j_it h L2 2).toInt → (j_it h L2 2).toInt - v2.toInt < (n : Int) → J 2 [some (j_r (some x)), some (j_i v2), none] [] h 0 0 := by
    intro n
    induction n with
    | zero => intro v2 hn hm hz; omega
    | succ n ih4 =>
      intro v2 hn hm hz
      have cl := j_clamp hn
      refine hJ [2] 400 _ _ _ _ _ _ ?_
      conv => whnf
      refine ⟨_, rfl, kx, fun o3 eo => ?_⟩
      obtain rfl : o3 = some L2 := eo.symm.trans e2
      conv => whnf
      refine ⟨l2.1, rfl, _, _, _, _, _, _, c_AL_size (h := h) l2 j_Sc.rf j_sf_ok, ⟨Nat.le_of_ble_eq_true rfl, Nat.le_of_ble_eq_true rfl, Nat.le_of_ble_eq_true rfl, Nat.le_of_ble_eq_true rfl⟩, fun _ _ z => False.elim z, ?_⟩
      rintro v9 h9 ⟨e9, rfl⟩
      obtain rfl : h = h9 := e9.symm
      conv => whnf
      refine ⟨fun c4 => ?_, fun c4 => ?_⟩
      · conv => whnf
        exact ⟨Or.inr rfl, ⟨Nat.le_of_ble_eq_true rfl, Nat.le_of_ble_eq_true rfl⟩, rfl, rfl⟩
      · have c4 : ¬ (j_it h L2 2).toInt ≤ v2.toInt := c4
        have hin : z_in h x 2 v2.toNatClampNeg := by unfold z_in; rw [eR]; omega
        have t10 : (v2 + Int32.ofInt 1).toInt = v2.toInt + 1 := j_inc1 (by omega)
        have nx := ih4 (v2 + Int32.ofInt 1) (by omega) (by omega) (by omega)
        conv => whnf
        refine ⟨_, rfl, kx, fun o5 eo => ?_⟩
        obtain rfl : o5 = some L2 := eo.symm.trans e2
        conv => whnf
        refine ⟨l2.1, rfl, _, _, _, _, _, _, c_AL_get (h := h) l2 j_Sc.rf j_sf_ok (by omega) (by omega), ⟨Nat.le_of_ble_eq_true rfl, Nat.le_of_ble_eq_true rfl, Nat.le_of_ble_eq_true rfl, Nat.le_of_ble_eq_true rfl⟩, fun _ _ z => False.elim z, ?_⟩
        rintro v9 h9 ⟨e9, g6, rfl, kg6, xg6⟩
        obtain rfl : h = h9 := e9.symm
        have yg6 := z_el_get e2 xg6
        conv => whnf
        refine ⟨Or.inr ⟨_, rfl, kg6⟩, ?_⟩
        conv => whnf
        refine ⟨kx, rfl, _, _, _, _, _, _, c_standx hW I (Or.inr ⟨_, hin, by rw [yg6], rfl⟩), ⟨Nat.le_of_ble_eq_true rfl, Nat.le_of_ble_eq_true rfl, Nat.le_of_ble_eq_true rfl, Nat.le_of_ble_eq_true rfl⟩, fun _ _ z => False.elim z, ?_⟩
        rintro v9 h9 ⟨e9, rfl⟩
        obtain rfl : h = h9 := e9.symm
        obtain ⟨r, hr, r1, r2, r6, -, -, on⟩ := z_pr hW I hin yg6
        have se := z_st_e (z := z_c h x) v2.toNatClampNeg
        conv => whnf
        refine ⟨fun c8 => ?_, fun c8 => ?_⟩
        · exact j_use hF nx (And.intro rfl (And.intro rfl trivial))
        · have st := z_bn (show ¬ (z_b (z_st (z_c h x) v2.toNatClampNeg)).toInt = 0 from c8)
          rw [se] at st
          obtain ⟨s1, s2⟩ := (Bool.and_eq_true _ _).mp st
          have k1 := z_k1 hW hr
          conv => whnf
          refine ⟨_, rfl, kg6, fun o10 eo => ?_⟩
          obtain rfl : o10 = some (z_el h x 1 r) := eo.symm.trans r1
          conv => whnf
          refine ⟨_, rfl, k1, fun x12 ex12 => ?_⟩
          have hx12 : ¬ x12.toInt = 0 := by
            rw [← ex12]
            unfold z_one at s1
            have s1 := of_decide_eq_true ((Bool.and_eq_true _ _).mp s1).1
            rw [show ((z_c h x).2.2.2.2 v2.toNatClampNeg 0).toNatClampNeg = r from r2] at s1
            exact s1
          conv => whnf
          refine ⟨fun c13 => absurd (show x12.toInt = 0 from c13) hx12, fun _ => ?_⟩
          conv => whnf
          refine ⟨_, rfl, kg6, fun o14 eo => ?_⟩
          have kp : (o14 = none ∧ true = true) ∨ ∃ k, z_in h x 2 k ∧ o14 = some (z_el h x 2 k) ∧ true = z_st (z_c h x) k := by
            rcases on with ⟨n3, -⟩ | ⟨q, q1, q2, q3, q4, q5⟩
            · exact Or.inl ⟨eo.symm.trans n3, rfl⟩
            · refine Or.inr ⟨q, q2, eo.symm.trans q3, ?_⟩
              rw [if_neg (show ¬ ((z_c h x).2.2.2.2 v2.toNatClampNeg 2).toInt < 0 from q4)] at s2
              rw [show ((z_c h x).2.2.2.2 v2.toNatClampNeg 2).toNatClampNeg = q from q5, z_tb_f _ _ q1] at s2
              exact s2.symm
          conv => whnf
          refine ⟨kx, rfl, _, _, _, _, _, _, c_standx hW I kp, ⟨Nat.le_of_ble_eq_true rfl, Nat.le_of_ble_eq_true rfl, Nat.le_of_ble_eq_true rfl, Nat.le_of_ble_eq_true rfl⟩, fun _ _ z => False.elim z, ?_⟩
          rintro v9 h9 ⟨e9, rfl⟩
          obtain rfl : h = h9 := e9.symm
          conv => whnf
          refine ⟨fun _ => ?_, fun c => absurd (show ¬ (Int32.ofInt 1).toInt = 0 by decide) c⟩
          exact j_use hF nx (And.intro rfl (And.intro rfl trivial))
  have q0 : (Int32.ofInt 0).toInt = 0 := by decide
  exact j_use hF (L4 100 (Int32.ofInt 0) (by omega) (by omega) (by omega)) (And.intro rfl (And.intro rfl trivial))
set_option maxHeartbeats 4000000 in
set_option maxRecDepth 20000 in
theorem c_G_isSoundx {h : j_H} {x : Nat} (hW : j_WF h x) (I : z_I h x) (B : z_B (z_c h x)) : j_Ct 108 7 156 0 0 [j_r (some x)] h (fun v h' => v = some (j_i (Int32.ofInt 1)) ∧ ∃ it', h' = j_wi h it' ∧ j_Sc j_sf h it') j_no := by
  refine j_intro km_108 (Nat.le_of_ble_eq_true rfl) ?_
  intro J hJ hF
  have kx := hW.1
  refine hJ [] 400 _ _ _ _ _ _ ?_
  conv => whnf
  refine ⟨kx, rfl, _, _, _, _, _, _, c_G_allMotesx hW I B.2, ⟨Nat.le_of_ble_eq_true rfl, Nat.le_of_ble_eq_true rfl, Nat.le_of_ble_eq_true rfl, Nat.le_of_ble_eq_true rfl⟩, fun _ _ z => False.elim z, ?_⟩
  rintro v9 h9 ⟨e9, rfl⟩
  obtain rfl : h = h9 := e9.symm
  conv => whnf
  refine ⟨fun c => absurd (show (Int32.ofInt 1).toInt = 0 from c) (by decide), fun _ => ?_⟩
  conv => whnf
  refine ⟨kx, rfl, _, _, _, _, _, _, c_G_noWiderx hW I B.1, ⟨Nat.le_of_ble_eq_true rfl, Nat.le_of_ble_eq_true rfl, Nat.le_of_ble_eq_true rfl, Nat.le_of_ble_eq_true rfl⟩, fun _ _ z => False.elim z, ?_⟩
  rintro v9 h9 ⟨e9, rfl⟩
  obtain rfl : h = h9 := e9.symm
  conv => whnf
  refine ⟨fun c => absurd (show (Int32.ofInt 1).toInt = 0 from c) (by decide), fun _ => ?_⟩
  conv => whnf
  refine ⟨kx, rfl, _, _, _, _, _, _, c_G_othersAgreex hW I, ⟨Nat.le_of_ble_eq_true rfl, Nat.le_of_ble_eq_true rfl, Nat.le_of_ble_eq_true rfl, Nat.le_of_ble_eq_true rfl⟩, fun _ _ z => False.elim z, ?_⟩
  rintro v9 h9 ⟨⟨it8, rfl, sit8⟩, r7, rfl, hr7⟩
  conv => whnf
  refine ⟨fun c => absurd (show r7.toInt = 0 from c) hr7, fun _ => ?_⟩
  conv => whnf
  refine ⟨kx, rfl, _, _, _, _, _, _, c_G_printsBornex (h := j_wi h it8) (hW.sc sit8 j_sf_ok) (z_notes hW I sit8).2.1, ⟨Nat.le_of_ble_eq_true rfl, Nat.le_of_ble_eq_true rfl, Nat.le_of_ble_eq_true rfl, Nat.le_of_ble_eq_true rfl⟩, fun _ _ z => False.elim z, ?_⟩
  rintro v9 h9 ⟨rfl, rfl⟩
  conv => whnf
  refine ⟨fun c => absurd (show (Int32.ofInt 1).toInt = 0 from c) (by decide), fun _ => ?_⟩
  conv => whnf
  exact ⟨Or.inr rfl, ⟨Nat.le_of_ble_eq_true rfl, Nat.le_of_ble_eq_true rfl⟩, rfl, _, rfl, sit8⟩
