/-! digest: words, the class -/
def z_a (s : Int64) (v : Int32) : Int64 := s * Int64.ofNat 31 + v.toInt64
def z_fl (f : Nat → Int32) : Nat → Int64 → Int64
  | 0, s => s
  | n + 1, s => z_a (z_fl f n s) (f n)
def z_gl (z : j_Z) (k : Nat) (s : Int64) : Int64 := z_a (z_a (z_a (z_a (z_fl (z_gq z k) 10 s) (z_gE z k)) (z_gL z k)) (z_nE z k)) (z_nL z k)
def z_go (g : Nat → Int64 → Int64) : Nat → Int64 → Int64
  | 0, s => s
  | n + 1, s => g n (z_go g n s)
def z_rl (z : j_Z) (k : Nat) (s : Int64) : Int64 := z_fl (z_rq z k) 8 s
def z_pl (z : j_Z) (k : Nat) (s : Int64) : Int64 := z_fl (fun w => z_pq z k (w + 1)) 4 s
noncomputable def z_dig (z : j_Z) : Int64 :=
  z_a (z_a (z_a (z_a (z_go (z_pl z) (z.1 2).toNatClampNeg (z_go (z_rl z) (z.1 1).toNatClampNeg (z_go (z_gl z) (z.1 0).toNatClampNeg (z_fl (z_lq z) 11 (Int64.ofNat 3643))))) (z_fw z)) (z_bans z (Int32.ofInt 1))) (z_bans z (Int32.ofInt 0))) (Int32.ofInt 1)
theorem z_fl_c {f g : Nat → Int32} {s : Int64} : ∀ n, (∀ k, k < n → f k = g k) → z_fl f n s = z_fl g n s := by
  intro n
  induction n with
  | zero => intro _; rfl
  | succ n ih =>
    intro h
    show z_a (z_fl f n s) (f n) = z_a (z_fl g n s) (g n)
    rw [ih (fun k hk => h k (by omega)), h n (by omega)]
theorem z_go_c {f g : Nat → Int64 → Int64} {s : Int64} : ∀ n, (∀ k s, k < n → f k s = g k s) → z_go f n s = z_go g n s := by
  intro n
  induction n with
  | zero => intro _; rfl
  | succ n ih =>
    intro h
    show f n (z_go f n s) = g n (z_go g n s)
    rw [ih (fun k s hk => h k s (by omega)), h n _ (by omega)]
theorem z_dig_c {A B : j_Z} (e : z_eq A B) (h0 : 0 ≤ (A.1 0).toInt) (h1 : 0 ≤ (A.1 1).toInt ∧ (A.1 1).toInt ≤ 20) (h2 : 0 ≤ (A.1 2).toInt) (P : ∀ k, z_lt A 2 k → z_lt A 1 (A.2.2.2.2 k 0).toNatClampNeg ∧ ((A.2.2.2.2 k 2).toInt < 0 ∨ (A.2.2.2.2 k 2).toNatClampNeg < k)) : z_dig A = z_dig B := by
  have hst := z_cnt_st e P h2
  have q1 : z_fl (z_lq A) 11 (Int64.ofNat 3643) = z_fl (z_lq B) 11 (Int64.ofNat 3643) := z_fl_c 11 (fun k _ => z_lq_c e h0 h1.1 h2 hst)
  have q2 : ∀ s, z_go (z_gl A) (A.1 0).toNatClampNeg s = z_go (z_gl B) (B.1 0).toNatClampNeg s := by
    intro s
    rw [← e.1 0 (by decide)]
    refine z_go_c _ (fun k s hk => ?_)
    have lk := z_ltn h0 hk
    unfold z_gl z_gE z_gL
    rw [z_fl_c 10 (fun w _ => z_gq_c e h1.1 lk), z_eO_c e h1.1, z_lO_c e h1.1, z_nE_c e h0 h1.1 lk, z_nL_c e h0 h1.1 lk]
  have q3 : ∀ s, z_go (z_rl A) (A.1 1).toNatClampNeg s = z_go (z_rl B) (B.1 1).toNatClampNeg s := by
    intro s
    rw [← e.1 1 (by decide)]
    refine z_go_c _ (fun k s hk => ?_)
    unfold z_rl
    exact z_fl_c 8 (fun w _ => z_rq_c e (z_ltn h1.1 hk))
  have q4 : ∀ s, z_go (z_pl A) (A.1 2).toNatClampNeg s = z_go (z_pl B) (B.1 2).toNatClampNeg s := by
    intro s
    rw [← e.1 2 (by decide)]
    refine z_go_c _ (fun k s hk => ?_)
    unfold z_pl
    exact z_fl_c 4 (fun w _ => z_pq_c e P (z_ltn h2 hk))
  unfold z_dig
  rw [q1, q2, q3, q4, z_fw_c e h0 h1.1, z_bans_c e h1.1 h1.2, z_bans_c e h1.1 h1.2]
set_option maxHeartbeats 4000000 in
set_option maxRecDepth 20000 in
theorem c_G_digestGrainsx {h : j_H} {x : Nat} {a : Int64} (hW : j_WF h x) (I : z_I h x) : j_Ct 93 5 114 0 0 [j_r (some x), j_l a] h (fun v h' => h' = h ∧ v = some (j_l (z_go (z_gl (z_c h x)) (j_sz h x 0).toNatClampNeg a))) j_no := by
  refine j_intro km_93 (Nat.le_of_ble_eq_true rfl) ?_
  intro J hJ hF
  obtain ⟨kx, hG, L0, L1, L2, e0, l0, e1, l1, e2, l2, ap, pn⟩ := id hW
  have b0 := l0.2.1; have b1 := l1.2.1; have b2 := l2.2.1; have d0 := l0.2.2.1; have d1 := l1.2.2.1; have d2 := l2.2.2.1
  have eR : j_sz h x 0 = j_it h L0 2 := j_sz_e e0
  have clR := j_clamp b0
  refine hJ [5, 34] 400 _ _ _ _ _ _ ?_
  have L5 : ∀ (m : Nat) (w1 : Int64) (w2 : Int64) (v3 : Int32), w2 = z_go (z_gl (z_c h x)) v3.toNatClampNeg a → v3.toInt ≤ (j_it h L0 2).toInt → 0 ≤ v3.toInt → (2147483647 - v3.toInt) < (m : Int) → J 5 [some (j_r (some x)), some (j_l w1), none, some (j_l w2), none, some (j_i v3), none, none] [] h 0 0 := by
    intro m
    induction m with
    | zero => intro w1 w2 v3 iv hl hn hm; exact absurd hm (by have := j_ub v3; omega)
    | succ m ih5 =>
      intro w1 w2 v3 iv hl hno hm
      have clo := j_clamp hno
      have uv3 := j_ub v3; have lv3 := j_lb v3
      refine hJ [5, 34] 400 _ _ _ _ _ _ ?_
      conv => whnf
      refine ⟨_, rfl, kx, fun o4 eo => ?_⟩
      obtain rfl : o4 = some L0 := eo.symm.trans e0
      conv => whnf
      refine ⟨l0.1, rfl, _, _, _, _, _, _, c_AL_size (h := h) l0 j_Sc.rf j_sf_ok, ⟨Nat.le_of_ble_eq_true rfl, Nat.le_of_ble_eq_true rfl, Nat.le_of_ble_eq_true rfl, Nat.le_of_ble_eq_true rfl⟩, fun _ _ z => False.elim z, ?_⟩
      rintro o9 h9 ⟨e9, rfl⟩
      obtain rfl : h = h9 := e9.symm
      conv => whnf
      refine ⟨fun c5 => ?_, fun c5 => ?_⟩
      · have c5 : (j_it h L0 2).toInt ≤ v3.toInt := c5
        conv => whnf
        exact ⟨rfl, ⟨Nat.le_of_ble_eq_true rfl, Nat.le_of_ble_eq_true rfl⟩, rfl, congrArg (fun r => some (j_l r)) (by rw [iv, show v3.toNatClampNeg = (j_sz h x 0).toNatClampNeg by rw [eR]; omega])⟩
      · have c5 : ¬ (j_it h L0 2).toInt ≤ v3.toInt := c5
        conv => whnf
        refine ⟨_, rfl, kx, fun o6 eo => ?_⟩
        obtain rfl : o6 = some L0 := eo.symm.trans e0
        conv => whnf
        refine ⟨l0.1, rfl, _, _, _, _, _, _, c_AL_get (h := h) l0 j_Sc.rf j_sf_ok (by omega) (by omega), ⟨Nat.le_of_ble_eq_true rfl, Nat.le_of_ble_eq_true rfl, Nat.le_of_ble_eq_true rfl, Nat.le_of_ble_eq_true rfl⟩, fun _ _ z => False.elim z, ?_⟩
        rintro o9 h9 ⟨e9, g7, rfl, kg7, xg7⟩
        obtain rfl : h = h9 := e9.symm
        have yg7 := z_el_get e0 xg7
        have hin : z_in h x 0 v3.toNatClampNeg := by unfold z_in; rw [eR]; omega
        conv => whnf
        refine ⟨Or.inr ⟨_, rfl, kg7⟩, ?_⟩
        have L34 : ∀ (m : Nat) (w8 : Int64) (w9 : Int64) (v10 : Int32), w9 = z_fl (z_gq (z_c h x) v3.toNatClampNeg) (v10.toNatClampNeg) (z_go (z_gl (z_c h x)) v3.toNatClampNeg a) → v10.toInt ≤ 10 → 0 ≤ v10.toInt → (2147483647 - v10.toInt) < (m : Int) → J 34 [some (j_r (some x)), some (j_l w8), none, some (j_l w9), none, some (j_i v3), some (j_r (some g7)), some (j_i v10)] [] h 0 0 := by
          intro m
          induction m with
          | zero => intro w8 w9 v10 iw hw hn hm; exact absurd hm (by have := j_ub v10; omega)
          | succ m ih34 =>
            intro w8 w9 v10 iw hw hni hmi
            have cli := j_clamp (i := v10) (by omega)
            have uv10 := j_ub v10; have lv10 := j_lb v10
            refine hJ [5, 34] 400 _ _ _ _ _ _ ?_
            have q11 : ((Int8.ofInt (9)).toInt32).toInt = 9 := by decide
            conv => whnf
            refine ⟨fun c12 => ?_, fun c12 => ?_⟩
            · have c12 : (((Int8.ofInt (9)).toInt32)).toInt < v10.toInt := c12
              conv => whnf
              refine ⟨kx, rfl, _, _, _, _, _, _, c_G_earlyOfx hW I hin yg7, ⟨Nat.le_of_ble_eq_true rfl, Nat.le_of_ble_eq_true rfl, Nat.le_of_ble_eq_true rfl, Nat.le_of_ble_eq_true rfl⟩, fun _ _ z => False.elim z, ?_⟩
              rintro o9 h9 ⟨e9, rfl⟩
              obtain rfl : h = h9 := e9.symm
              conv => whnf
              refine ⟨kx, rfl, _, _, _, _, _, _, c_G_lateOfx hW I hin yg7, ⟨Nat.le_of_ble_eq_true rfl, Nat.le_of_ble_eq_true rfl, Nat.le_of_ble_eq_true rfl, Nat.le_of_ble_eq_true rfl⟩, fun _ _ z => False.elim z, ?_⟩
              rintro o9 h9 ⟨e9, rfl⟩
              obtain rfl : h = h9 := e9.symm
              conv => whnf
              refine ⟨kx, rfl, _, _, _, _, _, _, c_G_narrowedEarlyx hW I hin yg7, ⟨Nat.le_of_ble_eq_true rfl, Nat.le_of_ble_eq_true rfl, Nat.le_of_ble_eq_true rfl, Nat.le_of_ble_eq_true rfl⟩, fun _ _ z => False.elim z, ?_⟩
              rintro o9 h9 ⟨e9, rfl⟩
              obtain rfl : h = h9 := e9.symm
              conv => whnf
              refine ⟨kx, rfl, _, _, _, _, _, _, c_G_narrowedLatex hW I hin yg7, ⟨Nat.le_of_ble_eq_true rfl, Nat.le_of_ble_eq_true rfl, Nat.le_of_ble_eq_true rfl, Nat.le_of_ble_eq_true rfl⟩, fun _ _ z => False.elim z, ?_⟩
              rintro o9 h9 ⟨e9, rfl⟩
              obtain rfl : h = h9 := e9.symm
              have t21 : (v3 + Int32.ofInt 1).toInt = v3.toInt + 1 := j_inc1 (by omega)
              have cto := j_clamp (i := v3 + Int32.ofInt 1) (by omega)
              exact j_use hF (ih5 _ _ _ (by rw [show (v3 + Int32.ofInt 1).toNatClampNeg = v3.toNatClampNeg + 1 by omega, iw, show v10.toNatClampNeg = 10 by omega]; rfl) (by omega) (by omega) (by omega)) (And.intro rfl (And.intro rfl (And.intro rfl (And.intro rfl trivial))))
            · have c12 : ¬ (((Int8.ofInt (9)).toInt32)).toInt < v10.toInt := c12
              conv => whnf
              refine ⟨kx, rfl, _, _, _, _, _, _, c_G_grainFactx hW I hin yg7 ⟨by omega, by omega⟩, ⟨Nat.le_of_ble_eq_true rfl, Nat.le_of_ble_eq_true rfl, Nat.le_of_ble_eq_true rfl, Nat.le_of_ble_eq_true rfl⟩, fun _ _ z => False.elim z, ?_⟩
              rintro o9 h9 ⟨e9, rfl⟩
              obtain rfl : h = h9 := e9.symm
              have t24 : (v10 + Int32.ofInt 1).toInt = v10.toInt + 1 := j_inc1 (by omega)
              have cti := j_clamp (i := v10 + Int32.ofInt 1) (by omega)
              exact j_use hF (ih34 _ _ _ (by rw [show (v10 + Int32.ofInt 1).toNatClampNeg = (v10.toNatClampNeg) + 1 by omega, iw]; rfl) (by omega) (by omega) (by omega)) (And.intro rfl (And.intro rfl (And.intro rfl (And.intro rfl (And.intro rfl (And.intro rfl trivial))))))
        have q25 : ((Int32.ofInt (0))).toInt = 0 := by decide
        have cts := j_clamp (i := Int32.ofInt 0) (by omega)
        exact j_use hF (L34 4294967296 _ _ _ (by rw [show (Int32.ofInt 0).toNatClampNeg = 0 by omega]; exact iv) (by omega) (by omega) (by omega)) (And.intro rfl (And.intro rfl (And.intro rfl (And.intro rfl (And.intro rfl (And.intro rfl trivial))))))
  have q26 : ((Int32.ofInt (0))).toInt = 0 := by decide
  have cto := j_clamp (i := Int32.ofInt 0) (by omega)
  exact j_use hF (L5 4294967296 _ _ _ (by rw [show (Int32.ofInt 0).toNatClampNeg = 0 by omega]; rfl) (by omega) (by omega) (by omega)) (And.intro rfl (And.intro rfl (And.intro rfl (And.intro rfl trivial))))
set_option maxHeartbeats 4000000 in
set_option maxRecDepth 20000 in
theorem c_G_digestRunsx {h : j_H} {x : Nat} {a : Int64} (hW : j_WF h x) (I : z_I h x) : j_Ct 95 3 64 0 0 [j_r (some x), j_l a] h (fun v h' => h' = h ∧ v = some (j_l (z_go (z_rl (z_c h x)) (j_sz h x 1).toNatClampNeg a))) j_no := by
  refine j_intro km_95 (Nat.le_of_ble_eq_true rfl) ?_
  intro J hJ hF
  obtain ⟨kx, hG, L0, L1, L2, e0, l0, e1, l1, e2, l2, ap, pn⟩ := id hW
  have b0 := l0.2.1; have b1 := l1.2.1; have b2 := l2.2.1; have d0 := l0.2.2.1; have d1 := l1.2.2.1; have d2 := l2.2.2.1
  have eR : j_sz h x 1 = j_it h L1 2 := j_sz_e e1
  have clR := j_clamp b1
  refine hJ [5, 20] 400 _ _ _ _ _ _ ?_
  have L5 : ∀ (m : Nat) (w1 : Int64) (w2 : Int64) (v3 : Int32), w2 = z_go (z_rl (z_c h x)) v3.toNatClampNeg a → v3.toInt ≤ (j_it h L1 2).toInt → 0 ≤ v3.toInt → (2147483647 - v3.toInt) < (m : Int) → J 5 [some (j_r (some x)), some (j_l w1), none, some (j_l w2), none, some (j_i v3), none] [] h 0 0 := by
    intro m
    induction m with
    | zero => intro w1 w2 v3 iv hl hn hm; exact absurd hm (by have := j_ub v3; omega)
    | succ m ih5 =>
      intro w1 w2 v3 iv hl hno hm
      have clo := j_clamp hno
      have uv3 := j_ub v3; have lv3 := j_lb v3
      refine hJ [5, 20] 400 _ _ _ _ _ _ ?_
      conv => whnf
      refine ⟨_, rfl, kx, fun o4 eo => ?_⟩
      obtain rfl : o4 = some L1 := eo.symm.trans e1
      conv => whnf
      refine ⟨l1.1, rfl, _, _, _, _, _, _, c_AL_size (h := h) l1 j_Sc.rf j_sf_ok, ⟨Nat.le_of_ble_eq_true rfl, Nat.le_of_ble_eq_true rfl, Nat.le_of_ble_eq_true rfl, Nat.le_of_ble_eq_true rfl⟩, fun _ _ z => False.elim z, ?_⟩
      rintro o9 h9 ⟨e9, rfl⟩
      obtain rfl : h = h9 := e9.symm
      conv => whnf
      refine ⟨fun c5 => ?_, fun c5 => ?_⟩
      · have c5 : (j_it h L1 2).toInt ≤ v3.toInt := c5
        conv => whnf
        exact ⟨rfl, ⟨Nat.le_of_ble_eq_true rfl, Nat.le_of_ble_eq_true rfl⟩, rfl, congrArg (fun r => some (j_l r)) (by rw [iv, show v3.toNatClampNeg = (j_sz h x 1).toNatClampNeg by rw [eR]; omega])⟩
      · have c5 : ¬ (j_it h L1 2).toInt ≤ v3.toInt := c5
        have L20 : ∀ (m : Nat) (w6 : Int64) (w7 : Int64) (v8 : Int32), w7 = z_fl (z_rq (z_c h x) v3.toNatClampNeg) (v8.toNatClampNeg) (z_go (z_rl (z_c h x)) v3.toNatClampNeg a) → v8.toInt ≤ 8 → 0 ≤ v8.toInt → (2147483647 - v8.toInt) < (m : Int) → J 20 [some (j_r (some x)), some (j_l w6), none, some (j_l w7), none, some (j_i v3), some (j_i v8)] [] h 0 0 := by
          intro m
          induction m with
          | zero => intro w6 w7 v8 iw hw hn hm; exact absurd hm (by have := j_ub v8; omega)
          | succ m ih20 =>
            intro w6 w7 v8 iw hw hni hmi
            have cli := j_clamp (i := v8) (by omega)
            have uv8 := j_ub v8; have lv8 := j_lb v8
            refine hJ [5, 20] 400 _ _ _ _ _ _ ?_
            have q9 : ((Int8.ofInt (7)).toInt32).toInt = 7 := by decide
            conv => whnf
            refine ⟨fun c10 => ?_, fun c10 => ?_⟩
            · have c10 : (((Int8.ofInt (7)).toInt32)).toInt < v8.toInt := c10
              have t11 : (v3 + Int32.ofInt 1).toInt = v3.toInt + 1 := j_inc1 (by omega)
              have cto := j_clamp (i := v3 + Int32.ofInt 1) (by omega)
              exact j_use hF (ih5 _ _ _ (by rw [show (v3 + Int32.ofInt 1).toNatClampNeg = v3.toNatClampNeg + 1 by omega, iw, show v8.toNatClampNeg = 8 by omega]; rfl) (by omega) (by omega) (by omega)) (And.intro rfl (And.intro rfl (And.intro rfl (And.intro rfl trivial))))
            · have c10 : ¬ (((Int8.ofInt (7)).toInt32)).toInt < v8.toInt := c10
              conv => whnf
              refine ⟨_, rfl, kx, fun o12 eo => ?_⟩
              obtain rfl : o12 = some L1 := eo.symm.trans e1
              conv => whnf
              refine ⟨l1.1, rfl, _, _, _, _, _, _, c_AL_get (h := h) l1 j_Sc.rf j_sf_ok (by omega) (by omega), ⟨Nat.le_of_ble_eq_true rfl, Nat.le_of_ble_eq_true rfl, Nat.le_of_ble_eq_true rfl, Nat.le_of_ble_eq_true rfl⟩, fun _ _ z => False.elim z, ?_⟩
              rintro o9 h9 ⟨e9, g13, rfl, kg13, xg13⟩
              obtain rfl : h = h9 := e9.symm
              have yg13 := z_el_get e1 xg13
              have hin : z_in h x 1 v3.toNatClampNeg := by unfold z_in; rw [eR]; omega
              conv => whnf
              refine ⟨Or.inr ⟨_, rfl, kg13⟩, ?_⟩
              conv => whnf
              refine ⟨kx, rfl, _, _, _, _, _, _, c_G_runFactx hW I hin yg13 ⟨by omega, by omega⟩, ⟨Nat.le_of_ble_eq_true rfl, Nat.le_of_ble_eq_true rfl, Nat.le_of_ble_eq_true rfl, Nat.le_of_ble_eq_true rfl⟩, fun _ _ z => False.elim z, ?_⟩
              rintro o9 h9 ⟨e9, rfl⟩
              obtain rfl : h = h9 := e9.symm
              have t16 : (v8 + Int32.ofInt 1).toInt = v8.toInt + 1 := j_inc1 (by omega)
              have cti := j_clamp (i := v8 + Int32.ofInt 1) (by omega)
              exact j_use hF (ih20 _ _ _ (by rw [show (v8 + Int32.ofInt 1).toNatClampNeg = (v8.toNatClampNeg) + 1 by omega, iw]; rfl) (by omega) (by omega) (by omega)) (And.intro rfl (And.intro rfl (And.intro rfl (And.intro rfl (And.intro rfl trivial)))))
        have q17 : ((Int32.ofInt (0))).toInt = 0 := by decide
        have cts := j_clamp (i := Int32.ofInt 0) (by omega)
        exact j_use hF (L20 4294967296 _ _ _ (by rw [show (Int32.ofInt 0).toNatClampNeg = 0 by omega]; exact iv) (by omega) (by omega) (by omega)) (And.intro rfl (And.intro rfl (And.intro rfl (And.intro rfl (And.intro rfl trivial)))))
  have q18 : ((Int32.ofInt (0))).toInt = 0 := by decide
  have cto := j_clamp (i := Int32.ofInt 0) (by omega)
  exact j_use hF (L5 4294967296 _ _ _ (by rw [show (Int32.ofInt 0).toNatClampNeg = 0 by omega]; rfl) (by omega) (by omega) (by omega)) (And.intro rfl (And.intro rfl (And.intro rfl (And.intro rfl trivial))))
set_option maxHeartbeats 4000000 in
set_option maxRecDepth 20000 in
theorem c_G_digestPrintsx {h : j_H} {x : Nat} {a : Int64} (hW : j_WF h x) (I : z_I h x) : j_Ct 94 3 65 0 0 [j_r (some x), j_l a] h (fun v h' => h' = h ∧ v = some (j_l (z_go (z_pl (z_c h x)) (j_sz h x 2).toNatClampNeg a))) j_no := by
  refine j_intro km_94 (Nat.le_of_ble_eq_true rfl) ?_
  intro J hJ hF
  obtain ⟨kx, hG, L0, L1, L2, e0, l0, e1, l1, e2, l2, ap, pn⟩ := id hW
  have b0 := l0.2.1; have b1 := l1.2.1; have b2 := l2.2.1; have d0 := l0.2.2.1; have d1 := l1.2.2.1; have d2 := l2.2.2.1
  have eR : j_sz h x 2 = j_it h L2 2 := j_sz_e e2
  have clR := j_clamp b2
  refine hJ [5, 20] 400 _ _ _ _ _ _ ?_
  have L5 : ∀ (m : Nat) (w1 : Int64) (w2 : Int64) (v3 : Int32), w2 = z_go (z_pl (z_c h x)) v3.toNatClampNeg a → v3.toInt ≤ (j_it h L2 2).toInt → 0 ≤ v3.toInt → (2147483647 - v3.toInt) < (m : Int) → J 5 [some (j_r (some x)), some (j_l w1), none, some (j_l w2), none, some (j_i v3), none] [] h 0 0 := by
    intro m
    induction m with
    | zero => intro w1 w2 v3 iv hl hn hm; exact absurd hm (by have := j_ub v3; omega)
    | succ m ih5 =>
      intro w1 w2 v3 iv hl hno hm
      have clo := j_clamp hno
      have uv3 := j_ub v3; have lv3 := j_lb v3
      refine hJ [5, 20] 400 _ _ _ _ _ _ ?_
      conv => whnf
      refine ⟨_, rfl, kx, fun o4 eo => ?_⟩
      obtain rfl : o4 = some L2 := eo.symm.trans e2
      conv => whnf
      refine ⟨l2.1, rfl, _, _, _, _, _, _, c_AL_size (h := h) l2 j_Sc.rf j_sf_ok, ⟨Nat.le_of_ble_eq_true rfl, Nat.le_of_ble_eq_true rfl, Nat.le_of_ble_eq_true rfl, Nat.le_of_ble_eq_true rfl⟩, fun _ _ z => False.elim z, ?_⟩
      rintro o9 h9 ⟨e9, rfl⟩
      obtain rfl : h = h9 := e9.symm
      conv => whnf
      refine ⟨fun c5 => ?_, fun c5 => ?_⟩
      · have c5 : (j_it h L2 2).toInt ≤ v3.toInt := c5
        conv => whnf
        exact ⟨rfl, ⟨Nat.le_of_ble_eq_true rfl, Nat.le_of_ble_eq_true rfl⟩, rfl, congrArg (fun r => some (j_l r)) (by rw [iv, show v3.toNatClampNeg = (j_sz h x 2).toNatClampNeg by rw [eR]; omega])⟩
      · have c5 : ¬ (j_it h L2 2).toInt ≤ v3.toInt := c5
        have L20 : ∀ (m : Nat) (w6 : Int64) (w7 : Int64) (v8 : Int32), w7 = z_fl (fun w => z_pq (z_c h x) v3.toNatClampNeg (w + 1)) (v8.toNatClampNeg - 1) (z_go (z_pl (z_c h x)) v3.toNatClampNeg a) → v8.toInt ≤ 5 → 1 ≤ v8.toInt → (2147483647 - v8.toInt) < (m : Int) → J 20 [some (j_r (some x)), some (j_l w6), none, some (j_l w7), none, some (j_i v3), some (j_i v8)] [] h 0 0 := by
          intro m
          induction m with
          | zero => intro w6 w7 v8 iw hw hn hm; exact absurd hm (by have := j_ub v8; omega)
          | succ m ih20 =>
            intro w6 w7 v8 iw hw hni hmi
            have cli := j_clamp (i := v8) (by omega)
            have uv8 := j_ub v8; have lv8 := j_lb v8
            refine hJ [5, 20] 400 _ _ _ _ _ _ ?_
            have q9 : ((Int32.ofInt (4))).toInt = 4 := by decide
            conv => whnf
            refine ⟨fun c10 => ?_, fun c10 => ?_⟩
            · have c10 : (((Int32.ofInt (4)))).toInt < v8.toInt := c10
              have t11 : (v3 + Int32.ofInt 1).toInt = v3.toInt + 1 := j_inc1 (by omega)
              have cto := j_clamp (i := v3 + Int32.ofInt 1) (by omega)
              exact j_use hF (ih5 _ _ _ (by rw [show (v3 + Int32.ofInt 1).toNatClampNeg = v3.toNatClampNeg + 1 by omega, iw, show v8.toNatClampNeg - 1 = 4 by omega]; rfl) (by omega) (by omega) (by omega)) (And.intro rfl (And.intro rfl (And.intro rfl (And.intro rfl trivial))))
            · have c10 : ¬ (((Int32.ofInt (4)))).toInt < v8.toInt := c10
              conv => whnf
              refine ⟨_, rfl, kx, fun o12 eo => ?_⟩
              obtain rfl : o12 = some L2 := eo.symm.trans e2
              conv => whnf
              refine ⟨l2.1, rfl, _, _, _, _, _, _, c_AL_get (h := h) l2 j_Sc.rf j_sf_ok (by omega) (by omega), ⟨Nat.le_of_ble_eq_true rfl, Nat.le_of_ble_eq_true rfl, Nat.le_of_ble_eq_true rfl, Nat.le_of_ble_eq_true rfl⟩, fun _ _ z => False.elim z, ?_⟩
              rintro o9 h9 ⟨e9, g13, rfl, kg13, xg13⟩
              obtain rfl : h = h9 := e9.symm
              have yg13 := z_el_get e2 xg13
              have hin : z_in h x 2 v3.toNatClampNeg := by unfold z_in; rw [eR]; omega
              conv => whnf
              refine ⟨Or.inr ⟨_, rfl, kg13⟩, ?_⟩
              conv => whnf
              refine ⟨kx, rfl, _, _, _, _, _, _, c_G_printFactx hW I hin yg13 ⟨by omega, by omega⟩, ⟨Nat.le_of_ble_eq_true rfl, Nat.le_of_ble_eq_true rfl, Nat.le_of_ble_eq_true rfl, Nat.le_of_ble_eq_true rfl⟩, fun _ _ z => False.elim z, ?_⟩
              rintro o9 h9 ⟨e9, rfl⟩
              obtain rfl : h = h9 := e9.symm
              have t16 : (v8 + Int32.ofInt 1).toInt = v8.toInt + 1 := j_inc1 (by omega)
              have cti := j_clamp (i := v8 + Int32.ofInt 1) (by omega)
              exact j_use hF (ih20 _ _ _ (by rw [show (v8 + Int32.ofInt 1).toNatClampNeg - 1 = (v8.toNatClampNeg - 1) + 1 by omega, iw]; show _ = z_a _ (z_pq (z_c h x) v3.toNatClampNeg (v8.toNatClampNeg - 1 + 1)); rw [show v8.toNatClampNeg - 1 + 1 = v8.toNatClampNeg by omega]; rfl) (by omega) (by omega) (by omega)) (And.intro rfl (And.intro rfl (And.intro rfl (And.intro rfl (And.intro rfl trivial)))))
        have q17 : ((Int32.ofInt (1))).toInt = 1 := by decide
        have cts := j_clamp (i := Int32.ofInt 1) (by omega)
        exact j_use hF (L20 4294967296 _ _ _ (by rw [show (Int32.ofInt 1).toNatClampNeg - 1 = 0 by omega]; exact iv) (by omega) (by omega) (by omega)) (And.intro rfl (And.intro rfl (And.intro rfl (And.intro rfl (And.intro rfl trivial)))))
  have q18 : ((Int32.ofInt (0))).toInt = 0 := by decide
  have cto := j_clamp (i := Int32.ofInt 0) (by omega)
  exact j_use hF (L5 4294967296 _ _ _ (by rw [show (Int32.ofInt 0).toNatClampNeg = 0 by omega]; rfl) (by omega) (by omega) (by omega)) (And.intro rfl (And.intro rfl (And.intro rfl (And.intro rfl trivial))))
