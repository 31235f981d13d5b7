/-! asking the object: word for word -/
set_option maxHeartbeats 4000000 in
set_option maxRecDepth 20000 in
theorem c_Run_earlyInx {h : j_H} {y : Nat} {a : Int32} (ky : j_kd h y = some (.inl 7)) : j_Ct 156 0 0 0 0 [j_r (some y), j_i a] h (fun v h' => h' = h ∧ v = some (j_i ((j_it h y 8 + a) - j_it h y 5))) j_no := by
  refine j_intro km_156 (Nat.le_of_ble_eq_true rfl) ?_
  intro J hJ hF
  refine hJ [] 400 _ _ _ _ _ _ ?_
  conv => whnf
  refine ⟨_, rfl, ky, fun x1 ex1 => ?_⟩
  obtain rfl : x1 = j_it h y 8 := ex1.symm
  conv => whnf
  refine ⟨_, rfl, ky, fun x2 ex2 => ?_⟩
  obtain rfl : x2 = j_it h y 5 := ex2.symm
  conv => whnf
  exact ⟨trivial, ⟨Nat.le_of_ble_eq_true rfl, Nat.le_of_ble_eq_true rfl⟩, rfl, rfl⟩
set_option maxHeartbeats 4000000 in
set_option maxRecDepth 20000 in
theorem c_Run_lateInx {h : j_H} {y : Nat} {a : Int32} (ky : j_kd h y = some (.inl 7)) : j_Ct 157 0 0 0 0 [j_r (some y), j_i a] h (fun v h' => h' = h ∧ v = some (j_i ((j_it h y 9 + a) - j_it h y 5))) j_no := by
  refine j_intro km_157 (Nat.le_of_ble_eq_true rfl) ?_
  intro J hJ hF
  refine hJ [] 400 _ _ _ _ _ _ ?_
  conv => whnf
  refine ⟨_, rfl, ky, fun x1 ex1 => ?_⟩
  obtain rfl : x1 = j_it h y 9 := ex1.symm
  conv => whnf
  refine ⟨_, rfl, ky, fun x2 ex2 => ?_⟩
  obtain rfl : x2 = j_it h y 5 := ex2.symm
  conv => whnf
  exact ⟨trivial, ⟨Nat.le_of_ble_eq_true rfl, Nat.le_of_ble_eq_true rfl⟩, rfl, rfl⟩
/-- what tellsOf says -/
def z_tells (h : j_H) (y z : Nat) (a : Int32) : Bool := decide (¬ (j_it h y 7).toInt = 0) && (decide (j_rf h y 6 = some z) && (decide (a.toInt = -1) || decide ((j_it h y 1).toInt = a.toInt)))
set_option maxHeartbeats 4000000 in
set_option maxRecDepth 20000 in
theorem c_Run_tellsOfx {h : j_H} {y z : Nat} {a : Int32} (ky : j_kd h y = some (.inl 7)) : j_Ct 159 0 0 0 0 [j_r (some y), j_r (some z), j_i a] h (fun v h' => h' = h ∧ v = some (j_i (z_b (z_tells h y z a)))) j_no := by
  refine j_intro km_159 (Nat.le_of_ble_eq_true rfl) ?_
  intro J hJ hF
  have q5 : (Int32.ofInt (-1)).toInt = -1 := by decide
  refine hJ [] 400 _ _ _ _ _ _ ?_
  conv => whnf
  refine ⟨_, rfl, ky, fun x1 ex1 => ?_⟩
  obtain rfl : x1 = j_it h y 7 := ex1.symm
  conv => whnf
  refine ⟨fun c2 => ?_, fun c2 => ?_⟩
  · have c2 : (j_it h y 7).toInt = 0 := c2
    conv => whnf
    refine ⟨Or.inl rfl, ⟨Nat.le_of_ble_eq_true rfl, Nat.le_of_ble_eq_true rfl⟩, rfl, congrArg (fun r => some (j_i r)) (show Int32.ofInt 0 = _ from ?_)⟩
    unfold z_tells
    rw [decide_eq_false (fun q => q c2), Bool.false_and]
    rfl
  · have c2 : ¬ (j_it h y 7).toInt = 0 := c2
    conv => whnf
    refine ⟨_, rfl, ky, fun o3 eo => ?_⟩
    obtain rfl : o3 = j_rf h y 6 := eo.symm
    conv => whnf
    refine ⟨fun c4 => ?_, fun c4 => ?_⟩
    · have c4 : j_rf h y 6 = some z := c4
      conv => whnf
      refine ⟨fun c7 => ?_, fun c7 => ?_⟩
      · have c7 : a.toInt = (Int32.ofInt (-1)).toInt := c7
        conv => whnf
        refine ⟨Or.inr rfl, ⟨Nat.le_of_ble_eq_true rfl, Nat.le_of_ble_eq_true rfl⟩, rfl, congrArg (fun r => some (j_i r)) (show Int32.ofInt 1 = _ from ?_)⟩
        unfold z_tells
        rw [decide_eq_true c2, decide_eq_true c4, decide_eq_true (c7.trans q5)]
        rfl
      · have c7 : ¬ a.toInt = (Int32.ofInt (-1)).toInt := c7
        rw [q5] at c7
        conv => whnf
        refine ⟨_, rfl, ky, fun x8 ex8 => ?_⟩
        obtain rfl : x8 = j_it h y 1 := ex8.symm
        conv => whnf
        refine ⟨fun c11 => ?_, fun c11 => ?_⟩
        · have c11 : ¬ (j_it h y 1).toInt = a.toInt := c11
          conv => whnf
          refine ⟨Or.inl rfl, ⟨Nat.le_of_ble_eq_true rfl, Nat.le_of_ble_eq_true rfl⟩, rfl, congrArg (fun r => some (j_i r)) (show Int32.ofInt 0 = _ from ?_)⟩
          unfold z_tells
          rw [decide_eq_true c2, decide_eq_true c4, decide_eq_false c7, decide_eq_false c11]
          rfl
        · have c11 : ¬ ¬ (j_it h y 1).toInt = a.toInt := c11
          conv => whnf
          refine ⟨Or.inr rfl, ⟨Nat.le_of_ble_eq_true rfl, Nat.le_of_ble_eq_true rfl⟩, rfl, congrArg (fun r => some (j_i r)) (show Int32.ofInt 1 = _ from ?_)⟩
          unfold z_tells
          rw [decide_eq_true c2, decide_eq_true c4, decide_eq_false c7, decide_eq_true (Classical.not_not.mp c11)]
          rfl
    · have c4 : ¬ j_rf h y 6 = some z := c4
      conv => whnf
      refine ⟨Or.inl rfl, ⟨Nat.le_of_ble_eq_true rfl, Nat.le_of_ble_eq_true rfl⟩, rfl, congrArg (fun r => some (j_i r)) (show Int32.ofInt 0 = _ from ?_)⟩
      unfold z_tells
      rw [decide_eq_true c2, decide_eq_false c4]
      rfl
theorem z_lbl {h : j_H} {x k g : Nat} (I : z_I h x) (hk : z_in h x 1 k) (hg : z_in h x 0 g) : (j_rf h (z_el h x 1 k) 6 = some (z_el h x 0 g)) ↔ (z_cr h x k 0).toInt = (g : Int) := by
  obtain ⟨-, g', hg', r⟩ := I.1.2.2.1 k hk
  have e : (z_cr h x k 0).toInt = (g' : Int) := by
    show (j_it h ((j_rf h (z_el h x 1 k) 6).getD 0) 0).toInt = _
    rw [r, Option.getD_some]
    exact I.1.1 g' hg'
  rw [e, r]
  refine ⟨fun z => ?_, fun z => ?_⟩
  · have := I.g hg' hg (Option.some.inj z)
    omega
  · rw [show g' = g by omega]
theorem z_tells_at {h : j_H} {x k g : Nat} {a : Int32} (I : z_I h x) (hk : z_in h x 1 k) (hg : z_in h x 0 g) : z_tells h (z_el h x 1 k) (z_el h x 0 g) a = z_says (z_c h x) g a k := by
  unfold z_tells z_says
  rw [decide_eq_decide.mpr (z_lbl I hk hg)]
  rfl
theorem z_pwx {h : j_H} {x : Nat} (c : Int32) : (z_c h x).1 (j_pf c) = j_it h x (j_pf c) := by
  rcases j_pf34' c with ⟨_, q⟩ | ⟨_, q⟩
  · rw [q]; rfl
  · rw [q]; rfl
theorem z_er_at {h : j_H} {x k : Nat} (I : z_I h x) (hk : z_in h x 1 k) : (j_it h (z_el h x 1 k) 8 + j_it h x 6) - j_it h (z_el h x 1 k) 5 = z_er (z_c h x) k := by
  unfold z_er z_tp
  rw [z_pwx, (I.2 k hk).1]
  rfl
theorem z_lr_at {h : j_H} {x k : Nat} (I : z_I h x) (hk : z_in h x 1 k) : (j_it h (z_el h x 1 k) 9 + j_it h x 6) - j_it h (z_el h x 1 k) 5 = z_lr (z_c h x) k := by
  unfold z_lr z_tp
  rw [z_pwx, (I.2 k hk).2]
  rfl
set_option maxHeartbeats 4000000 in
set_option maxRecDepth 20000 in
theorem c_G_earlyOfx {h : j_H} {x e g : Nat} {a b : Int32} (hW : j_WF h x) (I : z_I h x) (hg : z_in h x 0 g) (he : z_el h x 0 g = e) : j_Ct 97 3 64 0 0 [j_r (some x), j_r (some e), j_i a, j_i b] h (fun v h' => h' = h ∧ v = some (j_i (z_eO (z_c h x) g a b))) j_no := by
  refine j_intro km_97 (Nat.le_of_ble_eq_true rfl) ?_
  intro J hJ hF
  obtain ⟨kx, hG, L0, L1, L2, e0, l0, e1, l1, e2, l2, ap, pn⟩ := id hW
  have b1 := l1.2.1; have d1 := l1.2.2.1
  have eR : j_sz h x 1 = j_it h L1 2 := j_sz_e e1
  have clR := j_clamp b1
  refine hJ [6] 400 _ _ _ _ _ _ ?_
  have L4 : ∀ (n : Nat) (v2 : Int32), 0 ≤ v2.toInt → v2.toInt ≤ (j_it h L1 2).toInt → (j_it h L1 2).toInt - v2.toInt < (n : Int) → J 6 [some (j_r (some x)), some (j_r (some e)), some (j_i a), some (j_i b), some (j_i (z_fM (z_pw (z_c h x) g a b) (z_er (z_c h x)) v2.toNatClampNeg)), some (j_i v2), none] [] h 0 0 := by
    intro n
    induction n with
    | zero => intro v2 hn hm hz; omega
    | succ n ih4 =>
      intro v2 hn hm hz
      have cl := j_clamp hn
      refine hJ [6] 400 _ _ _ _ _ _ ?_
      conv => whnf
      refine ⟨_, rfl, kx, fun o3 eo => ?_⟩
      obtain rfl : o3 = some L1 := eo.symm.trans e1
      conv => whnf
      refine ⟨l1.1, rfl, _, _, _, _, _, _, c_AL_size (h := h) l1 j_Sc.rf j_sf_ok, ⟨Nat.le_of_ble_eq_true rfl, Nat.le_of_ble_eq_true rfl, Nat.le_of_ble_eq_true rfl, Nat.le_of_ble_eq_true rfl⟩, fun _ _ z => False.elim z, ?_⟩
      rintro v9 h9 ⟨e9, rfl⟩
      obtain rfl : h = h9 := e9.symm
      conv => whnf
      refine ⟨fun c4 => ?_, fun c4 => ?_⟩
      · have c4 : (j_it h L1 2).toInt ≤ v2.toInt := c4
        have ev : v2.toNatClampNeg = (j_sz h x 1).toNatClampNeg := by rw [eR]; omega
        conv => whnf
        exact ⟨trivial, ⟨Nat.le_of_ble_eq_true rfl, Nat.le_of_ble_eq_true rfl⟩, rfl, by rw [ev]; try rfl⟩
      · have c4 : ¬ (j_it h L1 2).toInt ≤ v2.toInt := c4
        have hin : z_in h x 1 v2.toNatClampNeg := by unfold z_in; rw [eR]; omega
        have num := (I.1.2.2.1 _ hin).1
        have t14 : (v2 + Int32.ofInt 1).toInt = v2.toInt + 1 := j_inc1 (by omega)
        have cl2 := j_clamp (i := v2 + Int32.ofInt 1) (by omega)
        have ek : (v2 + Int32.ofInt 1).toNatClampNeg = v2.toNatClampNeg + 1 := by omega
        have nx := ih4 (v2 + Int32.ofInt 1) (by omega) (by omega) (by omega)
        rw [ek] at nx
        conv => whnf
        refine ⟨_, rfl, kx, fun o5 eo => ?_⟩
        obtain rfl : o5 = some L1 := eo.symm.trans e1
        conv => whnf
        refine ⟨l1.1, rfl, _, _, _, _, _, _, c_AL_get (h := h) l1 j_Sc.rf j_sf_ok (by omega) (by omega), ⟨Nat.le_of_ble_eq_true rfl, Nat.le_of_ble_eq_true rfl, Nat.le_of_ble_eq_true rfl, Nat.le_of_ble_eq_true rfl⟩, fun _ _ z => False.elim z, ?_⟩
        rintro v9 h9 ⟨e9, g6, rfl, kg6, xg6⟩
        obtain rfl : h = h9 := e9.symm
        have hy := z_el_get e1 xg6
        conv => whnf
        refine ⟨Or.inr ⟨_, rfl, kg6⟩, ?_⟩
        have sk : z_pw (z_c h x) g a b v2.toNatClampNeg = false → z_fM (z_pw (z_c h x) g a b) (z_er (z_c h x)) (v2.toNatClampNeg + 1) = z_fM (z_pw (z_c h x) g a b) (z_er (z_c h x)) v2.toNatClampNeg := fun q => if_neg (by rw [q]; decide)
        conv => whnf
        refine ⟨_, rfl, kg6, fun x7 ex7 => ?_⟩
        have n7 : x7.toInt = (v2.toNatClampNeg : Int) := by rw [← ex7, ← hy]; exact num
        conv => whnf
        refine ⟨fun c10 => ?_, fun c10 => ?_⟩
        · have c10 : x7.toInt = b.toInt := c10
          rw [sk (by unfold z_pw; rw [decide_eq_false (fun q => q (n7.symm.trans c10)), Bool.false_and])] at nx
          exact j_use hF nx (And.intro rfl (And.intro rfl (And.intro rfl (And.intro rfl (And.intro rfl (And.intro rfl trivial))))))
        · have c10 : ¬ x7.toInt = b.toInt := c10
          have pb : z_pw (z_c h x) g a b v2.toNatClampNeg = z_says (z_c h x) g a v2.toNatClampNeg := by
            unfold z_pw
            rw [decide_eq_true (show ¬ (v2.toNatClampNeg : Int) = b.toInt by rw [← n7]; exact c10), Bool.true_and]
          conv => whnf
          refine ⟨kg6, rfl, _, _, _, _, _, _, c_Run_tellsOfx kg6, ⟨Nat.le_of_ble_eq_true rfl, Nat.le_of_ble_eq_true rfl, Nat.le_of_ble_eq_true rfl, Nat.le_of_ble_eq_true rfl⟩, fun _ _ z => False.elim z, ?_⟩
          rintro v9 h9 ⟨e9, rfl⟩
          obtain rfl : h = h9 := e9.symm
          have tl : z_tells h g6 e a = z_says (z_c h x) g a v2.toNatClampNeg := by rw [← hy, ← he]; exact z_tells_at I hin hg
          rw [tl]
          conv => whnf
          refine ⟨fun c13 => ?_, fun c13 => ?_⟩
          · have c13 : (z_b (z_says (z_c h x) g a v2.toNatClampNeg)).toInt = 0 := c13
            rw [sk (by rw [pb]; exact z_b0.mp c13)] at nx
            exact j_use hF nx (And.intro rfl (And.intro rfl (And.intro rfl (And.intro rfl (And.intro rfl (And.intro rfl trivial))))))
          · have c13 : ¬ (z_b (z_says (z_c h x) g a v2.toNatClampNeg)).toInt = 0 := c13
            conv => whnf
            refine ⟨_, rfl, kx, fun x15 ex15 => ?_⟩
            obtain rfl : x15 = j_it h x 6 := ex15.symm
            conv => whnf
            refine ⟨kg6, rfl, _, _, _, _, _, _, c_Run_earlyInx kg6, ⟨Nat.le_of_ble_eq_true rfl, Nat.le_of_ble_eq_true rfl, Nat.le_of_ble_eq_true rfl, Nat.le_of_ble_eq_true rfl⟩, fun _ _ z => False.elim z, ?_⟩
            rintro v9 h9 ⟨e9, rfl⟩
            obtain rfl : h = h9 := e9.symm
            have er : (j_it h g6 8 + j_it h x 6) - j_it h g6 5 = z_er (z_c h x) v2.toNatClampNeg := by rw [← hy]; exact z_er_at I hin
            rw [er]
            conv => whnf
            refine ⟨⟨Nat.le_of_ble_eq_true rfl, Nat.le_of_ble_eq_true rfl, Nat.le_of_ble_eq_true rfl, Nat.le_of_ble_eq_true rfl⟩, ?_⟩
            rw [show z_fM (z_pw (z_c h x) g a b) (z_er (z_c h x)) (v2.toNatClampNeg + 1) = z_mAx (z_fM (z_pw (z_c h x) g a b) (z_er (z_c h x)) v2.toNatClampNeg) (z_er (z_c h x) v2.toNatClampNeg) from if_pos (by rw [pb]; exact z_bn c13)] at nx
            exact j_use hF nx (And.intro rfl (And.intro rfl (And.intro rfl (And.intro rfl (And.intro rfl (And.intro rfl trivial))))))
  have cl0 : (Int32.ofInt 0).toNatClampNeg = 0 := by decide
  have st := L4 100 (Int32.ofInt 0) (by decide) (by have : (Int32.ofInt 0).toInt = 0 := (by decide); omega) (by have : (Int32.ofInt 0).toInt = 0 := (by decide); omega)
  rw [cl0] at st
  exact j_use hF st (And.intro rfl (And.intro rfl (And.intro rfl (And.intro rfl (And.intro rfl (And.intro rfl trivial))))))
set_option maxHeartbeats 4000000 in
set_option maxRecDepth 20000 in
theorem c_G_lateOfx {h : j_H} {x e g : Nat} {a b : Int32} (hW : j_WF h x) (I : z_I h x) (hg : z_in h x 0 g) (he : z_el h x 0 g = e) : j_Ct 112 3 64 0 0 [j_r (some x), j_r (some e), j_i a, j_i b] h (fun v h' => h' = h ∧ v = some (j_i (z_lO (z_c h x) g a b))) j_no := by
  refine j_intro km_112 (Nat.le_of_ble_eq_true rfl) ?_
  intro J hJ hF
  obtain ⟨kx, hG, L0, L1, L2, e0, l0, e1, l1, e2, l2, ap, pn⟩ := id hW
  have b1 := l1.2.1; have d1 := l1.2.2.1
  have eR : j_sz h x 1 = j_it h L1 2 := j_sz_e e1
  have clR := j_clamp b1
  refine hJ [8] 400 _ _ _ _ _ _ ?_
  have L4 : ∀ (n : Nat) (v2 : Int32), 0 ≤ v2.toInt → v2.toInt ≤ (j_it h L1 2).toInt → (j_it h L1 2).toInt - v2.toInt < (n : Int) → J 8 [some (j_r (some x)), some (j_r (some e)), some (j_i a), some (j_i b), some (j_i (z_fm (z_pw (z_c h x) g a b) (z_lr (z_c h x)) v2.toNatClampNeg)), some (j_i v2), none] [] h 0 0 := by
    intro n
    induction n with
    | zero => intro v2 hn hm hz; omega
    | succ n ih4 =>
      intro v2 hn hm hz
      have cl := j_clamp hn
      refine hJ [8] 400 _ _ _ _ _ _ ?_
      conv => whnf
      refine ⟨_, rfl, kx, fun o3 eo => ?_⟩
      obtain rfl : o3 = some L1 := eo.symm.trans e1
      conv => whnf
      refine ⟨l1.1, rfl, _, _, _, _, _, _, c_AL_size (h := h) l1 j_Sc.rf j_sf_ok, ⟨Nat.le_of_ble_eq_true rfl, Nat.le_of_ble_eq_true rfl, Nat.le_of_ble_eq_true rfl, Nat.le_of_ble_eq_true rfl⟩, fun _ _ z => False.elim z, ?_⟩
      rintro v9 h9 ⟨e9, rfl⟩
      obtain rfl : h = h9 := e9.symm
      conv => whnf
      refine ⟨fun c4 => ?_, fun c4 => ?_⟩
      · have c4 : (j_it h L1 2).toInt ≤ v2.toInt := c4
        have ev : v2.toNatClampNeg = (j_sz h x 1).toNatClampNeg := by rw [eR]; omega
        conv => whnf
        exact ⟨trivial, ⟨Nat.le_of_ble_eq_true rfl, Nat.le_of_ble_eq_true rfl⟩, rfl, by rw [ev]; try rfl⟩
      · have c4 : ¬ (j_it h L1 2).toInt ≤ v2.toInt := c4
        have hin : z_in h x 1 v2.toNatClampNeg := by unfold z_in; rw [eR]; omega
        have num := (I.1.2.2.1 _ hin).1
        have t14 : (v2 + Int32.ofInt 1).toInt = v2.toInt + 1 := j_inc1 (by omega)
        have cl2 := j_clamp (i := v2 + Int32.ofInt 1) (by omega)
        have ek : (v2 + Int32.ofInt 1).toNatClampNeg = v2.toNatClampNeg + 1 := by omega
        have nx := ih4 (v2 + Int32.ofInt 1) (by omega) (by omega) (by omega)
        rw [ek] at nx
        conv => whnf
        refine ⟨_, rfl, kx, fun o5 eo => ?_⟩
        obtain rfl : o5 = some L1 := eo.symm.trans e1
        conv => whnf
        refine ⟨l1.1, rfl, _, _, _, _, _, _, c_AL_get (h := h) l1 j_Sc.rf j_sf_ok (by omega) (by omega), ⟨Nat.le_of_ble_eq_true rfl, Nat.le_of_ble_eq_true rfl, Nat.le_of_ble_eq_true rfl, Nat.le_of_ble_eq_true rfl⟩, fun _ _ z => False.elim z, ?_⟩
        rintro v9 h9 ⟨e9, g6, rfl, kg6, xg6⟩
        obtain rfl : h = h9 := e9.symm
        have hy := z_el_get e1 xg6
        conv => whnf
        refine ⟨Or.inr ⟨_, rfl, kg6⟩, ?_⟩
        have sk : z_pw (z_c h x) g a b v2.toNatClampNeg = false → z_fm (z_pw (z_c h x) g a b) (z_lr (z_c h x)) (v2.toNatClampNeg + 1) = z_fm (z_pw (z_c h x) g a b) (z_lr (z_c h x)) v2.toNatClampNeg := fun q => if_neg (by rw [q]; decide)
        conv => whnf
        refine ⟨_, rfl, kg6, fun x7 ex7 => ?_⟩
        have n7 : x7.toInt = (v2.toNatClampNeg : Int) := by rw [← ex7, ← hy]; exact num
        conv => whnf
        refine ⟨fun c10 => ?_, fun c10 => ?_⟩
        · have c10 : x7.toInt = b.toInt := c10
          rw [sk (by unfold z_pw; rw [decide_eq_false (fun q => q (n7.symm.trans c10)), Bool.false_and])] at nx
          exact j_use hF nx (And.intro rfl (And.intro rfl (And.intro rfl (And.intro rfl (And.intro rfl (And.intro rfl trivial))))))
        · have c10 : ¬ x7.toInt = b.toInt := c10
          have pb : z_pw (z_c h x) g a b v2.toNatClampNeg = z_says (z_c h x) g a v2.toNatClampNeg := by
            unfold z_pw
            rw [decide_eq_true (show ¬ (v2.toNatClampNeg : Int) = b.toInt by rw [← n7]; exact c10), Bool.true_and]
          conv => whnf
          refine ⟨kg6, rfl, _, _, _, _, _, _, c_Run_tellsOfx kg6, ⟨Nat.le_of_ble_eq_true rfl, Nat.le_of_ble_eq_true rfl, Nat.le_of_ble_eq_true rfl, Nat.le_of_ble_eq_true rfl⟩, fun _ _ z => False.elim z, ?_⟩
          rintro v9 h9 ⟨e9, rfl⟩
          obtain rfl : h = h9 := e9.symm
          have tl : z_tells h g6 e a = z_says (z_c h x) g a v2.toNatClampNeg := by rw [← hy, ← he]; exact z_tells_at I hin hg
          rw [tl]
          conv => whnf
          refine ⟨fun c13 => ?_, fun c13 => ?_⟩
          · have c13 : (z_b (z_says (z_c h x) g a v2.toNatClampNeg)).toInt = 0 := c13
            rw [sk (by rw [pb]; exact z_b0.mp c13)] at nx
            exact j_use hF nx (And.intro rfl (And.intro rfl (And.intro rfl (And.intro rfl (And.intro rfl (And.intro rfl trivial))))))
          · have c13 : ¬ (z_b (z_says (z_c h x) g a v2.toNatClampNeg)).toInt = 0 := c13
            conv => whnf
            refine ⟨_, rfl, kx, fun x15 ex15 => ?_⟩
            obtain rfl : x15 = j_it h x 6 := ex15.symm
            conv => whnf
            refine ⟨kg6, rfl, _, _, _, _, _, _, c_Run_lateInx kg6, ⟨Nat.le_of_ble_eq_true rfl, Nat.le_of_ble_eq_true rfl, Nat.le_of_ble_eq_true rfl, Nat.le_of_ble_eq_true rfl⟩, fun _ _ z => False.elim z, ?_⟩
            rintro v9 h9 ⟨e9, rfl⟩
            obtain rfl : h = h9 := e9.symm
            have er : (j_it h g6 9 + j_it h x 6) - j_it h g6 5 = z_lr (z_c h x) v2.toNatClampNeg := by rw [← hy]; exact z_lr_at I hin
            rw [er]
            conv => whnf
            refine ⟨⟨Nat.le_of_ble_eq_true rfl, Nat.le_of_ble_eq_true rfl, Nat.le_of_ble_eq_true rfl, Nat.le_of_ble_eq_true rfl⟩, ?_⟩
            rw [show z_fm (z_pw (z_c h x) g a b) (z_lr (z_c h x)) (v2.toNatClampNeg + 1) = z_mIn (z_fm (z_pw (z_c h x) g a b) (z_lr (z_c h x)) v2.toNatClampNeg) (z_lr (z_c h x) v2.toNatClampNeg) from if_pos (by rw [pb]; exact z_bn c13)] at nx
            exact j_use hF nx (And.intro rfl (And.intro rfl (And.intro rfl (And.intro rfl (And.intro rfl (And.intro rfl trivial))))))
  have cl0 : (Int32.ofInt 0).toNatClampNeg = 0 := by decide
  have st := L4 100 (Int32.ofInt 0) (by decide) (by have : (Int32.ofInt 0).toInt = 0 := (by decide); omega) (by have : (Int32.ofInt 0).toInt = 0 := (by decide); omega)
  rw [cl0] at st
  exact j_use hF st (And.intro rfl (And.intro rfl (And.intro rfl (And.intro rfl (And.intro rfl (And.intro rfl trivial))))))
set_option maxHeartbeats 4000000 in
set_option maxRecDepth 20000 in
theorem c_G_labelledx {h : j_H} {x e g : Nat} (hW : j_WF h x) (I : z_I h x) (hg : z_in h x 0 g) (he : z_el h x 0 g = e) : j_Ct 90 3 64 0 0 [j_r (some x), j_r (some e)] h (fun v h' => h' = h ∧ v = some (j_i (z_cnt (z_says (z_c h x) g (Int32.ofInt (-1))) (j_sz h x 1).toNatClampNeg))) j_no := by
  refine j_intro km_90 (Nat.le_of_ble_eq_true rfl) ?_
  intro J hJ hF
  obtain ⟨kx, hG, L0, L1, L2, e0, l0, e1, l1, e2, l2, ap, pn⟩ := id hW
  have b1 := l1.2.1; have d1 := l1.2.2.1
  have eR : j_sz h x 1 = j_it h L1 2 := j_sz_e e1
  have clR := j_clamp b1
  refine hJ [4] 400 _ _ _ _ _ _ ?_
  have L4 : ∀ (n : Nat) (v2 : Int32), 0 ≤ v2.toInt → v2.toInt ≤ (j_it h L1 2).toInt → (j_it h L1 2).toInt - v2.toInt < (n : Int) → J 4 [some (j_r (some x)), some (j_r (some e)), some (j_i (z_cnt (z_says (z_c h x) g (Int32.ofInt (-1))) v2.toNatClampNeg)), some (j_i v2), none] [] h 0 0 := by
    intro n
    induction n with
    | zero => intro v2 hn hm hz; omega
    | succ n ih4 =>
      intro v2 hn hm hz
      have cl := j_clamp hn
      refine hJ [4] 400 _ _ _ _ _ _ ?_
      conv => whnf
      refine ⟨_, rfl, kx, fun o3 eo => ?_⟩
      obtain rfl : o3 = some L1 := eo.symm.trans e1
      conv => whnf
      refine ⟨l1.1, rfl, _, _, _, _, _, _, c_AL_size (h := h) l1 j_Sc.rf j_sf_ok, ⟨Nat.le_of_ble_eq_true rfl, Nat.le_of_ble_eq_true rfl, Nat.le_of_ble_eq_true rfl, Nat.le_of_ble_eq_true rfl⟩, fun _ _ z => False.elim z, ?_⟩
      rintro v9 h9 ⟨e9, rfl⟩
      obtain rfl : h = h9 := e9.symm
      conv => whnf
      refine ⟨fun c4 => ?_, fun c4 => ?_⟩
      · have c4 : (j_it h L1 2).toInt ≤ v2.toInt := c4
        have ev : v2.toNatClampNeg = (j_sz h x 1).toNatClampNeg := by rw [eR]; omega
        conv => whnf
        exact ⟨trivial, ⟨Nat.le_of_ble_eq_true rfl, Nat.le_of_ble_eq_true rfl⟩, rfl, by rw [ev]; try rfl⟩
      · have c4 : ¬ (j_it h L1 2).toInt ≤ v2.toInt := c4
        have hin : z_in h x 1 v2.toNatClampNeg := by unfold z_in; rw [eR]; omega
        have num := (I.1.2.2.1 _ hin).1
        have t14 : (v2 + Int32.ofInt 1).toInt = v2.toInt + 1 := j_inc1 (by omega)
        have cl2 := j_clamp (i := v2 + Int32.ofInt 1) (by omega)
        have ek : (v2 + Int32.ofInt 1).toNatClampNeg = v2.toNatClampNeg + 1 := by omega
        have nx := ih4 (v2 + Int32.ofInt 1) (by omega) (by omega) (by omega)
        rw [ek] at nx
        conv => whnf
        refine ⟨_, rfl, kx, fun o5 eo => ?_⟩
        obtain rfl : o5 = some L1 := eo.symm.trans e1
        conv => whnf
        refine ⟨l1.1, rfl, _, _, _, _, _, _, c_AL_get (h := h) l1 j_Sc.rf j_sf_ok (by omega) (by omega), ⟨Nat.le_of_ble_eq_true rfl, Nat.le_of_ble_eq_true rfl, Nat.le_of_ble_eq_true rfl, Nat.le_of_ble_eq_true rfl⟩, fun _ _ z => False.elim z, ?_⟩
        rintro v9 h9 ⟨e9, g6, rfl, kg6, xg6⟩
        obtain rfl : h = h9 := e9.symm
        have hy := z_el_get e1 xg6
        conv => whnf
        refine ⟨Or.inr ⟨_, rfl, kg6⟩, ?_⟩
        have tl : z_tells h g6 e (Int32.ofInt (-1)) = z_says (z_c h x) g (Int32.ofInt (-1)) v2.toNatClampNeg := by rw [← hy, ← he]; exact z_tells_at I hin hg
        have t0 : ∀ q : Bool, z_says (z_c h x) g (Int32.ofInt (-1)) v2.toNatClampNeg = q → z_cnt (z_says (z_c h x) g (Int32.ofInt (-1))) (v2.toNatClampNeg + 1) = z_cnt (z_says (z_c h x) g (Int32.ofInt (-1))) v2.toNatClampNeg + z_b q := fun q hq => by
          show z_cnt (z_says (z_c h x) g (Int32.ofInt (-1))) v2.toNatClampNeg + (if z_says (z_c h x) g (Int32.ofInt (-1)) v2.toNatClampNeg = true then Int32.ofInt 1 else Int32.ofInt 0) = _
          rw [hq]
          rfl
        conv => whnf
        refine ⟨_, rfl, kg6, fun x7 ex7 => ?_⟩
        obtain rfl : x7 = j_it h g6 7 := ex7.symm
        conv => whnf
        refine ⟨fun c8 => ?_, fun c8 => ?_⟩
        · have c8 : (j_it h g6 7).toInt = 0 := c8
          conv => whnf
          refine ⟨rfl, _, _, _, _, _, _, c_oneIfx, ⟨Nat.le_of_ble_eq_true rfl, Nat.le_of_ble_eq_true rfl, Nat.le_of_ble_eq_true rfl, Nat.le_of_ble_eq_true rfl⟩, fun _ _ z => False.elim z, ?_⟩
          rintro v9 h9 ⟨e9, rfl⟩
          obtain rfl : h = h9 := e9.symm
          rw [t0 false (by rw [← tl]; unfold z_tells; rw [decide_eq_false (fun q => q c8), Bool.false_and])] at nx
          exact j_use hF nx (And.intro rfl (And.intro rfl (And.intro rfl (And.intro rfl trivial))))
        · have c8 : ¬ (j_it h g6 7).toInt = 0 := c8
          conv => whnf
          refine ⟨_, rfl, kg6, fun o11 eo => ?_⟩
          obtain rfl : o11 = j_rf h g6 6 := eo.symm
          conv => whnf
          refine ⟨fun c13 => ?_, fun c13 => ?_⟩
          · have c13 : j_rf h g6 6 = some e := c13
            conv => whnf
            refine ⟨rfl, _, _, _, _, _, _, c_oneIfx, ⟨Nat.le_of_ble_eq_true rfl, Nat.le_of_ble_eq_true rfl, Nat.le_of_ble_eq_true rfl, Nat.le_of_ble_eq_true rfl⟩, fun _ _ z => False.elim z, ?_⟩
            rintro v9 h9 ⟨e9, rfl⟩
            obtain rfl : h = h9 := e9.symm
            rw [t0 true (by rw [← tl]; unfold z_tells; rw [decide_eq_true c8, decide_eq_true c13]; rfl)] at nx
            exact j_use hF nx (And.intro rfl (And.intro rfl (And.intro rfl (And.intro rfl trivial))))
          · have c13 : ¬ j_rf h g6 6 = some e := c13
            conv => whnf
            refine ⟨rfl, _, _, _, _, _, _, c_oneIfx, ⟨Nat.le_of_ble_eq_true rfl, Nat.le_of_ble_eq_true rfl, Nat.le_of_ble_eq_true rfl, Nat.le_of_ble_eq_true rfl⟩, fun _ _ z => False.elim z, ?_⟩
            rintro v9 h9 ⟨e9, rfl⟩
            obtain rfl : h = h9 := e9.symm
            rw [t0 false (by rw [← tl]; unfold z_tells; rw [decide_eq_true c8, decide_eq_false c13]; rfl)] at nx
            exact j_use hF nx (And.intro rfl (And.intro rfl (And.intro rfl (And.intro rfl trivial))))
  have cl0 : (Int32.ofInt 0).toNatClampNeg = 0 := by decide
  have st := L4 100 (Int32.ofInt 0) (by decide) (by have : (Int32.ofInt 0).toInt = 0 := (by decide); omega) (by have : (Int32.ofInt 0).toInt = 0 := (by decide); omega)
  rw [cl0] at st
  exact j_use hF st (And.intro rfl (And.intro rfl (And.intro rfl (And.intro rfl trivial))))
set_option maxHeartbeats 4000000 in
set_option maxRecDepth 20000 in
theorem c_G_grainFactx {h : j_H} {x e g : Nat} {a : Int32} (hW : j_WF h x) (I : z_I h x) (hg : z_in h x 0 g) (he : z_el h x 0 g = e) (ha : 0 ≤ a.toInt ∧ a.toInt ≤ 9) : j_Ct 102 4 88 0 0 [j_r (some x), j_r (some e), j_i a] h (fun v h' => h' = h ∧ v = some (j_i (z_gq (z_c h x) g a.toNatClampNeg))) j_no := by
  refine j_intro km_102 (Nat.le_of_ble_eq_true rfl) ?_
  intro J hJ hF
  have kx := hW.1
  have ke : j_kd h e = some (.inl 4) := by rw [← he]; exact z_k0 hW hg
  obtain ⟨r0, k0⟩ := z_km hW hg (show 0 < 2 by decide)
  obtain ⟨r1, k1⟩ := z_km hW hg (show 1 < 2 by decide)
  rw [he] at r0 k0 r1 k1
  refine hJ [] 400 _ _ _ _ _ _ ?_
  conv => whnf
  refine ⟨And.intro (fun c1 => ?_) (And.intro (fun c1 => ?_) (And.intro (fun c1 => ?_) (And.intro (fun c1 => ?_) (And.intro (fun c1 => ?_) (And.intro (fun c1 => ?_) (And.intro (fun c1 => ?_) (And.intro (fun c1 => ?_) (And.intro (fun c1 => ?_) (trivial))))))))), fun c1 => ?_⟩
  · have c1 : a.toInt = 0 := c1
    have ek : a.toNatClampNeg = 0 := by have := j_clamp (i := a) (by omega); omega
    conv => whnf
    refine ⟨_, rfl, ke, fun o2 eo => ?_⟩
    obtain rfl : o2 = some (z_mo h e 0) := eo.symm.trans r0
    conv => whnf
    refine ⟨_, rfl, k0, fun x4 ex4 => ?_⟩
    obtain rfl : x4 = j_it h (z_mo h e 0) 1 := ex4.symm
    conv => whnf
    refine ⟨trivial, ⟨Nat.le_of_ble_eq_true rfl, Nat.le_of_ble_eq_true rfl⟩, rfl, congrArg (fun r => some (j_i r)) ?_⟩
    rw [ek, ← he]
    rfl
  · have c1 : a.toInt = 1 := c1
    have ek : a.toNatClampNeg = 1 := by have := j_clamp (i := a) (by omega); omega
    conv => whnf
    refine ⟨_, rfl, ke, fun o2 eo => ?_⟩
    obtain rfl : o2 = some (z_mo h e 0) := eo.symm.trans r0
    conv => whnf
    refine ⟨_, rfl, k0, fun x4 ex4 => ?_⟩
    obtain rfl : x4 = j_it h (z_mo h e 0) 2 := ex4.symm
    conv => whnf
    refine ⟨trivial, ⟨Nat.le_of_ble_eq_true rfl, Nat.le_of_ble_eq_true rfl⟩, rfl, congrArg (fun r => some (j_i r)) ?_⟩
    rw [ek, ← he]
    rfl
  · have c1 : a.toInt = 2 := c1
    have ek : a.toNatClampNeg = 2 := by have := j_clamp (i := a) (by omega); omega
    conv => whnf
    refine ⟨_, rfl, ke, fun o2 eo => ?_⟩
    obtain rfl : o2 = some (z_mo h e 0) := eo.symm.trans r0
    conv => whnf
    refine ⟨_, rfl, k0, fun x4 ex4 => ?_⟩
    obtain rfl : x4 = j_it h (z_mo h e 0) 3 := ex4.symm
    conv => whnf
    refine ⟨trivial, ⟨Nat.le_of_ble_eq_true rfl, Nat.le_of_ble_eq_true rfl⟩, rfl, congrArg (fun r => some (j_i r)) ?_⟩
    rw [ek, ← he]
    rfl
  · have c1 : a.toInt = 3 := c1
    have ek : a.toNatClampNeg = 3 := by have := j_clamp (i := a) (by omega); omega
    conv => whnf
    refine ⟨_, rfl, ke, fun o2 eo => ?_⟩
    obtain rfl : o2 = some (z_mo h e 1) := eo.symm.trans r1
    conv => whnf
    refine ⟨_, rfl, k1, fun x4 ex4 => ?_⟩
    obtain rfl : x4 = j_it h (z_mo h e 1) 1 := ex4.symm
    conv => whnf
    refine ⟨trivial, ⟨Nat.le_of_ble_eq_true rfl, Nat.le_of_ble_eq_true rfl⟩, rfl, congrArg (fun r => some (j_i r)) ?_⟩
    rw [ek, ← he]
    rfl
  · have c1 : a.toInt = 4 := c1
    have ek : a.toNatClampNeg = 4 := by have := j_clamp (i := a) (by omega); omega
    conv => whnf
    refine ⟨_, rfl, ke, fun o2 eo => ?_⟩
    obtain rfl : o2 = some (z_mo h e 1) := eo.symm.trans r1
    conv => whnf
    refine ⟨_, rfl, k1, fun x4 ex4 => ?_⟩
    obtain rfl : x4 = j_it h (z_mo h e 1) 2 := ex4.symm
    conv => whnf
    refine ⟨trivial, ⟨Nat.le_of_ble_eq_true rfl, Nat.le_of_ble_eq_true rfl⟩, rfl, congrArg (fun r => some (j_i r)) ?_⟩
    rw [ek, ← he]
    rfl
  · have c1 : a.toInt = 5 := c1
    have ek : a.toNatClampNeg = 5 := by have := j_clamp (i := a) (by omega); omega
    conv => whnf
    refine ⟨_, rfl, ke, fun o2 eo => ?_⟩
    obtain rfl : o2 = some (z_mo h e 1) := eo.symm.trans r1
    conv => whnf
    refine ⟨_, rfl, k1, fun x4 ex4 => ?_⟩
    obtain rfl : x4 = j_it h (z_mo h e 1) 3 := ex4.symm
    conv => whnf
    refine ⟨trivial, ⟨Nat.le_of_ble_eq_true rfl, Nat.le_of_ble_eq_true rfl⟩, rfl, congrArg (fun r => some (j_i r)) ?_⟩
    rw [ek, ← he]
    rfl
  · have c1 : a.toInt = 6 := c1
    have ek : a.toNatClampNeg = 6 := by have := j_clamp (i := a) (by omega); omega
    conv => whnf
    refine ⟨_, rfl, kx, fun x20 ex20 => ?_⟩
    obtain rfl : x20 = j_it h x 6 := ex20.symm
    conv => whnf
    refine ⟨_, rfl, ke, fun x21 ex21 => ?_⟩
    obtain rfl : x21 = j_it h e 4 := ex21.symm
    conv => whnf
    refine ⟨trivial, ⟨Nat.le_of_ble_eq_true rfl, Nat.le_of_ble_eq_true rfl⟩, rfl, congrArg (fun r => some (j_i r)) ?_⟩
    rw [ek, ← he]
    rfl
  · have c1 : a.toInt = 7 := c1
    have ek : a.toNatClampNeg = 7 := by have := j_clamp (i := a) (by omega); omega
    conv => whnf
    refine ⟨_, rfl, ke, fun x22 ex22 => ?_⟩
    obtain rfl : x22 = j_it h e 3 := ex22.symm
    conv => whnf
    refine ⟨trivial, ⟨Nat.le_of_ble_eq_true rfl, Nat.le_of_ble_eq_true rfl⟩, rfl, congrArg (fun r => some (j_i r)) ?_⟩
    rw [ek, ← he]
    rfl
  · have c1 : a.toInt = 8 := c1
    have ek : a.toNatClampNeg = 8 := by have := j_clamp (i := a) (by omega); omega
    conv => whnf
    refine ⟨_, rfl, ke, fun x23 ex23 => ?_⟩
    obtain rfl : x23 = j_it h e 5 := ex23.symm
    conv => whnf
    refine ⟨rfl, _, _, _, _, _, _, c_oneIfx, ⟨Nat.le_of_ble_eq_true rfl, Nat.le_of_ble_eq_true rfl, Nat.le_of_ble_eq_true rfl, Nat.le_of_ble_eq_true rfl⟩, fun _ _ z => False.elim z, ?_⟩
    rintro v9 h9 ⟨e9, rfl⟩
    obtain rfl : h = h9 := e9.symm
    conv => whnf
    refine ⟨trivial, ⟨Nat.le_of_ble_eq_true rfl, Nat.le_of_ble_eq_true rfl⟩, rfl, congrArg (fun r => some (j_i r)) ?_⟩
    show (if (j_it h e 5).toInt = 0 then Int32.ofInt 0 else Int32.ofInt 1) = _
    rw [z_bif, ek, ← he]
    rfl
  · have c1 : a.toInt < 0 ∨ 8 < a.toInt := c1
    have ek : a.toNatClampNeg = 9 := by have := j_clamp (i := a) (by omega); omega
    conv => whnf
    refine ⟨kx, rfl, _, _, _, _, _, _, c_G_labelledx hW I hg he, ⟨Nat.le_of_ble_eq_true rfl, Nat.le_of_ble_eq_true rfl, Nat.le_of_ble_eq_true rfl, Nat.le_of_ble_eq_true rfl⟩, fun _ _ z => False.elim z, ?_⟩
    rintro v9 h9 ⟨e9, rfl⟩
    obtain rfl : h = h9 := e9.symm
    conv => whnf
    refine ⟨trivial, ⟨Nat.le_of_ble_eq_true rfl, Nat.le_of_ble_eq_true rfl⟩, rfl, congrArg (fun r => some (j_i r)) ?_⟩
    rw [ek]
    rfl
set_option maxHeartbeats 4000000 in
set_option maxRecDepth 20000 in
theorem c_G_runFactx {h : j_H} {x e k : Nat} {a : Int32} (hW : j_WF h x) (I : z_I h x) (hk : z_in h x 1 k) (he : z_el h x 1 k = e) (ha : 0 ≤ a.toInt ∧ a.toInt ≤ 7) : j_Ct 134 1 21 0 0 [j_r (some x), j_r (some e), j_i a] h (fun v h' => h' = h ∧ v = some (j_i (z_rq (z_c h x) k a.toNatClampNeg))) j_no := by
  refine j_intro km_134 (Nat.le_of_ble_eq_true rfl) ?_
  intro J hJ hF
  have kx := hW.1
  have ke : j_kd h e = some (.inl 7) := by rw [← he]; exact z_k1 hW hk
  obtain ⟨-, g', hg', r6⟩ := I.1.2.2.1 k hk
  have kg := z_k0 hW hg'
  have r6' := r6
  rw [he] at r6
  refine hJ [] 400 _ _ _ _ _ _ ?_
  conv => whnf
  refine ⟨And.intro (fun c1 => ?_) (And.intro (fun c1 => ?_) (And.intro (fun c1 => ?_) (And.intro (fun c1 => ?_) (And.intro (fun c1 => ?_) (And.intro (fun c1 => ?_) (And.intro (fun c1 => ?_) (trivial))))))), fun c1 => ?_⟩
  · have c1 : a.toInt = 0 := c1
    have ek : a.toNatClampNeg = 0 := by have := j_clamp (i := a) (by omega); omega
    conv => whnf
    refine ⟨_, rfl, ke, fun o2 eo => ?_⟩
    obtain rfl : o2 = some (z_el h x 0 g') := eo.symm.trans r6
    conv => whnf
    refine ⟨_, rfl, kg, fun x4 ex4 => ?_⟩
    obtain rfl : x4 = j_it h (z_el h x 0 g') 0 := ex4.symm
    conv => whnf
    refine ⟨trivial, ⟨Nat.le_of_ble_eq_true rfl, Nat.le_of_ble_eq_true rfl⟩, rfl, congrArg (fun r => some (j_i r)) ?_⟩
    rw [ek]
    show _ = j_it h ((j_rf h (z_el h x 1 k) 6).getD 0) 0
    rw [r6', Option.getD_some]
  · have c1 : a.toInt = 1 := c1
    have ek : a.toNatClampNeg = 1 := by have := j_clamp (i := a) (by omega); omega
    conv => whnf
    refine ⟨_, rfl, ke, fun x5 ex5 => ?_⟩
    obtain rfl : x5 = j_it h e 1 := ex5.symm
    conv => whnf
    refine ⟨trivial, ⟨Nat.le_of_ble_eq_true rfl, Nat.le_of_ble_eq_true rfl⟩, rfl, congrArg (fun r => some (j_i r)) ?_⟩
    rw [ek, ← he]
    rfl
  · have c1 : a.toInt = 2 := c1
    have ek : a.toNatClampNeg = 2 := by have := j_clamp (i := a) (by omega); omega
    conv => whnf
    refine ⟨_, rfl, ke, fun x5 ex5 => ?_⟩
    obtain rfl : x5 = j_it h e 2 := ex5.symm
    conv => whnf
    refine ⟨trivial, ⟨Nat.le_of_ble_eq_true rfl, Nat.le_of_ble_eq_true rfl⟩, rfl, congrArg (fun r => some (j_i r)) ?_⟩
    rw [ek, ← he]
    rfl
  · have c1 : a.toInt = 3 := c1
    have ek : a.toNatClampNeg = 3 := by have := j_clamp (i := a) (by omega); omega
    conv => whnf
    refine ⟨_, rfl, ke, fun x5 ex5 => ?_⟩
    obtain rfl : x5 = j_it h e 3 := ex5.symm
    conv => whnf
    refine ⟨trivial, ⟨Nat.le_of_ble_eq_true rfl, Nat.le_of_ble_eq_true rfl⟩, rfl, congrArg (fun r => some (j_i r)) ?_⟩
    rw [ek, ← he]
    rfl
  · have c1 : a.toInt = 4 := c1
    have ek : a.toNatClampNeg = 4 := by have := j_clamp (i := a) (by omega); omega
    conv => whnf
    refine ⟨_, rfl, ke, fun x5 ex5 => ?_⟩
    obtain rfl : x5 = j_it h e 4 := ex5.symm
    conv => whnf
    refine ⟨trivial, ⟨Nat.le_of_ble_eq_true rfl, Nat.le_of_ble_eq_true rfl⟩, rfl, congrArg (fun r => some (j_i r)) ?_⟩
    rw [ek, ← he]
    rfl
  · have c1 : a.toInt = 5 := c1
    have ek : a.toNatClampNeg = 5 := by have := j_clamp (i := a) (by omega); omega
    conv => whnf
    refine ⟨_, rfl, kx, fun x9 ex9 => ?_⟩
    obtain rfl : x9 = j_it h x 6 := ex9.symm
    conv => whnf
    refine ⟨ke, rfl, _, _, _, _, _, _, c_Run_earlyInx ke, ⟨Nat.le_of_ble_eq_true rfl, Nat.le_of_ble_eq_true rfl, Nat.le_of_ble_eq_true rfl, Nat.le_of_ble_eq_true rfl⟩, fun _ _ z => False.elim z, ?_⟩
    rintro v9 h9 ⟨e9, rfl⟩
    obtain rfl : h = h9 := e9.symm
    conv => whnf
    refine ⟨trivial, ⟨Nat.le_of_ble_eq_true rfl, Nat.le_of_ble_eq_true rfl⟩, rfl, congrArg (fun r => some (j_i r)) ?_⟩
    rw [ek, ← he, z_er_at I hk]
    rfl
  · have c1 : a.toInt = 6 := c1
    have ek : a.toNatClampNeg = 6 := by have := j_clamp (i := a) (by omega); omega
    conv => whnf
    refine ⟨_, rfl, kx, fun x9 ex9 => ?_⟩
    obtain rfl : x9 = j_it h x 6 := ex9.symm
    conv => whnf
    refine ⟨ke, rfl, _, _, _, _, _, _, c_Run_lateInx ke, ⟨Nat.le_of_ble_eq_true rfl, Nat.le_of_ble_eq_true rfl, Nat.le_of_ble_eq_true rfl, Nat.le_of_ble_eq_true rfl⟩, fun _ _ z => False.elim z, ?_⟩
    rintro v9 h9 ⟨e9, rfl⟩
    obtain rfl : h = h9 := e9.symm
    conv => whnf
    refine ⟨trivial, ⟨Nat.le_of_ble_eq_true rfl, Nat.le_of_ble_eq_true rfl⟩, rfl, congrArg (fun r => some (j_i r)) ?_⟩
    rw [ek, ← he, z_lr_at I hk]
    rfl
  · have c1 : a.toInt < 0 ∨ 6 < a.toInt := c1
    have ek : a.toNatClampNeg = 7 := by have := j_clamp (i := a) (by omega); omega
    conv => whnf
    refine ⟨_, rfl, ke, fun x13 ex13 => ?_⟩
    obtain rfl : x13 = j_it h e 7 := ex13.symm
    conv => whnf
    refine ⟨rfl, _, _, _, _, _, _, c_oneIfx, ⟨Nat.le_of_ble_eq_true rfl, Nat.le_of_ble_eq_true rfl, Nat.le_of_ble_eq_true rfl, Nat.le_of_ble_eq_true rfl⟩, fun _ _ z => False.elim z, ?_⟩
    rintro v9 h9 ⟨e9, rfl⟩
    obtain rfl : h = h9 := e9.symm
    conv => whnf
    refine ⟨trivial, ⟨Nat.le_of_ble_eq_true rfl, Nat.le_of_ble_eq_true rfl⟩, rfl, congrArg (fun r => some (j_i r)) ?_⟩
    show (if (j_it h e 7).toInt = 0 then Int32.ofInt 0 else Int32.ofInt 1) = _
    rw [z_bif, ek, ← he]
    rfl
