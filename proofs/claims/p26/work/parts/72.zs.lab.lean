/-! lab: word for word -/
def z_qr (z : j_Z) (g : Nat) : Bool := decide ((z_gL z g).toInt < (z_gE z g).toInt)
def z_sI (f : Nat → Int32) : Nat → Int32
  | 0 => Int32.ofInt 0
  | n + 1 => z_sI f n + f n
theorem z_sI_c {f g : Nat → Int32} : ∀ n, (∀ k, k < n → f k = g k) → z_sI f n = z_sI g n := by
  intro n
  induction n with
  | zero => intro _; rfl
  | succ n ih =>
    intro h
    show z_sI f n + f n = z_sI g n + g n
    rw [ih (fun k hk => h k (by omega)), h n (by omega)]
def z_br (z : j_Z) (k : Nat) : Int32 := z.2.1 k 0 3 + z.2.1 k 1 3
noncomputable def z_lq (z : j_Z) (w : Nat) : Int32 := if w = 0 then z.1 6 else if w = 1 then z.1 0 else if w = 2 then z_cnt (z_dst z) (z.1 1).toNatClampNeg else if w = 3 then z_cnt (z_st z) (z.1 2).toNatClampNeg else if w = 4 then z.1 5 else if w = 5 then Int32.ofInt (z_dbn z : Int) else if w = 6 then z_cnt (z_qr z) (z.1 0).toNatClampNeg else if w = 7 then z_bc (z_fw z) else if w = 8 then z.1 3 else if w = 9 then z.1 4 else z_sI (z_br z) (z.1 0).toNatClampNeg
theorem z_lq_c {A B : j_Z} (e : z_eq A B) (h0 : 0 ≤ (A.1 0).toInt) (h1 : 0 ≤ (A.1 1).toInt) (h2 : 0 ≤ (A.1 2).toInt) (hst : z_cnt (z_st A) (A.1 2).toNatClampNeg = z_cnt (z_st B) (B.1 2).toNatClampNeg) {w : Nat} : z_lq A w = z_lq B w := by
  have a2 : z_cnt (z_dst A) (A.1 1).toNatClampNeg = z_cnt (z_dst B) (B.1 1).toNatClampNeg := by
    rw [← e.1 1 (by decide)]
    exact z_cnt_c _ (fun k hk => by unfold z_dst; rw [e.2.2.2.1 k 6 (z_ltn h1 hk) (by decide)])
  have a6 : z_cnt (z_qr A) (A.1 0).toNatClampNeg = z_cnt (z_qr B) (B.1 0).toNatClampNeg := by
    rw [← e.1 0 (by decide)]
    exact z_cnt_c _ (fun k _ => by unfold z_qr z_gL z_gE; rw [z_lO_c e h1, z_eO_c e h1])
  have a10 : z_sI (z_br A) (A.1 0).toNatClampNeg = z_sI (z_br B) (B.1 0).toNatClampNeg := by
    rw [← e.1 0 (by decide)]
    exact z_sI_c _ (fun k hk => by unfold z_br; rw [e.2.1 k 0 3 (z_ltn h0 hk) (by decide) (by decide), e.2.1 k 1 3 (z_ltn h0 hk) (by decide) (by decide)])
  unfold z_lq
  rw [e.1 6 (by decide), hst, a2, a6, a10, e.1 5 (by decide), e.1 3 (by decide), e.1 4 (by decide), z_dbn_c e h1, z_fw_c e h0 h1]
  by_cases q : w = 1
  · subst q
    rw [if_neg (by decide), if_pos rfl, if_neg (by decide), if_pos rfl]
    exact e.1 0 (by decide)
  · rw [if_neg q, if_neg q]
section LQ
variable {z : j_Z}
theorem z_lq0 : z_lq z 0 = z.1 6 := rfl
theorem z_lq1 : z_lq z 1 = z.1 0 := rfl
theorem z_lq2 : z_lq z 2 = z_cnt (z_dst z) (z.1 1).toNatClampNeg := rfl
theorem z_lq3 : z_lq z 3 = z_cnt (z_st z) (z.1 2).toNatClampNeg := rfl
theorem z_lq4 : z_lq z 4 = z.1 5 := rfl
theorem z_lq5 : z_lq z 5 = Int32.ofInt (z_dbn z : Int) := rfl
theorem z_lq6 : z_lq z 6 = z_cnt (z_qr z) (z.1 0).toNatClampNeg := rfl
theorem z_lq7 : z_lq z 7 = z_bc (z_fw z) := rfl
theorem z_lq8 : z_lq z 8 = z.1 3 := rfl
theorem z_lq9 : z_lq z 9 = z.1 4 := rfl
theorem z_lq10 : z_lq z 10 = z_sI (z_br z) (z.1 0).toNatClampNeg := rfl
end LQ
set_option maxHeartbeats 4000000 in
set_option maxRecDepth 20000 in
theorem c_G_countRunsx {h : j_H} {x : Nat} (hW : j_WF h x) (I : z_I h x) : j_Ct 91 3 64 0 0 [j_r (some x)] h (fun v h' => h' = h ∧ v = some (j_i (z_cnt (z_dst (z_c h x)) (j_sz h x 1).toNatClampNeg))) j_no := by
  refine j_intro km_91 (Nat.le_of_ble_eq_true rfl) ?_
  intro J hJ hF
  obtain ⟨kx, hG, L0, L1, L2, e0, l0, e1, l1, e2, l2, ap, pn⟩ := id hW
  have bn := l1.2.1; have dn := l1.2.2.1
  have eR : j_sz h x 1 = j_it h L1 2 := j_sz_e e1
  have clR := j_clamp bn
  refine hJ [4] 400 _ _ _ _ _ _ ?_
  have L4 : ∀ (n : Nat) (v2 : Int32), 0 ≤ v2.toInt → v2.toInt ≤ (j_it h L1 2).toInt → (j_it h L1 2).toInt - v2.toInt < (n : Int) → J 4 [some (j_r (some x)), some (j_i (z_cnt (z_dst (z_c h x)) v2.toNatClampNeg)), some (j_i v2)] [] h 0 0 := by
    intro n
    induction n with
    | zero => intro v2 hn hm hz; omega
    | succ n ih4 =>
      intro v2 hn hm hz
      have cl := j_clamp hn
      refine hJ [4] 400 _ _ _ _ _ _ ?_
      conv => whnf
      refine ⟨_, rfl, kx, fun o3 eo => ?_⟩
      obtain rfl : o3 = some L1 := eo.symm.trans e1
      conv => whnf
      refine ⟨l1.1, rfl, _, _, _, _, _, _, c_AL_size (h := h) l1 j_Sc.rf j_sf_ok, ⟨Nat.le_of_ble_eq_true rfl, Nat.le_of_ble_eq_true rfl, Nat.le_of_ble_eq_true rfl, Nat.le_of_ble_eq_true rfl⟩, fun _ _ z => False.elim z, ?_⟩
      rintro v9 h9 ⟨e9, rfl⟩
      obtain rfl : h = h9 := e9.symm
      conv => whnf
      refine ⟨fun c4 => ?_, fun c4 => ?_⟩
      · have c4 : (j_it h L1 2).toInt ≤ v2.toInt := c4
        have ev : v2.toNatClampNeg = (j_sz h x 1).toNatClampNeg := by rw [eR]; omega
        conv => whnf
        exact ⟨trivial, ⟨Nat.le_of_ble_eq_true rfl, Nat.le_of_ble_eq_true rfl⟩, rfl, by rw [ev]⟩
      · have c4 : ¬ (j_it h L1 2).toInt ≤ v2.toInt := c4
        have hin : z_in h x 1 v2.toNatClampNeg := by unfold z_in; rw [eR]; omega
        have t10 : (v2 + Int32.ofInt 1).toInt = v2.toInt + 1 := j_inc1 (by omega)
        have cl2 := j_clamp (i := v2 + Int32.ofInt 1) (by omega)
        have ek : (v2 + Int32.ofInt 1).toNatClampNeg = v2.toNatClampNeg + 1 := by omega
        have nx := ih4 (v2 + Int32.ofInt 1) (by omega) (by omega) (by omega)
        rw [ek] at nx
        conv => whnf
        refine ⟨_, rfl, kx, fun o5 eo => ?_⟩
        obtain rfl : o5 = some L1 := eo.symm.trans e1
        conv => whnf
        refine ⟨l1.1, rfl, _, _, _, _, _, _, c_AL_get (h := h) l1 j_Sc.rf j_sf_ok (by omega) (by omega), ⟨Nat.le_of_ble_eq_true rfl, Nat.le_of_ble_eq_true rfl, Nat.le_of_ble_eq_true rfl, Nat.le_of_ble_eq_true rfl⟩, fun _ _ z => False.elim z, ?_⟩
        rintro v9 h9 ⟨e9, g6, rfl, kg6, xg6⟩
        obtain rfl : h = h9 := e9.symm
        have yg6 := z_el_get e1 xg6
        conv => whnf
        refine ⟨Or.inr ⟨_, rfl, kg6⟩, ?_⟩
        conv => whnf
        refine ⟨_, rfl, kg6, fun x7 ex7 => ?_⟩
        obtain rfl : x7 = (z_c h x).2.2.2.1 v2.toNatClampNeg 6 := by rw [← ex7, ← yg6]; rfl
        conv => whnf
        refine ⟨rfl, _, _, _, _, _, _, c_oneIfx, ⟨Nat.le_of_ble_eq_true rfl, Nat.le_of_ble_eq_true rfl, Nat.le_of_ble_eq_true rfl, Nat.le_of_ble_eq_true rfl⟩, fun _ _ z => False.elim z, ?_⟩
        rintro v9 h9 ⟨e9, rfl⟩
        obtain rfl : h = h9 := e9.symm
        rw [z_bif]
        exact j_use hF nx (And.intro rfl (And.intro rfl (And.intro rfl trivial)))
  have cl0 : (Int32.ofInt 0).toNatClampNeg = 0 := by decide
  have st := L4 100 (Int32.ofInt 0) (by decide) (by have : (Int32.ofInt 0).toInt = 0 := (by decide); omega) (by have : (Int32.ofInt 0).toInt = 0 := (by decide); omega)
  rw [cl0] at st
  exact j_use hF st (And.intro rfl (And.intro rfl (And.intro rfl trivial)))
set_option maxHeartbeats 4000000 in
set_option maxRecDepth 20000 in
theorem c_G_countMotesx {h : j_H} {x : Nat} (hW : j_WF h x) (I : z_I h x) : j_Ct 86 3 64 0 0 [j_r (some x)] h (fun v h' => h' = h ∧ v = some (j_i (z_sI (z_br (z_c h x)) (j_sz h x 0).toNatClampNeg))) j_no := by
  refine j_intro km_86 (Nat.le_of_ble_eq_true rfl) ?_
  intro J hJ hF
  obtain ⟨kx, hG, L0, L1, L2, e0, l0, e1, l1, e2, l2, ap, pn⟩ := id hW
  have bn := l0.2.1; have dn := l0.2.2.1
  have eR : j_sz h x 0 = j_it h L0 2 := j_sz_e e0
  have clR := j_clamp bn
  refine hJ [4] 400 _ _ _ _ _ _ ?_
  have L4 : ∀ (n : Nat) (v2 : Int32), 0 ≤ v2.toInt → v2.toInt ≤ (j_it h L0 2).toInt → (j_it h L0 2).toInt - v2.toInt < (n : Int) → J 4 [some (j_r (some x)), some (j_i (z_sI (z_br (z_c h x)) v2.toNatClampNeg)), some (j_i v2), none] [] h 0 0 := by
    intro n
    induction n with
    | zero => intro v2 hn hm hz; omega
    | succ n ih4 =>
      intro v2 hn hm hz
      have cl := j_clamp hn
      refine hJ [4] 400 _ _ _ _ _ _ ?_
      conv => whnf
      refine ⟨_, rfl, kx, fun o3 eo => ?_⟩
      obtain rfl : o3 = some L0 := eo.symm.trans e0
      conv => whnf
      refine ⟨l0.1, rfl, _, _, _, _, _, _, c_AL_size (h := h) l0 j_Sc.rf j_sf_ok, ⟨Nat.le_of_ble_eq_true rfl, Nat.le_of_ble_eq_true rfl, Nat.le_of_ble_eq_true rfl, Nat.le_of_ble_eq_true rfl⟩, fun _ _ z => False.elim z, ?_⟩
      rintro v9 h9 ⟨e9, rfl⟩
      obtain rfl : h = h9 := e9.symm
      conv => whnf
      refine ⟨fun c4 => ?_, fun c4 => ?_⟩
      · have c4 : (j_it h L0 2).toInt ≤ v2.toInt := c4
        have ev : v2.toNatClampNeg = (j_sz h x 0).toNatClampNeg := by rw [eR]; omega
        conv => whnf
        exact ⟨trivial, ⟨Nat.le_of_ble_eq_true rfl, Nat.le_of_ble_eq_true rfl⟩, rfl, by rw [ev]⟩
      · have c4 : ¬ (j_it h L0 2).toInt ≤ v2.toInt := c4
        have hin : z_in h x 0 v2.toNatClampNeg := by unfold z_in; rw [eR]; omega
        have t10 : (v2 + Int32.ofInt 1).toInt = v2.toInt + 1 := j_inc1 (by omega)
        have cl2 := j_clamp (i := v2 + Int32.ofInt 1) (by omega)
        have ek : (v2 + Int32.ofInt 1).toNatClampNeg = v2.toNatClampNeg + 1 := by omega
        have nx := ih4 (v2 + Int32.ofInt 1) (by omega) (by omega) (by omega)
        rw [ek] at nx
        conv => whnf
        refine ⟨_, rfl, kx, fun o5 eo => ?_⟩
        obtain rfl : o5 = some L0 := eo.symm.trans e0
        conv => whnf
        refine ⟨l0.1, rfl, _, _, _, _, _, _, c_AL_get (h := h) l0 j_Sc.rf j_sf_ok (by omega) (by omega), ⟨Nat.le_of_ble_eq_true rfl, Nat.le_of_ble_eq_true rfl, Nat.le_of_ble_eq_true rfl, Nat.le_of_ble_eq_true rfl⟩, fun _ _ z => False.elim z, ?_⟩
        rintro v9 h9 ⟨e9, g6, rfl, kg6, xg6⟩
        obtain rfl : h = h9 := e9.symm
        have yg6 := z_el_get e0 xg6
        conv => whnf
        refine ⟨Or.inr ⟨_, rfl, kg6⟩, ?_⟩
        conv => whnf
        refine ⟨_, rfl, kg6, fun o7 eo => ?_⟩
        obtain ⟨b8, eb8, kb8⟩ := hG.1 _ kg6
        obtain rfl : o7 = some b8 := eo.symm.trans eb8
        conv => whnf
        refine ⟨_, rfl, kb8, fun x9 ex9 => ?_⟩
        obtain rfl : x9 = (z_c h x).2.1 v2.toNatClampNeg 0 3 := by
          rw [← ex9]
          show _ = j_it h (z_mo h (z_el h x 0 v2.toNatClampNeg) 0) 0
          rw [yg6, z_mo_of (i := 0) eb8]
        conv => whnf
        refine ⟨_, rfl, kg6, fun o10 eo => ?_⟩
        obtain ⟨b11, eb11, kb11⟩ := hG.2.1 _ kg6
        obtain rfl : o10 = some b11 := eo.symm.trans eb11
        conv => whnf
        refine ⟨_, rfl, kb11, fun x12 ex12 => ?_⟩
        obtain rfl : x12 = (z_c h x).2.1 v2.toNatClampNeg 1 3 := by
          rw [← ex12]
          show _ = j_it h (z_mo h (z_el h x 0 v2.toNatClampNeg) 1) 0
          rw [yg6, z_mo_of (i := 1) eb11]
        exact j_use hF nx (And.intro rfl (And.intro rfl (And.intro rfl trivial)))
  have cl0 : (Int32.ofInt 0).toNatClampNeg = 0 := by decide
  have st := L4 100 (Int32.ofInt 0) (by decide) (by have : (Int32.ofInt 0).toInt = 0 := (by decide); omega) (by have : (Int32.ofInt 0).toInt = 0 := (by decide); omega)
  rw [cl0] at st
  exact j_use hF st (And.intro rfl (And.intro rfl (And.intro rfl trivial)))
set_option maxHeartbeats 4000000 in
set_option maxRecDepth 20000 in
theorem c_G_countQuarrelsx {h : j_H} {x : Nat} (hW : j_WF h x) (I : z_I h x) : j_Ct 89 4 90 0 0 [j_r (some x)] h (fun v h' => h' = h ∧ v = some (j_i (z_cnt (z_qr (z_c h x)) (j_sz h x 0).toNatClampNeg))) j_no := by
  refine j_intro km_89 (Nat.le_of_ble_eq_true rfl) ?_
  intro J hJ hF
  obtain ⟨kx, hG, L0, L1, L2, e0, l0, e1, l1, e2, l2, ap, pn⟩ := id hW
  have bn := l0.2.1; have dn := l0.2.2.1
  have eR : j_sz h x 0 = j_it h L0 2 := j_sz_e e0
  have clR := j_clamp bn
  refine hJ [4] 400 _ _ _ _ _ _ ?_
  have L4 : ∀ (n : Nat) (v2 : Int32), 0 ≤ v2.toInt → v2.toInt ≤ (j_it h L0 2).toInt → (j_it h L0 2).toInt - v2.toInt < (n : Int) → J 4 [some (j_r (some x)), some (j_i (z_cnt (z_qr (z_c h x)) v2.toNatClampNeg)), some (j_i v2), none] [] h 0 0 := by
    intro n
    induction n with
    | zero => intro v2 hn hm hz; omega
    | succ n ih4 =>
      intro v2 hn hm hz
      have cl := j_clamp hn
      refine hJ [4] 400 _ _ _ _ _ _ ?_
      conv => whnf
      refine ⟨_, rfl, kx, fun o3 eo => ?_⟩
      obtain rfl : o3 = some L0 := eo.symm.trans e0
      conv => whnf
      refine ⟨l0.1, rfl, _, _, _, _, _, _, c_AL_size (h := h) l0 j_Sc.rf j_sf_ok, ⟨Nat.le_of_ble_eq_true rfl, Nat.le_of_ble_eq_true rfl, Nat.le_of_ble_eq_true rfl, Nat.le_of_ble_eq_true rfl⟩, fun _ _ z => False.elim z, ?_⟩
      rintro v9 h9 ⟨e9, rfl⟩
      obtain rfl : h = h9 := e9.symm
      conv => whnf
      refine ⟨fun c4 => ?_, fun c4 => ?_⟩
      · have c4 : (j_it h L0 2).toInt ≤ v2.toInt := c4
        have ev : v2.toNatClampNeg = (j_sz h x 0).toNatClampNeg := by rw [eR]; omega
        conv => whnf
        exact ⟨trivial, ⟨Nat.le_of_ble_eq_true rfl, Nat.le_of_ble_eq_true rfl⟩, rfl, by rw [ev]⟩
      · have c4 : ¬ (j_it h L0 2).toInt ≤ v2.toInt := c4
        have hin : z_in h x 0 v2.toNatClampNeg := by unfold z_in; rw [eR]; omega
        have t10 : (v2 + Int32.ofInt 1).toInt = v2.toInt + 1 := j_inc1 (by omega)
        have cl2 := j_clamp (i := v2 + Int32.ofInt 1) (by omega)
        have ek : (v2 + Int32.ofInt 1).toNatClampNeg = v2.toNatClampNeg + 1 := by omega
        have nx := ih4 (v2 + Int32.ofInt 1) (by omega) (by omega) (by omega)
        rw [ek] at nx
        conv => whnf
        refine ⟨_, rfl, kx, fun o5 eo => ?_⟩
        obtain rfl : o5 = some L0 := eo.symm.trans e0
        conv => whnf
        refine ⟨l0.1, rfl, _, _, _, _, _, _, c_AL_get (h := h) l0 j_Sc.rf j_sf_ok (by omega) (by omega), ⟨Nat.le_of_ble_eq_true rfl, Nat.le_of_ble_eq_true rfl, Nat.le_of_ble_eq_true rfl, Nat.le_of_ble_eq_true rfl⟩, fun _ _ z => False.elim z, ?_⟩
        rintro v9 h9 ⟨e9, g6, rfl, kg6, xg6⟩
        obtain rfl : h = h9 := e9.symm
        have yg6 := z_el_get e0 xg6
        conv => whnf
        refine ⟨Or.inr ⟨_, rfl, kg6⟩, ?_⟩
        conv => whnf
        refine ⟨kx, rfl, _, _, _, _, _, _, c_G_earlyOfx hW I hin yg6, ⟨Nat.le_of_ble_eq_true rfl, Nat.le_of_ble_eq_true rfl, Nat.le_of_ble_eq_true rfl, Nat.le_of_ble_eq_true rfl⟩, fun _ _ z => False.elim z, ?_⟩
        rintro v9 h9 ⟨e9, rfl⟩
        obtain rfl : h = h9 := e9.symm
        conv => whnf
        refine ⟨kx, rfl, _, _, _, _, _, _, c_G_lateOfx hW I hin yg6, ⟨Nat.le_of_ble_eq_true rfl, Nat.le_of_ble_eq_true rfl, Nat.le_of_ble_eq_true rfl, Nat.le_of_ble_eq_true rfl⟩, fun _ _ z => False.elim z, ?_⟩
        rintro v9 h9 ⟨e9, rfl⟩
        obtain rfl : h = h9 := e9.symm
        conv => whnf
        refine ⟨fun c13 => ?_, fun c13 => ?_⟩
        · have c13 : (z_gE (z_c h x) v2.toNatClampNeg).toInt ≤ (z_gL (z_c h x) v2.toNatClampNeg).toInt := c13
          conv => whnf
          refine ⟨rfl, _, _, _, _, _, _, c_oneIfx, ⟨Nat.le_of_ble_eq_true rfl, Nat.le_of_ble_eq_true rfl, Nat.le_of_ble_eq_true rfl, Nat.le_of_ble_eq_true rfl⟩, fun _ _ z => False.elim z, ?_⟩
          rintro v9 h9 ⟨e9, rfl⟩
          obtain rfl : h = h9 := e9.symm
          rw [show z_cnt (z_qr (z_c h x)) (v2.toNatClampNeg + 1) = z_cnt (z_qr (z_c h x)) v2.toNatClampNeg + (if (Int32.ofInt 0).toInt = 0 then Int32.ofInt 0 else Int32.ofInt 1) by
            show _ + (if decide _ = true then _ else _) = _
            rw [decide_eq_false (show ¬ (z_gL (z_c h x) v2.toNatClampNeg).toInt < (z_gE (z_c h x) v2.toNatClampNeg).toInt by omega)]
            rfl] at nx
          exact j_use hF nx (And.intro rfl (And.intro rfl (And.intro rfl trivial)))
        · have c13 : ¬ (z_gE (z_c h x) v2.toNatClampNeg).toInt ≤ (z_gL (z_c h x) v2.toNatClampNeg).toInt := c13
          conv => whnf
          refine ⟨rfl, _, _, _, _, _, _, c_oneIfx, ⟨Nat.le_of_ble_eq_true rfl, Nat.le_of_ble_eq_true rfl, Nat.le_of_ble_eq_true rfl, Nat.le_of_ble_eq_true rfl⟩, fun _ _ z => False.elim z, ?_⟩
          rintro v9 h9 ⟨e9, rfl⟩
          obtain rfl : h = h9 := e9.symm
          rw [show z_cnt (z_qr (z_c h x)) (v2.toNatClampNeg + 1) = z_cnt (z_qr (z_c h x)) v2.toNatClampNeg + (if (Int32.ofInt 1).toInt = 0 then Int32.ofInt 0 else Int32.ofInt 1) by
            show _ + (if decide _ = true then _ else _) = _
            rw [decide_eq_true (show (z_gL (z_c h x) v2.toNatClampNeg).toInt < (z_gE (z_c h x) v2.toNatClampNeg).toInt by omega)]
            rfl] at nx
          exact j_use hF nx (And.intro rfl (And.intro rfl (And.intro rfl trivial)))
  have cl0 : (Int32.ofInt 0).toNatClampNeg = 0 := by decide
  have st := L4 100 (Int32.ofInt 0) (by decide) (by have : (Int32.ofInt 0).toInt = 0 := (by decide); omega) (by have : (Int32.ofInt 0).toInt = 0 := (by decide); omega)
  rw [cl0] at st
  exact j_use hF st (And.intro rfl (And.intro rfl (And.intro rfl trivial)))
set_option maxHeartbeats 4000000 in
set_option maxRecDepth 20000 in
theorem c_G_labFactx {h : j_H} {x : Nat} {a : Int32} (hW : j_WF h x) (I : z_I h x) (ha : 0 ≤ a.toInt ∧ a.toInt ≤ 10) : j_Ct 111 6 135 0 0 [j_r (some x), j_i a] h (fun v h' => (∃ it', h' = j_wi h it' ∧ j_Sc j_sf h it') ∧ v = some (j_i (z_lq (z_c h x) a.toNatClampNeg))) j_no := by
  refine j_intro km_111 (Nat.le_of_ble_eq_true rfl) ?_
  intro J hJ hF
  obtain ⟨kx, hG, L0, L1, L2, e0, l0, e1, l1, e2, l2, ap, pn⟩ := id hW
  have eG : j_sz h x 0 = j_it h L0 2 := j_sz_e e0
  have ca := j_clamp ha.1
  refine hJ [] 400 _ _ _ _ _ _ ?_
  conv => whnf
  refine ⟨And.intro (fun c1 => ?_) (And.intro (fun c1 => ?_) (And.intro (fun c1 => ?_) (And.intro (fun c1 => ?_) (And.intro (fun c1 => ?_) (And.intro (fun c1 => ?_) (And.intro (fun c1 => ?_) (And.intro (fun c1 => ?_) (And.intro (fun c1 => ?_) (And.intro (fun c1 => ?_) (trivial)))))))))), fun c1 => ?_⟩
  · have c1 : a.toInt = 0 := c1
    conv => whnf
    refine ⟨_, rfl, kx, fun x2 ex2 => ?_⟩
    obtain rfl : x2 = (z_c h x).1 6 := ex2.symm
    conv => whnf
    exact ⟨trivial, ⟨Nat.le_of_ble_eq_true rfl, Nat.le_of_ble_eq_true rfl⟩, ⟨j_it h, rfl, j_Sc.rf⟩, congrArg (fun r => some (j_i r)) (by rw [show a.toNatClampNeg = 0 by omega, z_lq0])⟩
  · have c1 : a.toInt = 1 := c1
    conv => whnf
    refine ⟨_, rfl, kx, fun o3 eo => ?_⟩
    obtain rfl : o3 = some L0 := eo.symm.trans e0
    conv => whnf
    refine ⟨l0.1, rfl, _, _, _, _, _, _, c_AL_size (h := h) l0 j_Sc.rf j_sf_ok, ⟨Nat.le_of_ble_eq_true rfl, Nat.le_of_ble_eq_true rfl, Nat.le_of_ble_eq_true rfl, Nat.le_of_ble_eq_true rfl⟩, fun _ _ z => False.elim z, ?_⟩
    rintro v9 h9 ⟨e9, rfl⟩
    obtain rfl : h = h9 := e9.symm
    conv => whnf
    exact ⟨trivial, ⟨Nat.le_of_ble_eq_true rfl, Nat.le_of_ble_eq_true rfl⟩, ⟨j_it h, rfl, j_Sc.rf⟩, congrArg (fun r => some (j_i r)) (by rw [show a.toNatClampNeg = 1 by omega, z_lq1]; exact eG.symm)⟩
  · have c1 : a.toInt = 2 := c1
    conv => whnf
    refine ⟨kx, rfl, _, _, _, _, _, _, c_G_countRunsx hW I, ⟨Nat.le_of_ble_eq_true rfl, Nat.le_of_ble_eq_true rfl, Nat.le_of_ble_eq_true rfl, Nat.le_of_ble_eq_true rfl⟩, fun _ _ z => False.elim z, ?_⟩
    rintro v9 h9 ⟨e9, rfl⟩
    obtain rfl : h = h9 := e9.symm
    conv => whnf
    exact ⟨trivial, ⟨Nat.le_of_ble_eq_true rfl, Nat.le_of_ble_eq_true rfl⟩, ⟨j_it h, rfl, j_Sc.rf⟩, congrArg (fun r => some (j_i r)) (by rw [show a.toNatClampNeg = 2 by omega, z_lq2]; rfl)⟩
  · have c1 : a.toInt = 3 := c1
    conv => whnf
    refine ⟨kx, rfl, _, _, _, _, _, _, c_countPx hW I, ⟨Nat.le_of_ble_eq_true rfl, Nat.le_of_ble_eq_true rfl, Nat.le_of_ble_eq_true rfl, Nat.le_of_ble_eq_true rfl⟩, fun _ _ z => False.elim z, ?_⟩
    rintro v9 h9 ⟨e9, rfl⟩
    obtain rfl : h = h9 := e9.symm
    conv => whnf
    exact ⟨trivial, ⟨Nat.le_of_ble_eq_true rfl, Nat.le_of_ble_eq_true rfl⟩, ⟨j_it h, rfl, j_Sc.rf⟩, congrArg (fun r => some (j_i r)) (by rw [show a.toNatClampNeg = 3 by omega, z_lq3]; rfl)⟩
  · have c1 : a.toInt = 4 := c1
    conv => whnf
    refine ⟨_, rfl, kx, fun x2 ex2 => ?_⟩
    obtain rfl : x2 = (z_c h x).1 5 := ex2.symm
    conv => whnf
    exact ⟨trivial, ⟨Nat.le_of_ble_eq_true rfl, Nat.le_of_ble_eq_true rfl⟩, ⟨j_it h, rfl, j_Sc.rf⟩, congrArg (fun r => some (j_i r)) (by rw [show a.toNatClampNeg = 4 by omega, z_lq4])⟩
  · have c1 : a.toInt = 5 := c1
    conv => whnf
    refine ⟨kx, rfl, _, _, _, _, _, _, c_G_countDoublesx (h := h) hW I j_Sc.rf, ⟨Nat.le_of_ble_eq_true rfl, Nat.le_of_ble_eq_true rfl, Nat.le_of_ble_eq_true rfl, Nat.le_of_ble_eq_true rfl⟩, fun _ _ z => False.elim z, ?_⟩
    rintro v9 h9 ⟨⟨it10, rfl, sit10⟩, r9, rfl, hr9⟩
    conv => whnf
    exact ⟨trivial, ⟨Nat.le_of_ble_eq_true rfl, Nat.le_of_ble_eq_true rfl⟩, ⟨_, rfl, sit10⟩, congrArg (fun r => some (j_i r)) (by rw [show a.toNatClampNeg = 5 by omega, z_lq5]; exact z_ofR hr9)⟩
  · have c1 : a.toInt = 6 := c1
    conv => whnf
    refine ⟨kx, rfl, _, _, _, _, _, _, c_G_countQuarrelsx hW I, ⟨Nat.le_of_ble_eq_true rfl, Nat.le_of_ble_eq_true rfl, Nat.le_of_ble_eq_true rfl, Nat.le_of_ble_eq_true rfl⟩, fun _ _ z => False.elim z, ?_⟩
    rintro v9 h9 ⟨e9, rfl⟩
    obtain rfl : h = h9 := e9.symm
    conv => whnf
    exact ⟨trivial, ⟨Nat.le_of_ble_eq_true rfl, Nat.le_of_ble_eq_true rfl⟩, ⟨j_it h, rfl, j_Sc.rf⟩, congrArg (fun r => some (j_i r)) (by rw [show a.toNatClampNeg = 6 by omega, z_lq6]; rfl)⟩
  · have c1 : a.toInt = 7 := c1
    conv => whnf
    refine ⟨kx, rfl, _, _, _, _, _, _, c_G_findFewestx (h := h) hW I j_Sc.rf, ⟨Nat.le_of_ble_eq_true rfl, Nat.le_of_ble_eq_true rfl, Nat.le_of_ble_eq_true rfl, Nat.le_of_ble_eq_true rfl⟩, fun _ _ z => False.elim z, ?_⟩
    rintro v9 h9 ⟨rfl, it14, rfl, sit14, -⟩
    conv => whnf
    refine ⟨rfl, _, _, _, _, _, _, c_bitCountx, ⟨Nat.le_of_ble_eq_true rfl, Nat.le_of_ble_eq_true rfl, Nat.le_of_ble_eq_true rfl, Nat.le_of_ble_eq_true rfl⟩, fun _ _ z => False.elim z, ?_⟩
    rintro v9 h9 ⟨rfl, rfl⟩
    conv => whnf
    exact ⟨trivial, ⟨Nat.le_of_ble_eq_true rfl, Nat.le_of_ble_eq_true rfl⟩, ⟨_, rfl, sit14⟩, congrArg (fun r => some (j_i r)) (by rw [show a.toNatClampNeg = 7 by omega, z_lq7])⟩
  · have c1 : a.toInt = 8 := c1
    conv => whnf
    refine ⟨_, rfl, kx, fun x2 ex2 => ?_⟩
    obtain rfl : x2 = (z_c h x).1 3 := ex2.symm
    conv => whnf
    exact ⟨trivial, ⟨Nat.le_of_ble_eq_true rfl, Nat.le_of_ble_eq_true rfl⟩, ⟨j_it h, rfl, j_Sc.rf⟩, congrArg (fun r => some (j_i r)) (by rw [show a.toNatClampNeg = 8 by omega, z_lq8])⟩
  · have c1 : a.toInt = 9 := c1
    conv => whnf
    refine ⟨_, rfl, kx, fun x2 ex2 => ?_⟩
    obtain rfl : x2 = (z_c h x).1 4 := ex2.symm
    conv => whnf
    exact ⟨trivial, ⟨Nat.le_of_ble_eq_true rfl, Nat.le_of_ble_eq_true rfl⟩, ⟨j_it h, rfl, j_Sc.rf⟩, congrArg (fun r => some (j_i r)) (by rw [show a.toNatClampNeg = 9 by omega, z_lq9])⟩
  · have c1 : a.toInt < 0 ∨ 9 < a.toInt := c1
    conv => whnf
    refine ⟨kx, rfl, _, _, _, _, _, _, c_G_countMotesx hW I, ⟨Nat.le_of_ble_eq_true rfl, Nat.le_of_ble_eq_true rfl, Nat.le_of_ble_eq_true rfl, Nat.le_of_ble_eq_true rfl⟩, fun _ _ z => False.elim z, ?_⟩
    rintro v9 h9 ⟨e9, rfl⟩
    obtain rfl : h = h9 := e9.symm
    conv => whnf
    exact ⟨trivial, ⟨Nat.le_of_ble_eq_true rfl, Nat.le_of_ble_eq_true rfl⟩, ⟨j_it h, rfl, j_Sc.rf⟩, congrArg (fun r => some (j_i r)) (by rw [show a.toNatClampNeg = 10 by omega, z_lq10]; rfl)⟩
