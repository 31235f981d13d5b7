/-! narrowed spans, changed: word for word -/
def z_fX (mx : Int32 → Int32 → Int32) (b : Int32) (p : Nat → Bool) (f : Nat → Int32) : Nat → Int32
  | 0 => b
  | n + 1 => if p n = true then mx (z_fX mx b p f n) (f n) else z_fX mx b p f n
def z_up (z : j_Z) (g k : Nat) : Bool := decide ((z.2.2.1 g 0).toInt < (z.2.2.1 k 0).toInt)
def z_dw (z : j_Z) (g k : Nat) : Bool := decide ((z.2.2.1 k 0).toInt < (z.2.2.1 g 0).toInt)
def z_nE (z : j_Z) (g : Nat) : Int32 := z_fX z_mAx (z_eO z g (Int32.ofInt (-1)) (Int32.ofInt (-1))) (z_up z g) (fun k => z_eO z k (Int32.ofInt (-1)) (Int32.ofInt (-1))) (z.1 0).toNatClampNeg
def z_nL (z : j_Z) (g : Nat) : Int32 := z_fX z_mIn (z_lO z g (Int32.ofInt (-1)) (Int32.ofInt (-1))) (z_dw z g) (fun k => z_lO z k (Int32.ofInt (-1)) (Int32.ofInt (-1))) (z.1 0).toNatClampNeg
def z_nq (z : j_Z) (g : Nat) (b : Int32) : Int32 := if b.toInt = 0 then z_nE z g else z_nL z g
theorem z_fX_c {mx : Int32 → Int32 → Int32} {b b' : Int32} {p q : Nat → Bool} {f g : Nat → Int32} (hb : b = b') : ∀ n, (∀ k, k < n → p k = q k) → (∀ k, k < n → f k = g k) → z_fX mx b p f n = z_fX mx b' q g n := by
  intro n
  induction n with
  | zero => intro _ _; exact hb
  | succ n ih =>
    intro h1 h2
    show (if p n = true then mx (z_fX mx b p f n) (f n) else z_fX mx b p f n) = if q n = true then mx (z_fX mx b' q g n) (g n) else z_fX mx b' q g n
    rw [ih (fun k hk => h1 k (by omega)) (fun k hk => h2 k (by omega)), h1 n (by omega), h2 n (by omega)]
section NC
variable {A B : j_Z}
theorem z_nE_c (e : z_eq A B) (h0 : 0 ≤ (A.1 0).toInt) (h1 : 0 ≤ (A.1 1).toInt) {g : Nat} (hg : z_lt A 0 g) : z_nE A g = z_nE B g := by
  unfold z_nE
  rw [← e.1 0 (by decide)]
  exact z_fX_c (z_eO_c e h1) _ (fun k hk => by unfold z_up; rw [e.2.2.1 g 0 hg (by decide), e.2.2.1 k 0 (z_ltn h0 hk) (by decide)]) (fun k hk => z_eO_c e h1)
theorem z_nL_c (e : z_eq A B) (h0 : 0 ≤ (A.1 0).toInt) (h1 : 0 ≤ (A.1 1).toInt) {g : Nat} (hg : z_lt A 0 g) : z_nL A g = z_nL B g := by
  unfold z_nL
  rw [← e.1 0 (by decide)]
  exact z_fX_c (z_lO_c e h1) _ (fun k hk => by unfold z_dw; rw [e.2.2.1 g 0 hg (by decide), e.2.2.1 k 0 (z_ltn h0 hk) (by decide)]) (fun k hk => z_lO_c e h1)
end NC
set_option maxHeartbeats 4000000 in
set_option maxRecDepth 20000 in
theorem c_G_narrowedEarlyx {h : j_H} {x e g : Nat} (hW : j_WF h x) (I : z_I h x) (hg : z_in h x 0 g) (he : z_el h x 0 g = e) : j_Ct 119 4 90 0 0 [j_r (some x), j_r (some e)] h (fun v h' => h' = h ∧ v = some (j_i (z_nE (z_c h x) g))) j_no := by
  refine j_intro km_119 (Nat.le_of_ble_eq_true rfl) ?_
  intro J hJ hF
  obtain ⟨kx, hG, L0, L1, L2, e0, l0, e1, l1, e2, l2, ap, pn⟩ := id hW
  have b0 := l0.2.1; have d0 := l0.2.2.1
  have eG : j_sz h x 0 = j_it h L0 2 := j_sz_e e0
  have clG := j_clamp b0
  have ke : j_kd h e = some (.inl 4) := by rw [← he]; exact z_k0 hW hg
  refine hJ [10] 400 _ _ _ _ _ _ ?_
  conv => whnf
  refine ⟨kx, rfl, _, _, _, _, _, _, c_G_earlyOfx hW I hg he, ⟨Nat.le_of_ble_eq_true rfl, Nat.le_of_ble_eq_true rfl, Nat.le_of_ble_eq_true rfl, Nat.le_of_ble_eq_true rfl⟩, fun _ _ z => False.elim z, ?_⟩
  rintro v9 h9 ⟨e9, rfl⟩
  obtain rfl : h = h9 := e9.symm
  have L4 : ∀ (n : Nat) (v2 : Int32), 0 ≤ v2.toInt → v2.toInt ≤ (j_it h L0 2).toInt → (j_it h L0 2).toInt - v2.toInt < (n : Int) → J 10 [some (j_r (some x)), some (j_r (some e)), some (j_i (z_fX z_mAx (z_eO (z_c h x) g (Int32.ofInt (-1)) (Int32.ofInt (-1))) (z_up (z_c h x) g) (fun k => z_eO (z_c h x) k (Int32.ofInt (-1)) (Int32.ofInt (-1))) v2.toNatClampNeg)), some (j_i v2), none] [] h 0 0 := by
    intro n
    induction n with
    | zero => intro v2 hn hm hz; omega
    | succ n ih4 =>
      intro v2 hn hm hz
      have cl := j_clamp hn
      refine hJ [10] 400 _ _ _ _ _ _ ?_
      conv => whnf
      refine ⟨_, rfl, kx, fun o3 eo => ?_⟩
      obtain rfl : o3 = some L0 := eo.symm.trans e0
      conv => whnf
      refine ⟨l0.1, rfl, _, _, _, _, _, _, c_AL_size (h := h) l0 j_Sc.rf j_sf_ok, ⟨Nat.le_of_ble_eq_true rfl, Nat.le_of_ble_eq_true rfl, Nat.le_of_ble_eq_true rfl, Nat.le_of_ble_eq_true rfl⟩, fun _ _ z => False.elim z, ?_⟩
      rintro v9 h9 ⟨e9, rfl⟩
      obtain rfl : h = h9 := e9.symm
      conv => whnf
      refine ⟨fun c4 => ?_, fun c4 => ?_⟩
      · have c4 : (j_it h L0 2).toInt ≤ v2.toInt := c4
        have ev : v2.toNatClampNeg = (j_sz h x 0).toNatClampNeg := by rw [eG]; omega
        conv => whnf
        exact ⟨trivial, ⟨Nat.le_of_ble_eq_true rfl, Nat.le_of_ble_eq_true rfl⟩, rfl, by rw [ev]; try rfl⟩
      · have c4 : ¬ (j_it h L0 2).toInt ≤ v2.toInt := c4
        have hin : z_in h x 0 v2.toNatClampNeg := by unfold z_in; rw [eG]; omega
        have t14 : (v2 + Int32.ofInt 1).toInt = v2.toInt + 1 := j_inc1 (by omega)
        have cl2 := j_clamp (i := v2 + Int32.ofInt 1) (by omega)
        have ek : (v2 + Int32.ofInt 1).toNatClampNeg = v2.toNatClampNeg + 1 := by omega
        have nx := ih4 (v2 + Int32.ofInt 1) (by omega) (by omega) (by omega)
        rw [ek] at nx
        conv => whnf
        refine ⟨_, rfl, kx, fun o5 eo => ?_⟩
        obtain rfl : o5 = some L0 := eo.symm.trans e0
        conv => whnf
        refine ⟨l0.1, rfl, _, _, _, _, _, _, c_AL_get (h := h) l0 j_Sc.rf j_sf_ok (by omega) (by omega), ⟨Nat.le_of_ble_eq_true rfl, Nat.le_of_ble_eq_true rfl, Nat.le_of_ble_eq_true rfl, Nat.le_of_ble_eq_true rfl⟩, fun _ _ z => False.elim z, ?_⟩
        rintro v9 h9 ⟨e9, g8, rfl, kg8, xg8⟩
        obtain rfl : h = h9 := e9.symm
        have hy : z_el h x 0 v2.toNatClampNeg = g8 := z_el_get e0 xg8
        have pe : z_up (z_c h x) g v2.toNatClampNeg = decide ((j_it h e 3).toInt < (j_it h g8 3).toInt) := by
          rw [← hy, ← he]
          rfl
        conv => whnf
        refine ⟨Or.inr ⟨_, rfl, kg8⟩, ?_⟩
        conv => whnf
        refine ⟨_, rfl, kg8, fun x9 ex9 => ?_⟩
        obtain rfl : x9 = j_it h g8 3 := ex9.symm
        conv => whnf
        refine ⟨_, rfl, ke, fun x10 ex10 => ?_⟩
        obtain rfl : x10 = j_it h e 3 := ex10.symm
        conv => whnf
        refine ⟨fun c13 => ?_, fun c13 => ?_⟩
        · have c13 : (j_it h g8 3).toInt ≤ (j_it h e 3).toInt := c13
          rw [show z_fX z_mAx (z_eO (z_c h x) g (Int32.ofInt (-1)) (Int32.ofInt (-1))) (z_up (z_c h x) g) (fun k => z_eO (z_c h x) k (Int32.ofInt (-1)) (Int32.ofInt (-1))) (v2.toNatClampNeg + 1) = z_fX z_mAx (z_eO (z_c h x) g (Int32.ofInt (-1)) (Int32.ofInt (-1))) (z_up (z_c h x) g) (fun k => z_eO (z_c h x) k (Int32.ofInt (-1)) (Int32.ofInt (-1))) v2.toNatClampNeg from if_neg (by rw [pe, decide_eq_false (by omega)]; decide)] at nx
          exact j_use hF nx (And.intro rfl (And.intro rfl (And.intro rfl (And.intro rfl trivial))))
        · have c13 : ¬ (j_it h g8 3).toInt ≤ (j_it h e 3).toInt := c13
          conv => whnf
          refine ⟨kx, rfl, _, _, _, _, _, _, c_G_earlyOfx hW I hin hy, ⟨Nat.le_of_ble_eq_true rfl, Nat.le_of_ble_eq_true rfl, Nat.le_of_ble_eq_true rfl, Nat.le_of_ble_eq_true rfl⟩, fun _ _ z => False.elim z, ?_⟩
          rintro v9 h9 ⟨e9, rfl⟩
          obtain rfl : h = h9 := e9.symm
          conv => whnf
          refine ⟨⟨Nat.le_of_ble_eq_true rfl, Nat.le_of_ble_eq_true rfl, Nat.le_of_ble_eq_true rfl, Nat.le_of_ble_eq_true rfl⟩, ?_⟩
          rw [show z_fX z_mAx (z_eO (z_c h x) g (Int32.ofInt (-1)) (Int32.ofInt (-1))) (z_up (z_c h x) g) (fun k => z_eO (z_c h x) k (Int32.ofInt (-1)) (Int32.ofInt (-1))) (v2.toNatClampNeg + 1) = z_mAx (z_fX z_mAx (z_eO (z_c h x) g (Int32.ofInt (-1)) (Int32.ofInt (-1))) (z_up (z_c h x) g) (fun k => z_eO (z_c h x) k (Int32.ofInt (-1)) (Int32.ofInt (-1))) v2.toNatClampNeg) (z_eO (z_c h x) v2.toNatClampNeg (Int32.ofInt (-1)) (Int32.ofInt (-1))) from if_pos (by rw [pe]; exact decide_eq_true (by omega))] at nx
          exact j_use hF nx (And.intro rfl (And.intro rfl (And.intro rfl (And.intro rfl trivial))))
  have cl0 : (Int32.ofInt 0).toNatClampNeg = 0 := by decide
  have st := L4 100 (Int32.ofInt 0) (by decide) (by have : (Int32.ofInt 0).toInt = 0 := (by decide); omega) (by have : (Int32.ofInt 0).toInt = 0 := (by decide); omega)
  rw [cl0] at st
  exact j_use hF st (And.intro rfl (And.intro rfl (And.intro rfl (And.intro rfl trivial))))
set_option maxHeartbeats 4000000 in
set_option maxRecDepth 20000 in
theorem c_G_narrowedLatex {h : j_H} {x e g : Nat} (hW : j_WF h x) (I : z_I h x) (hg : z_in h x 0 g) (he : z_el h x 0 g = e) : j_Ct 120 4 90 0 0 [j_r (some x), j_r (some e)] h (fun v h' => h' = h ∧ v = some (j_i (z_nL (z_c h x) g))) j_no := by
  refine j_intro km_120 (Nat.le_of_ble_eq_true rfl) ?_
  intro J hJ hF
  obtain ⟨kx, hG, L0, L1, L2, e0, l0, e1, l1, e2, l2, ap, pn⟩ := id hW
  have b0 := l0.2.1; have d0 := l0.2.2.1
  have eG : j_sz h x 0 = j_it h L0 2 := j_sz_e e0
  have clG := j_clamp b0
  have ke : j_kd h e = some (.inl 4) := by rw [← he]; exact z_k0 hW hg
  refine hJ [10] 400 _ _ _ _ _ _ ?_
  conv => whnf
  refine ⟨kx, rfl, _, _, _, _, _, _, c_G_lateOfx hW I hg he, ⟨Nat.le_of_ble_eq_true rfl, Nat.le_of_ble_eq_true rfl, Nat.le_of_ble_eq_true rfl, Nat.le_of_ble_eq_true rfl⟩, fun _ _ z => False.elim z, ?_⟩
  rintro v9 h9 ⟨e9, rfl⟩
  obtain rfl : h = h9 := e9.symm
  have L4 : ∀ (n : Nat) (v2 : Int32), 0 ≤ v2.toInt → v2.toInt ≤ (j_it h L0 2).toInt → (j_it h L0 2).toInt - v2.toInt < (n : Int) → J 10 [some (j_r (some x)), some (j_r (some e)), some (j_i (z_fX z_mIn (z_lO (z_c h x) g (Int32.ofInt (-1)) (Int32.ofInt (-1))) (z_dw (z_c h x) g) (fun k => z_lO (z_c h x) k (Int32.ofInt (-1)) (Int32.ofInt (-1))) v2.toNatClampNeg)), some (j_i v2), none] [] h 0 0 := by
    intro n
    induction n with
    | zero => intro v2 hn hm hz; omega
    | succ n ih4 =>
      intro v2 hn hm hz
      have cl := j_clamp hn
      refine hJ [10] 400 _ _ _ _ _ _ ?_
      conv => whnf
      refine ⟨_, rfl, kx, fun o3 eo => ?_⟩
      obtain rfl : o3 = some L0 := eo.symm.trans e0
      conv => whnf
      refine ⟨l0.1, rfl, _, _, _, _, _, _, c_AL_size (h := h) l0 j_Sc.rf j_sf_ok, ⟨Nat.le_of_ble_eq_true rfl, Nat.le_of_ble_eq_true rfl, Nat.le_of_ble_eq_true rfl, Nat.le_of_ble_eq_true rfl⟩, fun _ _ z => False.elim z, ?_⟩
      rintro v9 h9 ⟨e9, rfl⟩
      obtain rfl : h = h9 := e9.symm
      conv => whnf
      refine ⟨fun c4 => ?_, fun c4 => ?_⟩
      · have c4 : (j_it h L0 2).toInt ≤ v2.toInt := c4
        have ev : v2.toNatClampNeg = (j_sz h x 0).toNatClampNeg := by rw [eG]; omega
        conv => whnf
        exact ⟨trivial, ⟨Nat.le_of_ble_eq_true rfl, Nat.le_of_ble_eq_true rfl⟩, rfl, by rw [ev]; try rfl⟩
      · have c4 : ¬ (j_it h L0 2).toInt ≤ v2.toInt := c4
        have hin : z_in h x 0 v2.toNatClampNeg := by unfold z_in; rw [eG]; omega
        have t14 : (v2 + Int32.ofInt 1).toInt = v2.toInt + 1 := j_inc1 (by omega)
        have cl2 := j_clamp (i := v2 + Int32.ofInt 1) (by omega)
        have ek : (v2 + Int32.ofInt 1).toNatClampNeg = v2.toNatClampNeg + 1 := by omega
        have nx := ih4 (v2 + Int32.ofInt 1) (by omega) (by omega) (by omega)
        rw [ek] at nx
        conv => whnf
        refine ⟨_, rfl, kx, fun o5 eo => ?_⟩
        obtain rfl : o5 = some L0 := eo.symm.trans e0
        conv => whnf
        refine ⟨l0.1, rfl, _, _, _, _, _, _, c_AL_get (h := h) l0 j_Sc.rf j_sf_ok (by omega) (by omega), ⟨Nat.le_of_ble_eq_true rfl, Nat.le_of_ble_eq_true rfl, Nat.le_of_ble_eq_true rfl, Nat.le_of_ble_eq_true rfl⟩, fun _ _ z => False.elim z, ?_⟩
        rintro v9 h9 ⟨e9, g8, rfl, kg8, xg8⟩
        obtain rfl : h = h9 := e9.symm
        have hy : z_el h x 0 v2.toNatClampNeg = g8 := z_el_get e0 xg8
        have pe : z_dw (z_c h x) g v2.toNatClampNeg = decide ((j_it h g8 3).toInt < (j_it h e 3).toInt) := by
          rw [← hy, ← he]
          rfl
        conv => whnf
        refine ⟨Or.inr ⟨_, rfl, kg8⟩, ?_⟩
        conv => whnf
        refine ⟨_, rfl, kg8, fun x9 ex9 => ?_⟩
        obtain rfl : x9 = j_it h g8 3 := ex9.symm
        conv => whnf
        refine ⟨_, rfl, ke, fun x10 ex10 => ?_⟩
        obtain rfl : x10 = j_it h e 3 := ex10.symm
        conv => whnf
        refine ⟨fun c13 => ?_, fun c13 => ?_⟩
        · have c13 : (j_it h e 3).toInt ≤ (j_it h g8 3).toInt := c13
          rw [show z_fX z_mIn (z_lO (z_c h x) g (Int32.ofInt (-1)) (Int32.ofInt (-1))) (z_dw (z_c h x) g) (fun k => z_lO (z_c h x) k (Int32.ofInt (-1)) (Int32.ofInt (-1))) (v2.toNatClampNeg + 1) = z_fX z_mIn (z_lO (z_c h x) g (Int32.ofInt (-1)) (Int32.ofInt (-1))) (z_dw (z_c h x) g) (fun k => z_lO (z_c h x) k (Int32.ofInt (-1)) (Int32.ofInt (-1))) v2.toNatClampNeg from if_neg (by rw [pe, decide_eq_false (by omega)]; decide)] at nx
          exact j_use hF nx (And.intro rfl (And.intro rfl (And.intro rfl (And.intro rfl trivial))))
        · have c13 : ¬ (j_it h e 3).toInt ≤ (j_it h g8 3).toInt := c13
          conv => whnf
          refine ⟨kx, rfl, _, _, _, _, _, _, c_G_lateOfx hW I hin hy, ⟨Nat.le_of_ble_eq_true rfl, Nat.le_of_ble_eq_true rfl, Nat.le_of_ble_eq_true rfl, Nat.le_of_ble_eq_true rfl⟩, fun _ _ z => False.elim z, ?_⟩
          rintro v9 h9 ⟨e9, rfl⟩
          obtain rfl : h = h9 := e9.symm
          conv => whnf
          refine ⟨⟨Nat.le_of_ble_eq_true rfl, Nat.le_of_ble_eq_true rfl, Nat.le_of_ble_eq_true rfl, Nat.le_of_ble_eq_true rfl⟩, ?_⟩
          rw [show z_fX z_mIn (z_lO (z_c h x) g (Int32.ofInt (-1)) (Int32.ofInt (-1))) (z_dw (z_c h x) g) (fun k => z_lO (z_c h x) k (Int32.ofInt (-1)) (Int32.ofInt (-1))) (v2.toNatClampNeg + 1) = z_mIn (z_fX z_mIn (z_lO (z_c h x) g (Int32.ofInt (-1)) (Int32.ofInt (-1))) (z_dw (z_c h x) g) (fun k => z_lO (z_c h x) k (Int32.ofInt (-1)) (Int32.ofInt (-1))) v2.toNatClampNeg) (z_lO (z_c h x) v2.toNatClampNeg (Int32.ofInt (-1)) (Int32.ofInt (-1))) from if_pos (by rw [pe]; exact decide_eq_true (by omega))] at nx
          exact j_use hF nx (And.intro rfl (And.intro rfl (And.intro rfl (And.intro rfl trivial))))
  have cl0 : (Int32.ofInt 0).toNatClampNeg = 0 := by decide
  have st := L4 100 (Int32.ofInt 0) (by decide) (by have : (Int32.ofInt 0).toInt = 0 := (by decide); omega) (by have : (Int32.ofInt 0).toInt = 0 := (by decide); omega)
  rw [cl0] at st
  exact j_use hF st (And.intro rfl (And.intro rfl (And.intro rfl (And.intro rfl trivial))))
