/-! text, and the law's call of it: the whole state stays -/
def z_Fr (x : Nat) (h h' : j_H) : Prop := j_Fr x h h' ∧ z_I h' x ∧ z_eq (z_c h' x) (z_c h x)
theorem z_Fr.bx {x : Nat} {h h0 h1 : j_H} (f : z_Fr x h h0) (b : j_Bx (fun q => j_kd h0 q = none) h0 h1) : z_Fr x h h1 := by
  have o : j_On (fun _ => False) h0 h1 := b.2.1.mono (fun q hq n => hq n)
  obtain ⟨I2, t2⟩ := z_off f.1.1 f.2.1 o (fun _ z => z.elim)
  exact ⟨f.1.tr (j_Fr.bx f.1.1 b (fun _ z => z)), I2, t2.tr f.2.2⟩
set_option maxHeartbeats 4000000 in
set_option maxRecDepth 20000 in
theorem c_G_textz {h : j_H} {x : Nat} {a : Int32} (hW : j_WF h x) (I : z_I h x) (sa : j_SA h) : j_Ct 139 8 183 10 700 [j_r (some x), j_i a] h (fun v h' => (∃ s, v = some (j_r (some s))) ∧ z_Fr x h h') (fun k h' => k = 2 ∧ z_Fr x h h') := by
  refine j_intro km_139 (Nat.le_of_ble_eq_true rfl) ?_
  intro J hJ hF
  obtain ⟨kx, hG, L0, L1, L2, e0, l0, e1, l1, e2, l2, ap, pn⟩ := id hW
  have b0 := l0.2.1; have d0 := l0.2.2.1
  have fr : ∀ it, j_Sc j_sf h it → z_Fr x h (j_wi h it) := fun it s' => z_notes hW I s'
  have E : ∀ (h0 h1 : j_H) (s z : Nat) (n : Int) (cn sn : Nat), z_Fr x h h0 → j_Bx (fun q => j_kd h0 q = none) h0 h1 → j_SB (fun q => j_kd h0 q = none) h1 s n 0 → cn ≤ 8 → sn ≤ 596 → J 102 [none, none, none, none, none, some (j_r (some s))] [] h1 cn sn := by
    intro h0 h1 s z n cn sn f b sb hc hs
    refine hJ [] 400 _ _ _ _ _ _ ?_
    conv => whnf
    refine ⟨sb.2.1, rfl, _, _, _, _, _, _, c_SB_toString sb (b.1 (fun _ z => z)), ⟨Nat.le_of_ble_eq_true rfl, Nat.le_of_ble_eq_true rfl, by show cn + 2 ≤ 10; omega, by show sn + 104 ≤ 700; omega⟩, fun _ _ z => False.elim z, ?_⟩
    rintro v9 h9 ⟨⟨q, rfl⟩, x9⟩
    conv => whnf
    exact ⟨trivial, ⟨by show cn + 2 ≤ 10; omega, by show sn + 104 ≤ 700; omega⟩, ⟨q, rfl⟩, f.bx (b.trans x9)⟩
  have D : ∀ (h0 h1 : j_H) (s z : Nat) (n : Int) (cn sn : Nat), z_Fr x h h0 → j_Bx (fun q => j_kd h0 q = none) h0 h1 → j_SB (fun q => j_kd h0 q = none) h1 s n 0 → j_kd h1 z = some (.inl 4) → n ≤ 39 → cn ≤ 7 → sn ≤ 496 → J 87 [none, none, some (j_r (some z)), none, none, some (j_r (some s))] [] h1 cn sn := by
    intro h0 h1 s z n cn sn f b sb kz hn hc hs
    refine hJ [102] 400 _ _ _ _ _ _ ?_
    conv => whnf
    refine ⟨_, rfl, kz, fun y _ => ?_⟩
    conv => whnf
    refine ⟨fun c => ?_, fun c => ?_⟩
    · exact j_use hF (E h0 h1 s z n cn sn f b sb (by omega) (by omega)) (And.intro rfl trivial)
    · conv => whnf
      refine ⟨sb.2.1, rfl, _, _, _, _, _, _, c_SB_appendC sb (b.1 (fun _ z => z)) (by decide) hn, ⟨Nat.le_of_ble_eq_true rfl, Nat.le_of_ble_eq_true rfl, by show cn + 1 ≤ 10; omega, by show sn + 100 ≤ 700; omega⟩, fun _ _ z => False.elim z, ?_⟩
      rintro v9 h9 ⟨rfl, x9, sb9⟩
      conv => whnf
      exact j_use hF (E h0 h9 s z (n + 1) (cn + 1) (sn + 100) f (b.trans x9) sb9 (by omega) (by omega)) (And.intro rfl trivial)
  refine hJ [87] 400 _ _ _ _ _ _ ?_
  conv => whnf
  refine ⟨kx, rfl, _, _, _, _, _, _, c_G_isGrain (h := h) hW j_Sc.rf, ⟨Nat.le_of_ble_eq_true rfl, Nat.le_of_ble_eq_true rfl, Nat.le_of_ble_eq_true rfl, Nat.le_of_ble_eq_true rfl⟩, fun _ _ z => False.elim z, ?_⟩
  rintro v9 h9 ⟨it2, rfl, s2, r1, rfl, zr1, mr1⟩
  have nr1 := mr1 _ e0
  conv => whnf
  refine ⟨fun c3 => ?_, fun c3 => ?_⟩
  · have c3 : ¬ r1.toInt = 0 := c3
    conv => whnf
    refine ⟨_, rfl, kx, fun o eo => ?_⟩
    obtain rfl : o = some L0 := eo.symm.trans e0
    conv => whnf
    refine ⟨l0.1, rfl, _, _, _, _, _, _, c_AL_get (h := h) l0 s2 j_sf_ok (by omega) (by omega), ⟨Nat.le_of_ble_eq_true rfl, Nat.le_of_ble_eq_true rfl, Nat.le_of_ble_eq_true rfl, Nat.le_of_ble_eq_true rfl⟩, fun _ _ z => False.elim z, ?_⟩
    rintro v9 h9 ⟨rfl, z, rfl, kz, -⟩
    conv => whnf
    refine ⟨Or.inr ⟨_, rfl, kz⟩, ?_⟩
    conv => whnf
    refine ⟨kx, rfl, _, _, _, _, _, _, c_G_earlyOf (h := h) hW s2 kz, ⟨Nat.le_of_ble_eq_true rfl, Nat.le_of_ble_eq_true rfl, Nat.le_of_ble_eq_true rfl, Nat.le_of_ble_eq_true rfl⟩, fun _ _ z => False.elim z, ?_⟩
    rintro v9 h9 ⟨it3, rfl, s3, ra, rfl⟩
    conv => whnf
    refine ⟨kx, rfl, _, _, _, _, _, _, c_G_lateOf (h := h) hW s3 kz, ⟨Nat.le_of_ble_eq_true rfl, Nat.le_of_ble_eq_true rfl, Nat.le_of_ble_eq_true rfl, Nat.le_of_ble_eq_true rfl⟩, fun _ _ z => False.elim z, ?_⟩
    rintro v9 h9 ⟨it4, rfl, s4, rb, rfl⟩
    have f4 := fr it4 s4
    have sa4 : j_SA (j_wi h it4) := sa.on f4.1.2.1
    generalize hh0 : j_wi h it4 = h0 at f4 sa4
    have kz0 : j_kd h0 z = some (.inl 4) := by rw [← hh0]; exact kz
    conv => whnf
    refine ⟨⟨Nat.le_of_ble_eq_true rfl, Nat.le_of_ble_eq_true rfl⟩, fun s hs => ?_⟩
    have x0 : j_Bx (fun q => j_kd h0 q = none) h0 (j_nw h0 s (.inl 1) 0) := j_Bx.nw hs (fun c z => by cases z; decide)
    conv => whnf
    refine ⟨trivial, rfl, _, _, _, _, _, _, c_SB_init (N := fun q => j_kd h0 q = none) (if_pos rfl) hs (x0.1 (fun _ z => z)) ?_, ⟨Nat.le_of_ble_eq_true rfl, Nat.le_of_ble_eq_true rfl, Nat.le_of_ble_eq_true rfl, Nat.le_of_ble_eq_true rfl⟩, fun _ _ z => False.elim z, ?_⟩
    · show (if s = s then (0 : Int32) else _).toInt = 0
      rw [if_pos rfl]; decide
    rintro v9 h1 ⟨rfl, sb1, x1⟩
    have x1 := x0.trans x1
    conv => whnf
    refine ⟨sb1.2.1, rfl, _, _, _, _, _, _, c_SB_appendI sb1 (x1.1 (fun _ z => z)) (sa4.on x1.2.1) (by omega), ⟨Nat.le_of_ble_eq_true rfl, Nat.le_of_ble_eq_true rfl, Nat.le_of_ble_eq_true rfl, Nat.le_of_ble_eq_true rfl⟩, fun _ _ z => False.elim z, ?_⟩
    rintro v9 h2 ⟨rfl, x2, n2, q2, sb2⟩
    have x2 := x1.trans x2
    conv => whnf
    refine ⟨sb2.2.1, rfl, _, _, _, _, _, _, c_SB_appendC sb2 (x2.1 (fun _ z => z)) (by decide) (by omega), ⟨Nat.le_of_ble_eq_true rfl, Nat.le_of_ble_eq_true rfl, Nat.le_of_ble_eq_true rfl, Nat.le_of_ble_eq_true rfl⟩, fun _ _ z => False.elim z, ?_⟩
    rintro v9 h3 ⟨rfl, x3, sb3⟩
    have x3 := x2.trans x3
    conv => whnf
    refine ⟨sb3.2.1, rfl, _, _, _, _, _, _, c_SB_appendI sb3 (x3.1 (fun _ z => z)) (sa4.on x3.2.1) (by omega), ⟨Nat.le_of_ble_eq_true rfl, Nat.le_of_ble_eq_true rfl, Nat.le_of_ble_eq_true rfl, Nat.le_of_ble_eq_true rfl⟩, fun _ _ z => False.elim z, ?_⟩
    rintro v9 h5 ⟨rfl, x5, n5, q5, sb5⟩
    have x5 := x3.trans x5
    conv => whnf
    refine ⟨fun c => ?_, fun c => ?_⟩
    · exact j_use hF (D h0 h5 s z n5 _ _ f4 x5 sb5 (x5.kd kz0) (by omega) (Nat.le_of_ble_eq_true rfl) (Nat.le_of_ble_eq_true rfl)) (And.intro rfl (And.intro rfl trivial))
    · conv => whnf
      refine ⟨sb5.2.1, rfl, _, _, _, _, _, _, c_SB_appendC sb5 (x5.1 (fun _ z => z)) (by decide) (by omega), ⟨Nat.le_of_ble_eq_true rfl, Nat.le_of_ble_eq_true rfl, Nat.le_of_ble_eq_true rfl, Nat.le_of_ble_eq_true rfl⟩, fun _ _ z => False.elim z, ?_⟩
      rintro v9 h6 ⟨rfl, x6, sb6⟩
      have x6 := x5.trans x6
      conv => whnf
      exact j_use hF (D h0 h6 s z (n5 + 1) _ _ f4 x6 sb6 (x6.kd kz0) (by omega) (Nat.le_of_ble_eq_true rfl) (Nat.le_of_ble_eq_true rfl)) (And.intro rfl (And.intro rfl trivial))
  · conv => whnf
    exact ⟨⟨Nat.le_of_ble_eq_true rfl, Nat.le_of_ble_eq_true rfl⟩, ⟨Nat.le_of_ble_eq_true rfl, Nat.le_of_ble_eq_true rfl⟩, rfl, fr it2 s2⟩
set_option maxHeartbeats 4000000 in
set_option maxRecDepth 20000 in
theorem c_Lw_textz {h : j_H} {x out : Nat} {a : Int32} (hW : j_WF h x) (I : z_I h x) (sa : j_SA h) (ko : j_kd h out = some (.inl 9)) : j_Ct 247 9 208 10 700 [j_r (some x), j_i a, j_r (some out)] h (fun v h' => (∃ r, v = some (j_i r)) ∧ z_Fo x out h h') j_no := by
  refine j_intro km_247 (Nat.le_of_ble_eq_true rfl) ?_
  intro J hJ hF
  refine hJ [] 400 _ _ _ _ _ _ ?_
  conv => whnf
  refine ⟨hW.1, rfl, _, _, _, _, _, _, c_G_textz (h := h) hW I sa, ⟨Nat.le_of_ble_eq_true rfl, Nat.le_of_ble_eq_true rfl, Nat.le_of_ble_eq_true rfl, Nat.le_of_ble_eq_true rfl⟩, ?_, ?_⟩
  · rintro k9 h9 ⟨rfl, f⟩
    conv => whnf
    intro a9
    conv => whnf
    exact ⟨trivial, ⟨Nat.le_of_ble_eq_true rfl, Nat.le_of_ble_eq_true rfl⟩, ⟨_, rfl⟩, z_Fo.of f⟩
  · rintro v9 h9 ⟨⟨s, rfl⟩, f⟩
    conv => whnf
    refine ⟨_, rfl, ((f.1.2.1.2 out (j_nn ko)).1).trans ko, ?_⟩
    conv => whnf
    exact ⟨trivial, ⟨Nat.le_of_ble_eq_true rfl, Nat.le_of_ble_eq_true rfl⟩, ⟨_, rfl⟩, z_Fo.out f ko⟩
