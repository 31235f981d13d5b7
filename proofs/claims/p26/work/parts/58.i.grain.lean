/-! constructors word for word; grain, run -/
set_option maxRecDepth 20000 in
theorem c_Motes_initx {h : j_H} {a : Nat} {x : Int32} (k : j_kd h a = some (.inl 5)) : j_Ct 146 1 20 0 0 [j_r (some a), j_i x] h (fun v h' => v = none ∧ j_Fi h h' a ∧ j_it h' a 0 = x ∧ j_it h' a 1 = x ∧ j_it h' a 2 = Int32.ofInt 0 ∧ j_it h' a 3 = Int32.ofInt 0) j_no := by
  refine j_intro km_146 (Nat.le_of_ble_eq_true rfl) ?_
  intro J hJ hF
  refine hJ [] 400 _ _ _ _ _ _ ?_
  conv => whnf
  refine ⟨_, rfl, ⟨Nat.le_of_ble_eq_true rfl, Nat.le_of_ble_eq_true rfl⟩, ?_⟩
  conv => whnf
  refine ⟨_, rfl, k, ?_⟩
  conv => whnf
  refine ⟨_, rfl, k, ?_⟩
  conv => whnf
  refine ⟨_, rfl, k, ?_⟩
  conv => whnf
  refine ⟨_, rfl, k, ?_⟩
  conv => whnf
  exact ⟨rfl, ⟨Nat.le_of_ble_eq_true rfl, Nat.le_of_ble_eq_true rfl⟩, rfl, j_Fi.rf.up.up.up.up, (j_upm (by decide)).trans ((j_upm (by decide)).trans ((j_upm (by decide)).trans j_upi)), (j_upm (by decide)).trans ((j_upm (by decide)).trans j_upi), (j_upm (by decide)).trans j_upi, j_upi⟩
set_option maxRecDepth 20000 in
theorem c_Grain_initx {h : j_H} {a m1 m2 : Nat} {x y z : Int32} (k : j_kd h a = some (.inl 4)) : j_Ct 143 1 20 0 0 [j_r (some a), j_i x, j_r (some m1), j_r (some m2), j_i y, j_i z] h (fun v h' => v = none ∧ j_Fi h h' a ∧ j_rf h' a 1 = some m1 ∧ j_rf h' a 2 = some m2 ∧ j_it h' a 0 = x ∧ j_it h' a 3 = y ∧ j_it h' a 4 = z ∧ j_it h' a 5 = j_it h a 5) j_no := by
  refine j_intro km_143 (Nat.le_of_ble_eq_true rfl) ?_
  intro J hJ hF
  refine hJ [] 400 _ _ _ _ _ _ ?_
  conv => whnf
  refine ⟨_, rfl, ⟨Nat.le_of_ble_eq_true rfl, Nat.le_of_ble_eq_true rfl⟩, ?_⟩
  conv => whnf
  refine ⟨_, rfl, k, ?_⟩
  conv => whnf
  refine ⟨_, rfl, k, ?_⟩
  conv => whnf
  refine ⟨_, rfl, k, ?_⟩
  conv => whnf
  refine ⟨_, rfl, k, ?_⟩
  conv => whnf
  refine ⟨_, rfl, k, ?_⟩
  conv => whnf
  refine ⟨rfl, ⟨Nat.le_of_ble_eq_true rfl, Nat.le_of_ble_eq_true rfl⟩, rfl, j_Fi.rf.up.up.up.up.up, ?_, ?_, ?_, ?_, ?_, ?_⟩
  · exact (j_upn (by decide)).trans ((j_upn (by decide)).trans ((j_upn (by decide)).trans j_upr))
  · exact (j_upn (by decide)).trans ((j_upn (by decide)).trans j_upr)
  · exact (j_upm (by decide)).trans ((j_upm (by decide)).trans ((j_upm (by decide)).trans ((j_upm (by decide)).trans j_upi)))
  · exact (j_upm (by decide)).trans j_upi
  · exact j_upi
  · exact (j_upm (by decide)).trans ((j_upm (by decide)).trans ((j_upm (by decide)).trans ((j_upm (by decide)).trans (j_upm (by decide)))))
set_option maxRecDepth 20000 in
theorem c_Print_initx {h : j_H} {a r : Nat} {q : Option Nat} {x y : Int32} (k : j_kd h a = some (.inl 6)) : j_Ct 151 1 20 0 0 [j_r (some a), j_i x, j_r (some r), j_i y, j_r q] h (fun v h' => v = none ∧ j_Fi h h' a ∧ j_rf h' a 1 = some r ∧ j_rf h' a 3 = q ∧ j_it h' a 0 = x ∧ j_it h' a 2 = y) j_no := by
  refine j_intro km_151 (Nat.le_of_ble_eq_true rfl) ?_
  intro J hJ hF
  refine hJ [] 400 _ _ _ _ _ _ ?_
  conv => whnf
  refine ⟨_, rfl, ⟨Nat.le_of_ble_eq_true rfl, Nat.le_of_ble_eq_true rfl⟩, ?_⟩
  conv => whnf
  refine ⟨_, rfl, k, ?_⟩
  conv => whnf
  refine ⟨_, rfl, k, ?_⟩
  conv => whnf
  refine ⟨_, rfl, k, ?_⟩
  conv => whnf
  refine ⟨_, rfl, k, ?_⟩
  conv => whnf
  refine ⟨rfl, ⟨Nat.le_of_ble_eq_true rfl, Nat.le_of_ble_eq_true rfl⟩, rfl, j_Fi.rf.up.up.up.up, ?_, j_upr, ?_, ?_⟩
  · exact (j_upn (by decide)).trans ((j_upn (by decide)).trans j_upr)
  · exact (j_upm (by decide)).trans ((j_upm (by decide)).trans ((j_upm (by decide)).trans j_upi))
  · exact (j_upm (by decide)).trans j_upi
set_option maxRecDepth 20000 in
theorem c_Run_initx {h : j_H} {a r : Nat} {x1 x2 x3 x4 x5 x6 : Int32} (k : j_kd h a = some (.inl 7)) : j_Ct 152 1 20 0 0 [j_r (some a), j_i x1, j_r (some r), j_i x2, j_i x3, j_i x4, j_i x5, j_i x6] h (fun v h' => v = none ∧ j_Fi h h' a ∧ j_rf h' a 6 = some r ∧ j_it h' a 0 = x1 ∧ j_it h' a 1 = x2 ∧ j_it h' a 2 = x3 ∧ j_it h' a 3 = x4 ∧ j_it h' a 4 = x5 ∧ j_it h' a 5 = x6 ∧ j_it h' a 7 = Int32.ofInt 1) j_no := by
  refine j_intro km_152 (Nat.le_of_ble_eq_true rfl) ?_
  intro J hJ hF
  refine hJ [] 400 _ _ _ _ _ _ ?_
  conv => whnf
  refine ⟨_, rfl, ⟨Nat.le_of_ble_eq_true rfl, Nat.le_of_ble_eq_true rfl⟩, ?_⟩
  conv => whnf
  refine ⟨_, rfl, k, ?_⟩
  conv => whnf
  refine ⟨_, rfl, k, ?_⟩
  conv => whnf
  refine ⟨_, rfl, k, ?_⟩
  conv => whnf
  refine ⟨_, rfl, k, ?_⟩
  conv => whnf
  refine ⟨_, rfl, k, ?_⟩
  conv => whnf
  refine ⟨_, rfl, k, ?_⟩
  conv => whnf
  refine ⟨_, rfl, k, ?_⟩
  conv => whnf
  refine ⟨Or.inr rfl, _, rfl, k, ?_⟩
  conv => whnf
  refine ⟨rfl, ⟨Nat.le_of_ble_eq_true rfl, Nat.le_of_ble_eq_true rfl⟩, rfl, j_Fi.rf.up.up.up.up.up.up.up.up, ?_, ?_, ?_, ?_, ?_, ?_, ?_, j_upi⟩
  · exact (j_upn (by decide)).trans ((j_upn (by decide)).trans ((j_upn (by decide)).trans ((j_upn (by decide)).trans ((j_upn (by decide)).trans ((j_upn (by decide)).trans j_upr)))))
  · exact (j_upm (by decide)).trans ((j_upm (by decide)).trans ((j_upm (by decide)).trans ((j_upm (by decide)).trans ((j_upm (by decide)).trans ((j_upm (by decide)).trans ((j_upm (by decide)).trans j_upi))))))
  · exact (j_upm (by decide)).trans ((j_upm (by decide)).trans ((j_upm (by decide)).trans ((j_upm (by decide)).trans ((j_upm (by decide)).trans j_upi))))
  · exact (j_upm (by decide)).trans ((j_upm (by decide)).trans ((j_upm (by decide)).trans ((j_upm (by decide)).trans j_upi)))
  · exact (j_upm (by decide)).trans ((j_upm (by decide)).trans ((j_upm (by decide)).trans j_upi))
  · exact (j_upm (by decide)).trans ((j_upm (by decide)).trans j_upi)
  · exact (j_upm (by decide)).trans j_upi
theorem n_grainz_c {A B : j_Z} {a b c : Int32} (e : z_eq A B) (hs : (A.1 0).toInt < 100) : z_eq (n_grainz A a b c) (n_grainz B a b c) := by
  have e0 := e.1 0 (by decide)
  have e6 := e.1 6 (by decide)
  have up : ∀ i k, i = 1 ∨ i = 2 → z_lt (n_grainz A a b c) i k → z_lt A i k := fun i k hi h => by
    have : (n_grainz A a b c).1 i = A.1 i := if_neg (by omega)
    unfold z_lt at h ⊢
    rw [this] at h
    exact h
  have up0 : ∀ k, z_lt (n_grainz A a b c) 0 k → k ≠ (A.1 0).toNatClampNeg → z_lt A 0 k := fun k h hk => by
    have h9 : (k : Int) < (A.1 0 + Int32.ofInt 1).toInt := h
    rw [j_inc1 (by omega)] at h9
    unfold z_lt
    have cl := j_clamp (i := A.1 0) (by omega)
    omega
  refine ⟨fun k hk => ?_, fun k i t hk hi ht => ?_, fun k f hk hf => ?_, fun k f hk hf => e.2.2.2.1 k f (up 1 k (Or.inl rfl) hk) hf, fun k f hk hf => e.2.2.2.2 k f (up 2 k (Or.inr rfl) hk) hf⟩
  · show j_u1 A.1 0 (A.1 0 + Int32.ofInt 1) k = j_u1 B.1 0 (B.1 0 + Int32.ofInt 1) k
    unfold j_u1
    rw [e0]
    by_cases z : k = 0
    · rw [if_pos z, if_pos z]
    · rw [if_neg z, if_neg z]; exact e.1 k hk
  · show (if k = (A.1 0).toNatClampNeg then _ else A.2.1 k i t) = (if k = (B.1 0).toNatClampNeg then _ else B.2.1 k i t)
    rw [← e0]
    by_cases z : k = (A.1 0).toNatClampNeg
    · rw [if_pos z, if_pos z]
    · rw [if_neg z, if_neg z]; exact e.2.1 k i t (up0 k hk z) hi ht
  · show (if k = (A.1 0).toNatClampNeg then _ else A.2.2.1 k f) = (if k = (B.1 0).toNatClampNeg then _ else B.2.2.1 k f)
    rw [← e0]
    by_cases z : k = (A.1 0).toNatClampNeg
    · rw [if_pos z, if_pos z, e6]
    · rw [if_neg z, if_neg z]; exact e.2.2.1 k f (up0 k hk z) hf
set_option maxHeartbeats 4000000 in
set_option maxRecDepth 20000 in
theorem c_G_grainz {h : j_H} {x : Nat} {a : Int32} {b : Int32} {c : Int32} (hW : j_WF h x) (I : z_I h x) : j_Ct 101 7 157 4 58 [j_r (some x), j_i a, j_i b, j_i c] h (fun v h' => (j_okg a b c ∧ (j_ax h x 0).toInt < 8) ∧ v = some (j_i (j_ax h x 0)) ∧ j_Fs x h h' ∧ z_I h' x ∧ z_eq (z_c h' x) (n_grainz (z_c h x) a b c)) (fun k h' => ((k = 0 ∧ ¬ j_okg a b c) ∨ (k = 1 ∧ j_okg a b c ∧ ¬ (j_ax h x 0).toInt < 8)) ∧ h' = h) := by
  refine j_intro km_101 (Nat.le_of_ble_eq_true rfl) ?_
  intro J hJ hF
  obtain ⟨kx, hG, L0, L1, L2, e0, l0, e1, l1, e2, l2, ap, pn⟩ := id hW
  have b0 := l0.2.1; have b1 := l1.2.1; have b2 := l2.2.1; have d0 := l0.2.2.1; have d1 := l1.2.2.1; have d2 := l2.2.2.1
  have z0 : (Int32.ofInt 0).toInt = 0 := by decide
  have z1 : (Int32.ofInt 1).toInt = 1 := by decide
  have z5 : (Int32.ofInt 5).toInt = 5 := by decide
  have z8 : (Int32.ofInt 8).toInt = 8 := by decide
  have z9999 : (Int32.ofInt 9999).toInt = 9999 := by decide
  have eA : j_ax h x 0 = j_it h L0 2 := j_sz_e e0
  have G72 : ∀ (h0 : j_H) (v4 : Int32), h0 = h → v4 = j_ax h x 0 → j_okg a b c → j_WF h0 x → j_Fr x h h0 → (∀ L, j_rf h0 x 0 = some L → (j_it h0 L 2).toInt < 8) → J 72 [some (j_r (some x)), some (j_i a), some (j_i b), some (j_i c), some (j_i v4)] [] h0 0 0 := by
    intro h0 v4 eh hv hok w f hs
    subst eh
    obtain ⟨kx0, g0, M0, M1, M2, d0, m0, -⟩ := id w
    have hs := hs M0 d0
    refine hJ [] 400 _ _ _ _ _ _ ?_
    conv => whnf
    refine ⟨_, rfl, kx0, fun o eo => ?_⟩
    obtain rfl : o = some M0 := eo.symm.trans d0
    conv => whnf
    refine ⟨⟨Nat.le_of_ble_eq_true rfl, Nat.le_of_ble_eq_true rfl⟩, fun a9 ha => ?_⟩
    conv => whnf
    refine ⟨⟨Nat.le_of_ble_eq_true rfl, Nat.le_of_ble_eq_true rfl⟩, fun y1 h1 => ?_⟩
    obtain ⟨n1, h1'⟩ := j_fresh h1
    conv => whnf
    refine ⟨trivial, rfl, _, _, _, _, _, _, c_Motes_initx (if_pos rfl), ⟨Nat.le_of_ble_eq_true rfl, Nat.le_of_ble_eq_true rfl, Nat.le_of_ble_eq_true rfl, Nat.le_of_ble_eq_true rfl⟩, fun _ _ z => False.elim z, ?_⟩
    rintro v9 h9 ⟨rfl, ⟨f1, f1k, f1s⟩, u1⟩
    conv => whnf
    refine ⟨⟨Nat.le_of_ble_eq_true rfl, Nat.le_of_ble_eq_true rfl⟩, fun y2 h2 => ?_⟩
    have h2' : j_kd h0 y2 = none ∧ y2 ≠ a9 ∧ y2 ≠ y1 := by
      obtain ⟨q1, q2⟩ := j_fresh ((f1k y2).symm.trans h2)
      obtain ⟨q3, q4⟩ := j_fresh q2
      exact ⟨q4, q3, q1⟩
    conv => whnf
    refine ⟨trivial, rfl, _, _, _, _, _, _, c_Motes_initx (if_pos rfl), ⟨Nat.le_of_ble_eq_true rfl, Nat.le_of_ble_eq_true rfl, Nat.le_of_ble_eq_true rfl, Nat.le_of_ble_eq_true rfl⟩, fun _ _ z => False.elim z, ?_⟩
    rintro v9 h10 ⟨rfl, ⟨f2, f2k, f2s⟩, u2⟩
    have o10 : j_On (fun q => q = a9 ∨ q = y1 ∨ q = y2) h0 h10 := ((((j_On.nw ha).trans (j_On.nw h1)).trans (f1.mono fun _ _ z => Or.inr (Or.inl z))).trans (j_On.nw h2)).trans (f2.mono fun _ _ z => Or.inr (Or.inr z))
    have kx10 : j_kd h10 x = some (.inl 8) := ((o10.2 x (j_nn kx0)).1).trans kx0
    have old10 : ∀ q, q ≠ y2 → q ≠ y1 → j_kd h10 q = if q = a9 then some (.inl 4) else j_kd h0 q := fun q z2 z1 => by
      rw [f2k]
      exact (if_neg z2).trans ((f1k q).trans (if_neg z1))
    have ka10 : j_kd h10 a9 = some (.inl 4) := (old10 a9 (fun z => h2'.2.1 z.symm) (fun z => n1 z.symm)).trans (if_pos rfl)
    have ky1 : j_kd h10 y1 = some (.inl 5) := by
      rw [f2k]
      exact (if_neg (fun z => h2'.2.2 z.symm)).trans ((f1k y1).trans (if_pos rfl))
    have ky2 : j_kd h10 y2 = some (.inl 5) := by
      rw [f2k]
      exact if_pos rfl
    conv => whnf
    refine ⟨_, rfl, kx10, fun y ey => ?_⟩
    conv => whnf
    refine ⟨trivial, rfl, _, _, _, _, _, _, c_Grain_initx ka10, ⟨Nat.le_of_ble_eq_true rfl, Nat.le_of_ble_eq_true rfl, Nat.le_of_ble_eq_true rfl, Nat.le_of_ble_eq_true rfl⟩, fun _ _ z => False.elim z, ?_⟩
    rintro v9 h11 ⟨rfl, ⟨f3, f3k, f3s⟩, r1, r2, gi0, g3, g4, g5⟩
    have o11 : j_On (fun _ => False) h0 h11 := (o10.trans (f3.mono fun _ _ z => Or.inl z)).mono (fun q hq z => by
      rcases z with rfl | rfl | rfl
      · exact hq ha
      · exact hq h1'
      · exact hq h2'.1)
    have ka11 : j_kd h11 a9 = some (.inl 4) := (f3k a9).trans ka10
    have ky1' : j_kd h11 y1 = some (.inl 5) := (f3k y1).trans ky1
    have ky2' : j_kd h11 y2 = some (.inl 5) := (f3k y2).trans ky2
    have g11 : j_G h11 := by
      refine g0.new (fun q => q = a9 ∨ q = y1 ∨ q = y2) o11 (fun q hq => ?_) ?_ ?_ ?_ ?_ ?_
      · rw [f3k]
        exact (old10 q (fun z => hq (Or.inr (Or.inr z))) (fun z => hq (Or.inr (Or.inl z)))).trans (if_neg (fun z => hq (Or.inl z)))
      · rintro q (rfl | rfl | rfl) hk
        · exact ⟨y1, r1, ky1'⟩
        · rw [ky1'] at hk; cases hk
        · rw [ky2'] at hk; cases hk
      · rintro q (rfl | rfl | rfl) hk
        · exact ⟨y2, r2, ky2'⟩
        · rw [ky1'] at hk; cases hk
        · rw [ky2'] at hk; cases hk
      all_goals
        rintro q (rfl | rfl | rfl) hk
        · rw [ka11] at hk; cases hk
        · rw [ky1'] at hk; cases hk
        · rw [ky2'] at hk; cases hk
    have w11 := w.keep o11 g11
    have f11 := f.tr (j_Fr.keep w o11 g11)
    have eL : j_rf h11 x 0 = some M0 := (((o11.2 x (j_nn kx0)).2.2 (fun z => z) 0).2.2).trans d0
    obtain ⟨k2, b0, b1, arr, t, q1, q2, q3, q4, q5, q6⟩ := m0.keep o11 (fun z => z) (fun _ _ => Or.inl (fun z => z))
    have hs11 : j_it h11 M0 2 = j_it h0 M0 2 := ((o11.2 M0 (j_nn m0.1)).2.2 (fun z => z) 2).1
    have hs : (j_it h11 M0 2).toInt < 8 := by rw [hs11]; exact hs
    conv => whnf
    refine ⟨k2, rfl, _, _, _, _, _, _, c_AL_add_53 k2 q1 q2 q3 q5.2 b0 q4 (by omega) q5.1 (fun j hj => by obtain ⟨y, z1, z2⟩ := q6 j hj; exact ⟨y, z1, Or.inl ⟨_, z2⟩⟩) (Or.inl ⟨_, ka11⟩), ⟨Nat.le_of_ble_eq_true rfl, Nat.le_of_ble_eq_true rfl, Nat.le_of_ble_eq_true rfl, Nat.le_of_ble_eq_true rfl⟩, fun _ _ z => False.elim z, ?_⟩
    rintro v9 h12 ⟨⟨r, rfl⟩, ad⟩
    have w12 := w11.ad0 eL q1 (by omega) ka11 ad
    conv => whnf
    obtain ⟨I11, q11, z11, el11⟩ := z_keep w I o11
    have n19 : y1 ≠ a9 := n1
    have n29 : y2 ≠ a9 := h2'.2.1
    have n21 : y2 ≠ y1 := h2'.2.2
    have ty1 : ∀ f, j_it h11 y1 f = j_it h9 y1 f := fun f => (f3s y1 n19 f).1.trans ((f2s y1 (fun z => n21 z.symm) f).1.trans (if_neg (fun z => n21 z.symm)))
    have ty2 : ∀ f, j_it h11 y2 f = j_it h10 y2 f := fun f => (f3s y2 n29 f).1
    have t5 : j_it h10 a9 5 = Int32.ofInt 0 := (f2s a9 (fun z => n29 z.symm) 5).1.trans ((if_neg (fun z => n29 z.symm)).trans ((f1s a9 (fun z => n19 z.symm) 5).1.trans ((if_neg (fun z => n19 z.symm)).trans ((if_pos rfl).trans (by decide)))))
    have sx : ∀ f, j_it h11 x f = j_it h0 x f := fun f => ((o11.2 x (j_nn kx0)).2.2 (fun z => z) f).1
    have nn9 : x ≠ a9 := fun z => by rw [z, ha] at kx0; cases kx0
    have ey6 : y = j_it h11 x 6 := ey.symm.trans (f3s x nn9 6).1.symm
    have ny : ∀ k i, z_in h11 x 0 k → i < 2 → z_mo h11 (z_el h11 x 0 k) i ≠ y1 ∧ z_mo h11 (z_el h11 x 0 k) i ≠ y2 := fun k i hk hi => by
      have hk0 : z_in h0 x 0 k := by unfold z_in at hk ⊢; rw [← z11 0 (by decide)]; exact hk
      have ke := z_k0 w hk0
      have km := z_km w hk0 hi
      have em : z_mo h11 (z_el h0 x 0 k) i = z_mo h0 (z_el h0 x 0 k) i := by
        unfold z_mo
        rw [((o11.2 _ (j_nn ke)).2.2 (fun z => z) (1 + i)).2.2]
      rw [el11 0 k (by decide) hk0, em]
      refine ⟨fun z => ?_, fun z => ?_⟩
      · rw [z, h1'] at km; cases km.2
      · rw [z, h2'.1] at km; cases km.2
    have hM : (j_it h11 M0 2).toInt = (j_it h0 M0 2).toInt := by rw [hs11]
    obtain ⟨Iz, qz⟩ := z_newG (A := a) (B := b) (C := c) w11 I11 eL q1 ad (j_clamp b0) (by omega) ka11 ky1' ky2' (fun z => n21 z.symm) ny (by rw [gi0, hv, hs11]; exact j_sz_e d0) r1 r2 g3 (g4.trans ey6) (g5.trans t5) (by rw [ty1, ty1, ty1, ty1]; exact u1) (by rw [ty2, ty2, ty2, ty2]; exact u2)
    refine ⟨trivial, ⟨Nat.le_of_ble_eq_true rfl, Nat.le_of_ble_eq_true rfl⟩, ⟨hok, ?_⟩, by rw [hv], f11.fs.tr (j_Fs.ad w11 (by decide) eL q1 ad w12), Iz, qz.tr (n_grainz_c q11 (by show (j_sz h11 x 0).toInt < 100; rw [j_sz_e eL]; omega))⟩
    rw [← f11.2.2.2 0 rfl, show j_ax h11 x 0 = j_it h11 M0 2 from j_sz_e eL]
    exact hs
  refine hJ [72] 400 _ _ _ _ _ _ ?_
  conv => whnf
  refine ⟨rfl, _, _, _, _, _, _, c_within, ⟨Nat.le_of_ble_eq_true rfl, Nat.le_of_ble_eq_true rfl, Nat.le_of_ble_eq_true rfl, Nat.le_of_ble_eq_true rfl⟩, fun _ _ z => False.elim z, ?_⟩
  rintro v9 h9 ⟨e9, r1, rfl, zr1⟩
  obtain rfl : h = h9 := e9.symm
  conv => whnf
  refine ⟨fun c1 => ?_, fun c1 => ?_⟩
  · have c1 : r1.toInt = 0 := c1
    have k1 : ¬ (0 ≤ a.toInt ∧ a.toInt ≤ 9999) := by
      rcases zr1 with ⟨-, -, q⟩ | ⟨q, -⟩
      · rw [q, z1] at c1; exact absurd c1 (by decide)
      · intro z
        refine q ⟨?_, ?_⟩
        · show (Int32.ofInt 0).toInt ≤ _; rw [z0]; exact z.1
        · show _ ≤ (Int32.ofInt 9999).toInt; rw [z9999]; exact z.2
    conv => whnf
    exact ⟨⟨Nat.le_of_ble_eq_true rfl, Nat.le_of_ble_eq_true rfl⟩, ⟨Nat.le_of_ble_eq_true rfl, Nat.le_of_ble_eq_true rfl⟩, Or.inl ⟨rfl, fun z => k1 z.1⟩, rfl⟩
  · have c1 : ¬ r1.toInt = 0 := c1
    have k1 : 0 ≤ a.toInt ∧ a.toInt ≤ 9999 := by
      rcases zr1 with ⟨q1, q2, -⟩ | ⟨-, q⟩
      · have q1 : (Int32.ofInt 0).toInt ≤ a.toInt := q1
        have q2 : a.toInt ≤ (Int32.ofInt 9999).toInt := q2
        rw [z0] at q1
        rw [z9999] at q2
        exact ⟨q1, q2⟩
      · rw [q, z0] at c1; exact absurd rfl c1
    conv => whnf
    refine ⟨rfl, _, _, _, _, _, _, c_within, ⟨Nat.le_of_ble_eq_true rfl, Nat.le_of_ble_eq_true rfl, Nat.le_of_ble_eq_true rfl, Nat.le_of_ble_eq_true rfl⟩, fun _ _ z => False.elim z, ?_⟩
    rintro v9 h9 ⟨e9, r2, rfl, zr2⟩
    obtain rfl : h = h9 := e9.symm
    conv => whnf
    refine ⟨fun c2 => ?_, fun c2 => ?_⟩
    · have c2 : r2.toInt = 0 := c2
      have k2 : ¬ (0 ≤ b.toInt ∧ b.toInt ≤ 9999) := by
        rcases zr2 with ⟨-, -, q⟩ | ⟨q, -⟩
        · rw [q, z1] at c2; exact absurd c2 (by decide)
        · intro z
          refine q ⟨?_, ?_⟩
          · show (Int32.ofInt 0).toInt ≤ _; rw [z0]; exact z.1
          · show _ ≤ (Int32.ofInt 9999).toInt; rw [z9999]; exact z.2
      conv => whnf
      exact ⟨⟨Nat.le_of_ble_eq_true rfl, Nat.le_of_ble_eq_true rfl⟩, ⟨Nat.le_of_ble_eq_true rfl, Nat.le_of_ble_eq_true rfl⟩, Or.inl ⟨rfl, fun z => k2 z.2.1⟩, rfl⟩
    · have c2 : ¬ r2.toInt = 0 := c2
      have k2 : 0 ≤ b.toInt ∧ b.toInt ≤ 9999 := by
        rcases zr2 with ⟨q1, q2, -⟩ | ⟨-, q⟩
        · have q1 : (Int32.ofInt 0).toInt ≤ b.toInt := q1
          have q2 : b.toInt ≤ (Int32.ofInt 9999).toInt := q2
          rw [z0] at q1
          rw [z9999] at q2
          exact ⟨q1, q2⟩
        · rw [q, z0] at c2; exact absurd rfl c2
      conv => whnf
      refine ⟨rfl, _, _, _, _, _, _, c_within, ⟨Nat.le_of_ble_eq_true rfl, Nat.le_of_ble_eq_true rfl, Nat.le_of_ble_eq_true rfl, Nat.le_of_ble_eq_true rfl⟩, fun _ _ z => False.elim z, ?_⟩
      rintro v9 h9 ⟨e9, r3, rfl, zr3⟩
      obtain rfl : h = h9 := e9.symm
      conv => whnf
      refine ⟨fun c3 => ?_, fun c3 => ?_⟩
      rotate_left
      · have c3 : ¬ ¬ r3.toInt = 0 := c3
        have k3 : ¬ (0 ≤ c.toInt ∧ c.toInt ≤ 5) := by
          rcases zr3 with ⟨-, -, q⟩ | ⟨q, -⟩
          · rw [q, z1] at c3; exact absurd (by decide) c3
          · intro z
            refine q ⟨?_, ?_⟩
            · show (Int32.ofInt 0).toInt ≤ _; rw [z0]; exact z.1
            · show _ ≤ (Int32.ofInt 5).toInt; rw [z5]; exact z.2
        conv => whnf
        exact ⟨⟨Nat.le_of_ble_eq_true rfl, Nat.le_of_ble_eq_true rfl⟩, ⟨Nat.le_of_ble_eq_true rfl, Nat.le_of_ble_eq_true rfl⟩, Or.inl ⟨rfl, fun z => k3 z.2.2⟩, rfl⟩
      have c3 : ¬ r3.toInt = 0 := c3
      have k3 : 0 ≤ c.toInt ∧ c.toInt ≤ 5 := by
        rcases zr3 with ⟨q1, q2, -⟩ | ⟨-, q⟩
        · have q1 : (Int32.ofInt 0).toInt ≤ c.toInt := q1
          have q2 : c.toInt ≤ (Int32.ofInt 5).toInt := q2
          rw [z0] at q1
          rw [z5] at q2
          exact ⟨q1, q2⟩
        · rw [q, z0] at c3; exact absurd rfl c3
      have hok : j_okg a b c := ⟨k1, k2, k3⟩
      conv => whnf
      refine ⟨_, rfl, kx, fun o7 eo => ?_⟩
      obtain rfl : o7 = some L0 := eo.symm.trans e0
      conv => whnf
      refine ⟨l0.1, rfl, _, _, _, _, _, _, c_AL_size (h := h) l0 j_Sc.rf j_sf_ok, ⟨Nat.le_of_ble_eq_true rfl, Nat.le_of_ble_eq_true rfl, Nat.le_of_ble_eq_true rfl, Nat.le_of_ble_eq_true rfl⟩, fun _ _ z => False.elim z, ?_⟩
      rintro v9 h9 ⟨e9, rfl⟩
      obtain rfl : h = h9 := e9.symm
      conv => whnf
      refine ⟨fun c9 => ?_, fun c9 => ?_⟩
      · have c9 : (j_it h L0 2).toInt < (Int32.ofInt 8).toInt := c9
        rw [z8] at c9
        conv => whnf
        refine ⟨_, rfl, kx, fun o10 eo => ?_⟩
        obtain rfl : o10 = some L0 := eo.symm.trans e0
        conv => whnf
        refine ⟨l0.1, rfl, _, _, _, _, _, _, c_AL_size (h := h) l0 j_Sc.rf j_sf_ok, ⟨Nat.le_of_ble_eq_true rfl, Nat.le_of_ble_eq_true rfl, Nat.le_of_ble_eq_true rfl, Nat.le_of_ble_eq_true rfl⟩, fun _ _ z => False.elim z, ?_⟩
        rintro v9 h9 ⟨e9, rfl⟩
        obtain rfl : h = h9 := e9.symm
        exact j_use hF (G72 h _ rfl eA.symm hok hW (j_Fr.keep hW j_On.rf hG) (fun L eL => by obtain rfl : L0 = L := Option.some.inj (e0.symm.trans eL); exact c9)) (And.intro rfl (And.intro rfl (And.intro rfl (And.intro rfl (And.intro rfl trivial)))))
      · have c9 : ¬ (j_it h L0 2).toInt < (Int32.ofInt 8).toInt := c9
        rw [z8] at c9
        conv => whnf
        exact ⟨⟨Nat.le_of_ble_eq_true rfl, Nat.le_of_ble_eq_true rfl⟩, ⟨Nat.le_of_ble_eq_true rfl, Nat.le_of_ble_eq_true rfl⟩, Or.inr ⟨rfl, hok, by rw [eA]; exact c9⟩, rfl⟩
/-- what a run counts -/
def z_p0 (v : Int32) : Int32 := if Int32.ofInt (0) < v then v else Int32.ofInt (0)
def z_ck (b : Int32) : Nat := if b.toInt = 0 then 0 else 1
def n_runF (z : j_Z) (a b c d : Int32) : j_Z := n_runz z a b (z_p0 (z.2.1 a.toNatClampNeg (z_ck b) 0 + c)) (z_p0 (z.2.1 a.toNatClampNeg (z_ck b) 1 + d))
theorem z_p0b {m c : Int32} (m0 : 0 ≤ m.toInt) (m1 : m.toInt ≤ 9999) (c0 : -9 ≤ c.toInt) (c1 : c.toInt ≤ 9) : 0 ≤ (z_p0 (m + c)).toInt ∧ (z_p0 (m + c)).toInt ≤ 10008 := by
  have e : (Int32.ofInt 0).toInt = 0 := by decide
  have d : (m + c).toInt = m.toInt + c.toInt := j_addI (by omega) (by omega)
  unfold z_p0
  by_cases z : Int32.ofInt (0) < (m + c)
  · rw [if_pos z]
    rw [Int32.lt_iff_toInt_lt, e] at z
    omega
  · rw [if_neg z, e]
    omega
theorem z_pfv {h : j_H} {x : Nat} {a : Int32} {v : Option j_V} (z : (a.toInt = 0 ∧ v = some (j_i (j_it h x 3))) ∨ (a.toInt ≠ 0 ∧ v = some (j_i (j_it h x 4)))) : v = some (j_i (j_it h x (j_pf a))) := by
  rcases z with ⟨z, e⟩ | ⟨z, e⟩
  · rw [e, show j_pf a = 3 from if_pos z]
  · rw [e, show j_pf a = 4 from if_neg z]
theorem n_runz_c {A B : j_Z} {g c m d : Int32} (e : z_eq A B) (hs : (A.1 1).toInt < 100) : z_eq (n_runz A g c m d) (n_runz B g c m d) := by
  have e1 := e.1 1 (by decide)
  have e5 := e.1 5 (by decide)
  have e6 := e.1 6 (by decide)
  have up : ∀ i k, i = 0 ∨ i = 2 → z_lt (n_runz A g c m d) i k → z_lt A i k := fun i k hi h => by
    have : (n_runz A g c m d).1 i = A.1 i := if_neg (by omega)
    unfold z_lt at h ⊢
    rw [this] at h
    exact h
  have up1 : ∀ k, z_lt (n_runz A g c m d) 1 k → k ≠ (A.1 1).toNatClampNeg → z_lt A 1 k := fun k h hk => by
    have h9 : (k : Int) < (A.1 1 + Int32.ofInt 1).toInt := h
    rw [j_inc1 (by omega)] at h9
    unfold z_lt
    have cl := j_clamp (i := A.1 1) (by omega)
    omega
  refine ⟨fun k hk => ?_, fun k i t hk hi ht => e.2.1 k i t (up 0 k (Or.inl rfl) hk) hi ht, fun k f hk hf => e.2.2.1 k f (up 0 k (Or.inl rfl) hk) hf, fun k f hk hf => ?_, fun k f hk hf => e.2.2.2.2 k f (up 2 k (Or.inr rfl) hk) hf⟩
  · show j_u1 A.1 1 (A.1 1 + Int32.ofInt 1) k = j_u1 B.1 1 (B.1 1 + Int32.ofInt 1) k
    unfold j_u1
    rw [e1]
    by_cases z : k = 1
    · rw [if_pos z, if_pos z]
    · rw [if_neg z, if_neg z]; exact e.1 k hk
  · show (if k = (A.1 1).toNatClampNeg then _ else A.2.2.2.1 k f) = (if k = (B.1 1).toNatClampNeg then _ else B.2.2.2.1 k f)
    rw [← e1]
    by_cases z : k = (A.1 1).toNatClampNeg
    · rw [if_pos z, if_pos z, e5, e6]
    · rw [if_neg z, if_neg z]; exact e.2.2.2.1 k f (up1 k hk z) hf
set_option maxRecDepth 20000 in
theorem c_Grain_ofx {h : j_H} {y m1 m2 : Nat} {a : Int32} (ky : j_kd h y = some (.inl 4)) (r1 : j_rf h y 1 = some m1) (r2 : j_rf h y 2 = some m2) : j_Ct 145 0 0 0 0 [j_r (some y), j_i a] h (fun v h' => h' = h ∧ v = some (j_r (some (if a.toInt = 0 then m1 else m2)))) j_no := by
  refine j_intro km_145 (Nat.le_of_ble_eq_true rfl) ?_
  intro J hJ hF
  refine hJ [] 400 _ _ _ _ _ _ ?_
  conv => whnf
  refine ⟨fun c1 => ?_, fun c1 => ?_⟩
  · have c1 : ¬ a.toInt = 0 := c1
    conv => whnf
    refine ⟨_, rfl, ky, fun o eo => ?_⟩
    obtain rfl : o = some m2 := eo.symm.trans r2
    conv => whnf
    exact ⟨trivial, ⟨Nat.le_of_ble_eq_true rfl, Nat.le_of_ble_eq_true rfl⟩, rfl, by rw [if_neg c1]⟩
  · have c1 : ¬ ¬ a.toInt = 0 := c1
    conv => whnf
    refine ⟨_, rfl, ky, fun o eo => ?_⟩
    obtain rfl : o = some m1 := eo.symm.trans r1
    conv => whnf
    exact ⟨trivial, ⟨Nat.le_of_ble_eq_true rfl, Nat.le_of_ble_eq_true rfl⟩, rfl, by rw [if_pos (Decidable.not_not.mp c1)]⟩
set_option maxHeartbeats 4000000 in
set_option maxRecDepth 20000 in
theorem c_G_runzz {h : j_H} {x : Nat} {a : Int32} {b : Int32} {c : Int32} {d : Int32} (hW : j_WF h x) (I : z_I h x) (V : z_V (z_c h x)) : j_Ct 133 7 157 2 51 [j_r (some x), j_i a, j_i b, j_i c, j_i d] h (fun v h' => (j_okr (j_ax h x) a b ∧ j_oke (j_ax h x) c d ∧ (j_ax h x 1).toInt < 20) ∧ v = some (j_i (j_ax h x 1)) ∧ j_Fs x h h' ∧ z_I h' x ∧ z_eq (z_c h' x) (n_runF (z_c h x) a b c d)) (fun k h' => ((k = 2 ∧ ¬ j_okr (j_ax h x) a b) ∨ (k = 0 ∧ j_okr (j_ax h x) a b ∧ ¬ j_oke (j_ax h x) c d) ∨ (k = 1 ∧ j_okr (j_ax h x) a b ∧ j_oke (j_ax h x) c d ∧ ¬ (j_ax h x 1).toInt < 20)) ∧ h' = h) := by
  refine j_intro km_133 (Nat.le_of_ble_eq_true rfl) ?_
  intro J hJ hF
  obtain ⟨kx, hG, L0, L1, L2, e0, l0, e1, l1, e2, l2, ap, pn⟩ := id hW
  have b0 := l0.2.1; have b1 := l1.2.1; have b2 := l2.2.1; have d0 := l0.2.2.1; have d1 := l1.2.2.1; have d2 := l2.2.2.1
  have z0 : (Int32.ofInt 0).toInt = 0 := by decide
  have z1 : (Int32.ofInt 1).toInt = 1 := by decide
  have z20 : (Int32.ofInt 20).toInt = 20 := by decide
  have eA : j_ax h x 1 = j_it h L1 2 := j_sz_e e1
  have eG : j_ax h x 0 = j_it h L0 2 := j_sz_e e0
  have eS : j_ax h x 5 = j_it h x 5 := rfl
  have G147 : ∀ (h0 : j_H) (g5 : Nat) (v7 v8 v9 : Int32), h0 = h → z_el h x 0 a.toNatClampNeg = g5 → v7 = z_p0 (z_cm h x a.toNatClampNeg (z_ck b) 0 + c) → v8 = z_p0 (z_cm h x a.toNatClampNeg (z_ck b) 1 + d) → v9 = j_ax h x 1 → j_okr (j_ax h x) a b → j_oke (j_ax h x) c d → j_WF h0 x → j_Fr x h h0 → (∀ L, j_rf h0 x 1 = some L → (j_it h0 L 2).toInt < 20) → j_kd h0 g5 = some (.inl 4) → J 147 [some (j_r (some x)), some (j_i a), some (j_i b), some (j_i c), some (j_i d), some (j_r (some g5)), none, some (j_i v7), some (j_i v8), some (j_i v9), none] [] h0 0 0 := by
    intro h0 g5 v7 v8 v9 eh eg ev7 ev8 hv hok hoe w f hs k5
    subst eh
    obtain ⟨kx0, g0, M0, M1, M2, d0, m0, d1, m1, -⟩ := id w
    have hs := hs M1 d1
    refine hJ [] 400 _ _ _ _ _ _ ?_
    conv => whnf
    refine ⟨⟨Nat.le_of_ble_eq_true rfl, Nat.le_of_ble_eq_true rfl⟩, fun a9 ha => ?_⟩
    have n5 : g5 ≠ a9 := fun z => by rw [z, ha] at k5; cases k5
    have nx : x ≠ a9 := fun z => by rw [z, ha] at kx0; cases kx0
    conv => whnf
    refine ⟨_, rfl, (if_neg nx).trans kx0, fun y1 ey1 => ?_⟩
    conv => whnf
    refine ⟨_, rfl, (if_neg nx).trans kx0, fun y2 ey2 => ?_⟩
    have ey1 : y1 = j_it h0 x 5 := ey1.symm.trans (if_neg nx)
    have ey2 : y2 = j_it h0 x 6 := ey2.symm.trans (if_neg nx)
    conv => whnf
    refine ⟨trivial, rfl, _, _, _, _, _, _, c_Run_initx (if_pos rfl), ⟨Nat.le_of_ble_eq_true rfl, Nat.le_of_ble_eq_true rfl, Nat.le_of_ble_eq_true rfl, Nat.le_of_ble_eq_true rfl⟩, fun _ _ z => False.elim z, ?_⟩
    rintro v9' h10 ⟨rfl, ⟨f3, f3k, f3s⟩, r1, u0, u1, u2, u3, u4, u5, u7⟩
    have o10 : j_On (fun _ => False) h0 h10 := (((j_On.nw (S := fun q => q = a9) ha)).trans f3).mono (fun q hq z => hq (by rw [z]; exact ha))
    have ka10 : j_kd h10 a9 = some (.inl 7) := (f3k a9).trans (if_pos rfl)
    have up : ∀ q s, j_kd h0 q = some s → j_kd h10 q = some s := fun q s hq => ((o10.2 q (j_nn hq)).1).trans hq
    have kx10 := up _ _ kx0
    have g10 : j_G h10 := by
      refine g0.new (fun q => q = a9) o10 (fun q hq => (f3k q).trans (if_neg hq)) ?_ ?_ ?_ ?_ ?_
      · rintro q rfl hk
        rw [ka10] at hk; cases hk
      · rintro q rfl hk
        rw [ka10] at hk; cases hk
      · rintro q rfl hk
        exact ⟨g5, r1, up _ _ k5⟩
      · rintro q rfl hk
        rw [ka10] at hk; cases hk
      · rintro q rfl hk
        rw [ka10] at hk; cases hk
    have sx : ∀ q9, j_kd h0 q9 ≠ none → ∀ f, j_it h10 q9 f = j_it h0 q9 f := fun q9 hq f => ((o10.2 q9 hq).2.2 (fun z => z) f).1
    have hin : z_in h0 x 0 a.toNatClampNeg := by unfold z_in; rw [j_clamp hok.1.1]; exact hok.1.2
    have ckb : z_ck b < 2 := by
      unfold z_ck
      by_cases z : b.toInt = 0
      · rw [if_pos z]; decide
      · rw [if_neg z]; decide
    have vm := V.2.2.1 _ _ hin ckb
    have vs := V.2.1
    have vp : 2 ≤ (j_it h0 x (j_pf b)).toInt := by
      rcases j_pf34' b with ⟨_, q⟩ | ⟨_, q⟩
      · rw [q]; exact V.1.1.1
      · rw [q]; exact V.1.2.1
    have hneg : (-(j_ax h0 x 5)).toInt = -(j_it h0 x 5).toInt := by
      have : (j_ax h0 x 5) = j_it h0 x 5 := rfl
      rw [this, Int32.toInt_neg, Int.bmod_def]
      have vs : 0 ≤ (j_it h0 x 5).toInt ∧ (j_it h0 x 5).toInt ≤ 9 := vs
      omega
    have vs : 0 ≤ (j_it h0 x 5).toInt ∧ (j_it h0 x 5).toInt ≤ 9 := vs
    have hc : -9 ≤ c.toInt ∧ c.toInt ≤ 9 := by
      have h1 := hoe.1
      rw [hneg] at h1
      have h2 : c.toInt ≤ (j_it h0 x 5).toInt := h1.2
      omega
    have hd : -9 ≤ d.toInt ∧ d.toInt ≤ 9 := by
      have h1 := hoe.2
      rw [hneg] at h1
      have h2 : d.toInt ≤ (j_it h0 x 5).toInt := h1.2
      omega
    have bm := z_p0b (m := z_cm h0 x a.toNatClampNeg (z_ck b) 0) (c := c) vm.1 (by have := vm.2.2; have := vm.2.1; show (z_cm h0 x a.toNatClampNeg (z_ck b) 0).toInt ≤ 9999; have q1 : (z_cm h0 x a.toNatClampNeg (z_ck b) 0).toInt + (z_cm h0 x a.toNatClampNeg (z_ck b) 1).toInt ≤ 9999 := vm.2.2; have q2 : 0 ≤ (z_cm h0 x a.toNatClampNeg (z_ck b) 1).toInt := vm.2.1; omega) hc.1 hc.2
    have bd := z_p0b (m := z_cm h0 x a.toNatClampNeg (z_ck b) 1) (c := d) vm.2.1 (by have q1 : (z_cm h0 x a.toNatClampNeg (z_ck b) 0).toInt + (z_cm h0 x a.toNatClampNeg (z_ck b) 1).toInt ≤ 9999 := vm.2.2; have q2 : 0 ≤ (z_cm h0 x a.toNatClampNeg (z_ck b) 0).toInt := vm.1; omega) hd.1 hd.2
    rw [← ev7] at bm
    rw [← ev8] at bd
    conv => whnf
    refine ⟨kx10, rfl, _, _, _, _, _, _, c_paceOfx (h := h10) kx10, ⟨Nat.le_of_ble_eq_true rfl, Nat.le_of_ble_eq_true rfl, Nat.le_of_ble_eq_true rfl, Nat.le_of_ble_eq_true rfl⟩, fun _ _ z => False.elim z, ?_⟩
    rintro v9' h11 ⟨e11, zp⟩
    obtain rfl : h10 = h11 := e11.symm
    obtain rfl := z_pfv zp
    have hp10 : j_it h10 x (j_pf b) = j_it h0 x (j_pf b) := sx x (j_nn kx0) _
    conv => whnf
    refine ⟨ka10, rfl, _, _, _, _, _, _, c_dateBx (h := h10) (it := j_it h10) ka10 (by rw [hp10]; exact vp) (by rw [u2]; exact bm.1) (by rw [u2]; exact bm.2) (by rw [u3]; exact bd.1) (by rw [u3]; exact bd.2) (by rw [u4, ey1]; exact vs.1) (by rw [u4, ey1]; exact vs.2), ⟨Nat.le_of_ble_eq_true rfl, Nat.le_of_ble_eq_true rfl, Nat.le_of_ble_eq_true rfl, Nat.le_of_ble_eq_true rfl⟩, fun _ _ z => False.elim z, ?_⟩
    rintro v9' h12 ⟨rfl, e12⟩
    have o12 : j_On (fun _ => False) h0 h12 := by
      rw [e12]
      refine ⟨o10.1, fun q9 hq => ⟨(o10.2 q9 hq).1, (o10.2 q9 hq).2.1, fun hn k => ⟨?_, ((o10.2 q9 hq).2.2 hn k).2⟩⟩⟩
      have n9 : q9 ≠ a9 := fun z => by rw [z] at hq; exact hq ha
      exact (j_u_ne n9).trans ((j_u_ne n9).trans ((o10.2 q9 hq).2.2 hn k).1)
    have kd12 : ∀ q9, j_kd h12 q9 = j_kd h10 q9 := fun q9 => by rw [e12]
    have rf12 : ∀ q9 f, j_rf h12 q9 f = j_rf h10 q9 f := fun q9 f => by rw [e12]
    have it12 : ∀ f, f < 8 → j_it h12 a9 f = j_it h10 a9 f := fun f hf => by
      rw [e12]
      exact (j_u_nk (by omega)).trans (j_u_nk (by omega))
    have g12' : j_G h12 := by
      rw [e12]
      have s8 : j_Sc z_S h10 (j_u (j_u (j_it h10) a9 8 (z_te (j_it h10 x (j_pf b)) (j_it h10 a9 2) (j_it h10 a9 3) (j_it h10 a9 4))) a9 9 (z_tl (j_it h10 x (j_pf b)) (j_it h10 a9 2) (j_it h10 a9 3) (j_it h10 a9 4))) := (j_Sc.rf.put ka10 (show z_S 7 8 = true from rfl)).put ka10 (show z_S 7 9 = true from rfl)
      exact g10.sc s8 z_Sok
    have i8 : j_it h12 a9 8 = z_te (j_it h10 x (j_pf b)) (j_it h10 a9 2) (j_it h10 a9 3) (j_it h10 a9 4) := by
      rw [e12]
      show j_u (j_u (j_it h10) a9 8 (z_te (j_it h10 x (j_pf b)) (j_it h10 a9 2) (j_it h10 a9 3) (j_it h10 a9 4))) a9 9 (z_tl (j_it h10 x (j_pf b)) (j_it h10 a9 2) (j_it h10 a9 3) (j_it h10 a9 4)) a9 8 = _
      exact (j_u_nk (by decide)).trans j_u_at
    have i9 : j_it h12 a9 9 = z_tl (j_it h10 x (j_pf b)) (j_it h10 a9 2) (j_it h10 a9 3) (j_it h10 a9 4) := by
      rw [e12]
      show j_u (j_u (j_it h10) a9 8 (z_te (j_it h10 x (j_pf b)) (j_it h10 a9 2) (j_it h10 a9 3) (j_it h10 a9 4))) a9 9 (z_tl (j_it h10 x (j_pf b)) (j_it h10 a9 2) (j_it h10 a9 3) (j_it h10 a9 4)) a9 9 = _
      exact j_u_at
    clear e12
    obtain ⟨I12, q12, z12, el12⟩ := z_keep w I o12
    have g12 : j_G h12 := g12'
    have w12' := w.keep o12 g12
    have f12 := f.tr (j_Fr.keep w o12 g12)
    have ka12 : j_kd h12 a9 = some (.inl 7) := (kd12 a9).trans ka10
    have eL : j_rf h12 x 1 = some M1 := (((o12.2 x (j_nn kx0)).2.2 (fun z => z) 1).2.2).trans d1
    have kx12 : j_kd h12 x = some (.inl 8) := (kd12 x).trans kx10
    obtain ⟨k2, b0, b1, arr, t, q1, q2, q3, q4, q5, q6⟩ := m1.keep o12 (fun z => z) (fun _ _ => Or.inl (fun z => z))
    have hs12 : j_it h12 M1 2 = j_it h0 M1 2 := ((o12.2 M1 (j_nn m1.1)).2.2 (fun z => z) 2).1
    have hs : (j_it h12 M1 2).toInt < 20 := by rw [hs12]; exact hs
    conv => whnf
    refine ⟨_, rfl, kx12, fun o eo => ?_⟩
    obtain rfl : o = some M1 := eo.symm.trans eL
    conv => whnf
    refine ⟨k2, rfl, _, _, _, _, _, _, c_AL_add_53 k2 q1 q2 q3 q5.2 b0 q4 (by omega) q5.1 (fun j hj => by obtain ⟨y, z1, z2⟩ := q6 j hj; exact ⟨y, z1, Or.inl ⟨_, z2⟩⟩) (Or.inl ⟨_, ka12⟩), ⟨Nat.le_of_ble_eq_true rfl, Nat.le_of_ble_eq_true rfl, Nat.le_of_ble_eq_true rfl, Nat.le_of_ble_eq_true rfl⟩, fun _ _ z => False.elim z, ?_⟩
    rintro v9' h13 ⟨⟨r, rfl⟩, ad⟩
    have w13 := w12'.ad1 eL q1 (by omega) ka12 ad
    have hin12 : z_in h12 x 0 a.toNatClampNeg := by unfold z_in at hin ⊢; rw [z12 0 (by decide)]; exact hin
    have eg12 : z_el h12 x 0 a.toNatClampNeg = g5 := (el12 0 _ (by decide) hin).trans eg
    have lab : j_it h12 (z_el h12 x 0 a.toNatClampNeg) 0 = a := Int32.toInt_inj.mp ((I12.1.1 _ hin12).trans (j_clamp hok.1.1))
    obtain ⟨Iz, qz⟩ := z_newR (g := a.toNatClampNeg) (C := b) (M := v7) (D := v8) w12' I12 eL q1 ad (j_clamp b0) hs ka12 (by rw [it12 0 (by decide), u0, hv, hs12]; exact j_sz_e d1) hin12 (by rw [rf12, r1, eg12]) (by rw [it12 1 (by decide)]; exact u1) (by rw [it12 2 (by decide)]; exact u2) (by rw [it12 3 (by decide)]; exact u3) (by rw [it12 4 (by decide), u4, ey1]; exact ((o12.2 x (j_nn kx0)).2.2 (fun z => z) 5).1.symm) (by rw [it12 5 (by decide), u5, ey2]; exact ((o12.2 x (j_nn kx0)).2.2 (fun z => z) 6).1.symm) (by rw [it12 7 (by decide)]; exact u7) (by
      unfold z_ca
      rw [i8, i9, it12 1 (by decide), it12 2 (by decide), it12 3 (by decide), it12 4 (by decide), u1, hp10, show j_it h12 x (j_pf b) = j_it h0 x (j_pf b) from ((o12.2 x (j_nn kx0)).2.2 (fun z => z) _).1]
      exact ⟨rfl, rfl⟩)
    rw [lab, ev7, ev8] at qz
    conv => whnf
    refine ⟨trivial, ⟨Nat.le_of_ble_eq_true rfl, Nat.le_of_ble_eq_true rfl⟩, ⟨hok, hoe, ?_⟩, by rw [hv], f12.fs.tr (j_Fs.ad w12' (by decide) eL q1 ad w13), Iz, qz.tr (n_runz_c q12 (by show (j_sz h12 x 1).toInt < 100; rw [j_sz_e eL]; omega))⟩
    rw [← f12.2.2.2 1 rfl, show j_ax h12 x 1 = j_it h12 M1 2 from j_sz_e eL]
    exact hs
  refine hJ [147] 400 _ _ _ _ _ _ ?_
  conv => whnf
  refine ⟨kx, rfl, _, _, _, _, _, _, c_isGrainx hW e0, ⟨Nat.le_of_ble_eq_true rfl, Nat.le_of_ble_eq_true rfl, Nat.le_of_ble_eq_true rfl, Nat.le_of_ble_eq_true rfl⟩, fun _ _ z => False.elim z, ?_⟩
  rintro v9 h9 ⟨e9, r1, rfl, zr1⟩
  obtain rfl : h = h9 := e9.symm
  conv => whnf
  refine ⟨fun c3 => ?_, fun c3 => ?_⟩
  · have c3 : r1.toInt = 0 := c3
    have ka : ¬ (0 ≤ a.toInt ∧ a.toInt < (j_ax h x 0).toInt) := by
      rw [eG]
      rcases zr1 with ⟨-, q⟩ | ⟨q, -⟩
      · rw [q, z1] at c3; exact absurd c3 (by decide)
      · exact q
    conv => whnf
    exact ⟨⟨Nat.le_of_ble_eq_true rfl, Nat.le_of_ble_eq_true rfl⟩, ⟨Nat.le_of_ble_eq_true rfl, Nat.le_of_ble_eq_true rfl⟩, Or.inl ⟨rfl, fun z => ka z.1⟩, rfl⟩
  · have c3 : ¬ r1.toInt = 0 := c3
    have ka : 0 ≤ a.toInt ∧ a.toInt < (j_ax h x 0).toInt := by
      rw [eG]
      rcases zr1 with ⟨q, -⟩ | ⟨-, q⟩
      · exact q
      · rw [q, z0] at c3; exact absurd rfl c3
    have ka' : 0 ≤ a.toInt ∧ a.toInt < (j_it h L0 2).toInt := by rw [← eG]; exact ka
    conv => whnf
    refine ⟨rfl, _, _, _, _, _, _, c_isClockx, ⟨Nat.le_of_ble_eq_true rfl, Nat.le_of_ble_eq_true rfl, Nat.le_of_ble_eq_true rfl, Nat.le_of_ble_eq_true rfl⟩, fun _ _ z => False.elim z, ?_⟩
    rintro v9 h9 ⟨e9, r4, rfl, zr4⟩
    obtain rfl : h = h9 := e9.symm
    conv => whnf
    refine ⟨fun c5 => ?_, fun c5 => ?_⟩
    rotate_left
    · have c5 : ¬ ¬ r4.toInt = 0 := c5
      have kb : ¬ (b.toInt = 0 ∨ b.toInt = 1) := by
        rcases zr4 with ⟨-, q⟩ | ⟨q, -⟩
        · rw [q, z1] at c5; exact absurd (by decide) c5
        · exact q
      conv => whnf
      exact ⟨⟨Nat.le_of_ble_eq_true rfl, Nat.le_of_ble_eq_true rfl⟩, ⟨Nat.le_of_ble_eq_true rfl, Nat.le_of_ble_eq_true rfl⟩, Or.inl ⟨rfl, fun z => kb z.2⟩, rfl⟩
    have c5 : ¬ r4.toInt = 0 := c5
    have kb : b.toInt = 0 ∨ b.toInt = 1 := by
      rcases zr4 with ⟨q, -⟩ | ⟨-, q⟩
      · exact q
      · rw [q, z0] at c5; exact absurd rfl c5
    have hok : j_okr (j_ax h x) a b := ⟨ka, kb⟩
    conv => whnf
    refine ⟨_, rfl, kx, fun x6 ex6 => ?_⟩
    obtain rfl : x6 = j_it h x 5 := ex6.symm
    conv => whnf
    refine ⟨_, rfl, kx, fun x7 ex7 => ?_⟩
    obtain rfl : x7 = j_it h x 5 := ex7.symm
    conv => whnf
    refine ⟨rfl, _, _, _, _, _, _, c_within, ⟨Nat.le_of_ble_eq_true rfl, Nat.le_of_ble_eq_true rfl, Nat.le_of_ble_eq_true rfl, Nat.le_of_ble_eq_true rfl⟩, fun _ _ z => False.elim z, ?_⟩
    rintro v9 h9 ⟨e9, r8, rfl, zr8⟩
    obtain rfl : h = h9 := e9.symm
    conv => whnf
    refine ⟨fun c9 => ?_, fun c9 => ?_⟩
    · have c9 : r8.toInt = 0 := c9
      have kc : ¬ ((-(j_ax h x 5)).toInt ≤ c.toInt ∧ c.toInt ≤ (j_ax h x 5).toInt) := by
        rcases zr8 with ⟨-, -, q⟩ | ⟨q, -⟩
        · rw [q, z1] at c9; exact absurd c9 (by decide)
        · exact q
      conv => whnf
      exact ⟨⟨Nat.le_of_ble_eq_true rfl, Nat.le_of_ble_eq_true rfl⟩, ⟨Nat.le_of_ble_eq_true rfl, Nat.le_of_ble_eq_true rfl⟩, Or.inr (Or.inl ⟨rfl, hok, fun z => kc z.1⟩), rfl⟩
    · have c9 : ¬ r8.toInt = 0 := c9
      have kc : (-(j_ax h x 5)).toInt ≤ c.toInt ∧ c.toInt ≤ (j_ax h x 5).toInt := by
        rcases zr8 with ⟨q1, q2, -⟩ | ⟨-, q⟩
        · exact ⟨q1, q2⟩
        · rw [q, z0] at c9; exact absurd rfl c9
      conv => whnf
      refine ⟨_, rfl, kx, fun x10 ex10 => ?_⟩
      obtain rfl : x10 = j_it h x 5 := ex10.symm
      conv => whnf
      refine ⟨_, rfl, kx, fun x11 ex11 => ?_⟩
      obtain rfl : x11 = j_it h x 5 := ex11.symm
      conv => whnf
      refine ⟨rfl, _, _, _, _, _, _, c_within, ⟨Nat.le_of_ble_eq_true rfl, Nat.le_of_ble_eq_true rfl, Nat.le_of_ble_eq_true rfl, Nat.le_of_ble_eq_true rfl⟩, fun _ _ z => False.elim z, ?_⟩
      rintro v9 h9 ⟨e9, r12, rfl, zr12⟩
      obtain rfl : h = h9 := e9.symm
      conv => whnf
      refine ⟨fun c13 => ?_, fun c13 => ?_⟩
      rotate_left
      · have c13 : ¬ ¬ r12.toInt = 0 := c13
        have kd : ¬ ((-(j_ax h x 5)).toInt ≤ d.toInt ∧ d.toInt ≤ (j_ax h x 5).toInt) := by
          rcases zr12 with ⟨-, -, q⟩ | ⟨q, -⟩
          · rw [q, z1] at c13; exact absurd (by decide) c13
          · exact q
        conv => whnf
        exact ⟨⟨Nat.le_of_ble_eq_true rfl, Nat.le_of_ble_eq_true rfl⟩, ⟨Nat.le_of_ble_eq_true rfl, Nat.le_of_ble_eq_true rfl⟩, Or.inr (Or.inl ⟨rfl, hok, fun z => kd z.2⟩), rfl⟩
      have c13 : ¬ r12.toInt = 0 := c13
      have kd : (-(j_ax h x 5)).toInt ≤ d.toInt ∧ d.toInt ≤ (j_ax h x 5).toInt := by
        rcases zr12 with ⟨q1, q2, -⟩ | ⟨-, q⟩
        · exact ⟨q1, q2⟩
        · rw [q, z0] at c13; exact absurd rfl c13
      have hoe : j_oke (j_ax h x) c d := ⟨kc, kd⟩
      conv => whnf
      refine ⟨_, rfl, kx, fun o14 eo => ?_⟩
      obtain rfl : o14 = some L1 := eo.symm.trans e1
      conv => whnf
      refine ⟨l1.1, rfl, _, _, _, _, _, _, c_AL_size (h := h) l1 j_Sc.rf j_sf_ok, ⟨Nat.le_of_ble_eq_true rfl, Nat.le_of_ble_eq_true rfl, Nat.le_of_ble_eq_true rfl, Nat.le_of_ble_eq_true rfl⟩, fun _ _ z => False.elim z, ?_⟩
      rintro v9 h9 ⟨e9, rfl⟩
      obtain rfl : h = h9 := e9.symm
      conv => whnf
      refine ⟨fun c16 => ?_, fun c16 => ?_⟩
      rotate_left
      · have c16 : ¬ (j_it h L1 2).toInt < (Int32.ofInt 20).toInt := c16
        rw [z20] at c16
        conv => whnf
        exact ⟨⟨Nat.le_of_ble_eq_true rfl, Nat.le_of_ble_eq_true rfl⟩, ⟨Nat.le_of_ble_eq_true rfl, Nat.le_of_ble_eq_true rfl⟩, Or.inr (Or.inr ⟨rfl, hok, hoe, by rw [eA]; exact c16⟩), rfl⟩
      have c16 : (j_it h L1 2).toInt < (Int32.ofInt 20).toInt := c16
      rw [z20] at c16
      conv => whnf
      refine ⟨_, rfl, kx, fun o17 eo => ?_⟩
      obtain rfl : o17 = some L0 := eo.symm.trans e0
      conv => whnf
      refine ⟨l0.1, rfl, _, _, _, _, _, _, c_AL_get (h := h) l0 j_Sc.rf j_sf_ok ka'.1 ka'.2, ⟨Nat.le_of_ble_eq_true rfl, Nat.le_of_ble_eq_true rfl, Nat.le_of_ble_eq_true rfl, Nat.le_of_ble_eq_true rfl⟩, fun _ _ z => False.elim z, ?_⟩
      rintro v9 h9 ⟨e9, g18, rfl, kg18, xg18⟩
      obtain rfl : h = h9 := e9.symm
      conv => whnf
      refine ⟨Or.inr ⟨_, rfl, kg18⟩, ?_⟩
      conv => whnf
      have hin : z_in h x 0 a.toNatClampNeg := by unfold z_in; rw [j_clamp hok.1.1]; exact hok.1.2
      obtain ⟨rr0, kk0⟩ := z_km hW hin (show 0 < 2 by decide)
      obtain ⟨rr1, kk1⟩ := z_km hW hin (show 1 < 2 by decide)
      have he : z_el h x 0 a.toNatClampNeg = g18 := z_el_get e0 xg18
      rw [he] at rr0 kk0 rr1 kk1
      refine ⟨kg18, rfl, _, _, _, _, _, _, c_Grain_ofx kg18 rr0 rr1, ⟨Nat.le_of_ble_eq_true rfl, Nat.le_of_ble_eq_true rfl, Nat.le_of_ble_eq_true rfl, Nat.le_of_ble_eq_true rfl⟩, fun _ _ z => False.elim z, ?_⟩
      rintro v9 h9 ⟨e9, rfl⟩
      obtain rfl : h = h9 := e9.symm
      have em : (if b.toInt = 0 then z_mo h g18 0 else z_mo h g18 1) = z_mo h g18 (z_ck b) := by
        unfold z_ck
        by_cases z : b.toInt = 0
        · rw [if_pos z, if_pos z]
        · rw [if_neg z, if_neg z]
      rw [em]
      have kmb : j_kd h (z_mo h g18 (z_ck b)) = some (.inl 5) := by
        rw [← em]
        by_cases z : b.toInt = 0
        · rw [if_pos z]; exact kk0
        · rw [if_neg z]; exact kk1
      conv => whnf
      refine ⟨_, rfl, kmb, fun x21 ex21 => ?_⟩
      obtain rfl : x21 = z_cm h x a.toNatClampNeg (z_ck b) 0 := ex21.symm.trans (by unfold z_cm; rw [he]; rfl)
      conv => whnf
      refine ⟨⟨Nat.le_of_ble_eq_true rfl, Nat.le_of_ble_eq_true rfl, Nat.le_of_ble_eq_true rfl, Nat.le_of_ble_eq_true rfl⟩, ?_⟩
      conv => whnf
      refine ⟨_, rfl, kmb, fun x22 ex22 => ?_⟩
      obtain rfl : x22 = z_cm h x a.toNatClampNeg (z_ck b) 1 := ex22.symm.trans (by unfold z_cm; rw [he]; rfl)
      conv => whnf
      refine ⟨⟨Nat.le_of_ble_eq_true rfl, Nat.le_of_ble_eq_true rfl, Nat.le_of_ble_eq_true rfl, Nat.le_of_ble_eq_true rfl⟩, ?_⟩
      conv => whnf
      refine ⟨_, rfl, kx, fun o23 eo => ?_⟩
      obtain rfl : o23 = some L1 := eo.symm.trans e1
      conv => whnf
      refine ⟨l1.1, rfl, _, _, _, _, _, _, c_AL_size (h := h) l1 j_Sc.rf j_sf_ok, ⟨Nat.le_of_ble_eq_true rfl, Nat.le_of_ble_eq_true rfl, Nat.le_of_ble_eq_true rfl, Nat.le_of_ble_eq_true rfl⟩, fun _ _ z => False.elim z, ?_⟩
      rintro v9 h9 ⟨e9, rfl⟩
      obtain rfl : h = h9 := e9.symm
      exact j_use hF (G147 h g18 _ _ _ rfl he rfl rfl eA.symm hok hoe hW (j_Fr.keep hW j_On.rf hG) (fun L eL => by obtain rfl : L1 = L := Option.some.inj (e1.symm.trans eL); exact c16) kg18) (And.intro rfl (And.intro rfl (And.intro rfl (And.intro rfl (And.intro rfl (And.intro rfl (And.intro rfl (And.intro rfl (And.intro rfl trivial)))))))))
