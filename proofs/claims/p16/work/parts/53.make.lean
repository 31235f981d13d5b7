/-- what may be told of a grain that is born; of a run -/
def j_okg (a b c : Int32) : Prop := (0 ≤ a.toInt ∧ a.toInt ≤ 9999) ∧ (0 ≤ b.toInt ∧ b.toInt ≤ 9999) ∧ (0 ≤ c.toInt ∧ c.toInt ≤ 5)
set_option maxHeartbeats 4000000 in
set_option maxRecDepth 20000 in
theorem c_G_grainx {h : j_H} {x : Nat} {a : Int32} {b : Int32} {c : Int32} (hW : j_WF h x) : j_Ct 101 7 157 4 58 [j_r (some x), j_i a, j_i b, j_i c] h (fun v h' => (j_okg a b c ∧ (j_ax h x 0).toInt < 8) ∧ v = some (j_i (j_ax h x 0)) ∧ j_Fs x h h' ∧ j_At h' x (j_u1 (j_ax h x) 0 (j_ax h x 0 + Int32.ofInt 1))) (fun k h' => ((k = 0 ∧ ¬ j_okg a b c) ∨ (k = 1 ∧ j_okg a b c ∧ ¬ (j_ax h x 0).toInt < 8)) ∧ h' = h) := by
  refine j_intro km_101 (Nat.le_of_ble_eq_true rfl) ?_
  intro J hJ hF
  obtain ⟨kx, hG, L0, L1, L2, e0, l0, e1, l1, e2, l2, ap, pn⟩ := id hW
  have b0 := l0.2.1; have b1 := l1.2.1; have b2 := l2.2.1; have d0 := l0.2.2.1; have d1 := l1.2.2.1; have d2 := l2.2.2.1
  have z0 : (Int32.ofInt 0).toInt = 0 := by decide
  have z1 : (Int32.ofInt 1).toInt = 1 := by decide
  have z5 : (Int32.ofInt 5).toInt = 5 := by decide
  have z8 : (Int32.ofInt 8).toInt = 8 := by decide
  have z9999 : (Int32.ofInt 9999).toInt = 9999 := by decide
  have eA : j_ax h x 0 = j_it h L0 2 := j_sz_e e0
  have G72 : ∀ (h0 : j_H) (v4 : Int32), v4 = j_ax h x 0 → j_okg a b c → j_WF h0 x → j_Fr x h h0 → (∀ L, j_rf h0 x 0 = some L → (j_it h0 L 2).toInt < 8) → J 72 [some (j_r (some x)), some (j_i a), some (j_i b), some (j_i c), some (j_i v4)] [] h0 0 0 := by
    intro h0 v4 hv hok w f hs
    obtain ⟨kx0, g0, M0, M1, M2, d0, m0, -⟩ := id w
    have hs := hs M0 d0
    refine hJ [] 400 _ _ _ _ _ _ ?_
    conv => whnf
    refine ⟨_, rfl, kx0, fun o eo => ?_⟩
    obtain rfl : o = some M0 := eo.symm.trans d0
    conv => whnf
    refine ⟨⟨Nat.le_of_ble_eq_true rfl, Nat.le_of_ble_eq_true rfl⟩, fun a9 ha => ?_⟩
    conv => whnf
    refine ⟨⟨Nat.le_of_ble_eq_true rfl, Nat.le_of_ble_eq_true rfl⟩, fun y1 h1 => ?_⟩
    obtain ⟨n1, h1'⟩ := j_fresh h1
    conv => whnf
    refine ⟨trivial, rfl, _, _, _, _, _, _, c_Motes_init (if_pos rfl), ⟨Nat.le_of_ble_eq_true rfl, Nat.le_of_ble_eq_true rfl, Nat.le_of_ble_eq_true rfl, Nat.le_of_ble_eq_true rfl⟩, fun _ _ z => False.elim z, ?_⟩
    rintro v9 h9 ⟨rfl, f1, f1k, -⟩
    conv => whnf
    refine ⟨⟨Nat.le_of_ble_eq_true rfl, Nat.le_of_ble_eq_true rfl⟩, fun y2 h2 => ?_⟩
    have h2' : j_kd h0 y2 = none ∧ y2 ≠ a9 ∧ y2 ≠ y1 := by
      obtain ⟨q1, q2⟩ := j_fresh ((f1k y2).symm.trans h2)
      obtain ⟨q3, q4⟩ := j_fresh q2
      exact ⟨q4, q3, q1⟩
    conv => whnf
    refine ⟨trivial, rfl, _, _, _, _, _, _, c_Motes_init (if_pos rfl), ⟨Nat.le_of_ble_eq_true rfl, Nat.le_of_ble_eq_true rfl, Nat.le_of_ble_eq_true rfl, Nat.le_of_ble_eq_true rfl⟩, fun _ _ z => False.elim z, ?_⟩
    rintro v9 h10 ⟨rfl, f2, f2k, -⟩
    have o10 : j_On (fun q => q = a9 ∨ q = y1 ∨ q = y2) h0 h10 := ((((j_On.nw ha).trans (j_On.nw h1)).trans (f1.mono fun _ _ z => Or.inr (Or.inl z))).trans (j_On.nw h2)).trans (f2.mono fun _ _ z => Or.inr (Or.inr z))
    have kx10 : j_kd h10 x = some (.inl 8) := ((o10.2 x (j_nn kx0)).1).trans kx0
    have old10 : ∀ q, q ≠ y2 → q ≠ y1 → j_kd h10 q = if q = a9 then some (.inl 4) else j_kd h0 q := fun q z2 z1 => by
      rw [f2k]
      exact (if_neg z2).trans ((f1k q).trans (if_neg z1))
    have ka10 : j_kd h10 a9 = some (.inl 4) := (old10 a9 (fun z => h2'.2.1 z.symm) (fun z => n1 z.symm)).trans (if_pos rfl)
    have ky1 : j_kd h10 y1 = some (.inl 5) := by
      rw [f2k]
      exact (if_neg (fun z => h2'.2.2 z.symm)).trans ((f1k y1).trans (if_pos rfl))
    have ky2 : j_kd h10 y2 = some (.inl 5) := by
      rw [f2k]
      exact if_pos rfl
    conv => whnf
    refine ⟨_, rfl, kx10, fun y _ => ?_⟩
    conv => whnf
    refine ⟨trivial, rfl, _, _, _, _, _, _, c_Grain_init ka10, ⟨Nat.le_of_ble_eq_true rfl, Nat.le_of_ble_eq_true rfl, Nat.le_of_ble_eq_true rfl, Nat.le_of_ble_eq_true rfl⟩, fun _ _ z => False.elim z, ?_⟩
    rintro v9 h11 ⟨rfl, ⟨f3, f3k, f3s⟩, r1, r2⟩
    have o11 : j_On (fun _ => False) h0 h11 := (o10.trans (f3.mono fun _ _ z => Or.inl z)).mono (fun q hq z => by
      rcases z with rfl | rfl | rfl
      · exact hq ha
      · exact hq h1'
      · exact hq h2'.1)
    have ka11 : j_kd h11 a9 = some (.inl 4) := (f3k a9).trans ka10
    have ky1' : j_kd h11 y1 = some (.inl 5) := (f3k y1).trans ky1
    have ky2' : j_kd h11 y2 = some (.inl 5) := (f3k y2).trans ky2
    have g11 : j_G h11 := by
      refine g0.new (fun q => q = a9 ∨ q = y1 ∨ q = y2) o11 (fun q hq => ?_) ?_ ?_ ?_ ?_ ?_
      · rw [f3k]
        exact (old10 q (fun z => hq (Or.inr (Or.inr z))) (fun z => hq (Or.inr (Or.inl z)))).trans (if_neg (fun z => hq (Or.inl z)))
      · rintro q (rfl | rfl | rfl) hk
        · exact ⟨y1, r1, ky1'⟩
        · rw [ky1'] at hk; cases hk
        · rw [ky2'] at hk; cases hk
      · rintro q (rfl | rfl | rfl) hk
        · exact ⟨y2, r2, ky2'⟩
        · rw [ky1'] at hk; cases hk
        · rw [ky2'] at hk; cases hk
      all_goals
        rintro q (rfl | rfl | rfl) hk
        · rw [ka11] at hk; cases hk
        · rw [ky1'] at hk; cases hk
        · rw [ky2'] at hk; cases hk
    have w11 := w.keep o11 g11
    have f11 := f.tr (j_Fr.keep w o11 g11)
    have eL : j_rf h11 x 0 = some M0 := (((o11.2 x (j_nn kx0)).2.2 (fun z => z) 0).2.2).trans d0
    obtain ⟨k2, b0, b1, arr, t, q1, q2, q3, q4, q5, q6⟩ := m0.keep o11 (fun z => z) (fun _ _ => Or.inl (fun z => z))
    have hs11 : j_it h11 M0 2 = j_it h0 M0 2 := ((o11.2 M0 (j_nn m0.1)).2.2 (fun z => z) 2).1
    have hs : (j_it h11 M0 2).toInt < 8 := by rw [hs11]; exact hs
    conv => whnf
    refine ⟨k2, rfl, _, _, _, _, _, _, c_AL_add_53 k2 q1 q2 q3 q5.2 b0 q4 (by omega) q5.1 (fun j hj => by obtain ⟨y, z1, z2⟩ := q6 j hj; exact ⟨y, z1, Or.inl ⟨_, z2⟩⟩) (Or.inl ⟨_, ka11⟩), ⟨Nat.le_of_ble_eq_true rfl, Nat.le_of_ble_eq_true rfl, Nat.le_of_ble_eq_true rfl, Nat.le_of_ble_eq_true rfl⟩, fun _ _ z => False.elim z, ?_⟩
    rintro v9 h12 ⟨⟨r, rfl⟩, ad⟩
    have w12 := w11.ad0 eL q1 (by omega) ka11 ad
    conv => whnf
    refine ⟨trivial, ⟨Nat.le_of_ble_eq_true rfl, Nat.le_of_ble_eq_true rfl⟩, ⟨hok, ?_⟩, by rw [hv], f11.fs.tr (j_Fs.ad w11 (by decide) eL q1 ad w12), fun j hj => ?_⟩
    · rw [← f11.2.2.2 0 rfl, show j_ax h11 x 0 = j_it h11 M0 2 from j_sz_e eL]; exact hs
    · rw [ad.ax w11 (by decide) eL q1 j hj]
      unfold j_u1
      by_cases z : j = 0
      · rw [if_pos z, if_pos z, f11.2.2.2 0 rfl]
      · rw [if_neg z, if_neg z]; exact f11.2.2.2 j hj
  refine hJ [72] 400 _ _ _ _ _ _ ?_
  conv => whnf
  refine ⟨rfl, _, _, _, _, _, _, c_within, ⟨Nat.le_of_ble_eq_true rfl, Nat.le_of_ble_eq_true rfl, Nat.le_of_ble_eq_true rfl, Nat.le_of_ble_eq_true rfl⟩, fun _ _ z => False.elim z, ?_⟩
  rintro v9 h9 ⟨e9, r1, rfl, zr1⟩
  obtain rfl : h = h9 := e9.symm
  conv => whnf
  refine ⟨fun c1 => ?_, fun c1 => ?_⟩
  · have c1 : r1.toInt = 0 := c1
    have k1 : ¬ (0 ≤ a.toInt ∧ a.toInt ≤ 9999) := by
      rcases zr1 with ⟨-, -, q⟩ | ⟨q, -⟩
      · rw [q, z1] at c1; exact absurd c1 (by decide)
      · intro z
        refine q ⟨?_, ?_⟩
        · show (Int32.ofInt 0).toInt ≤ _; rw [z0]; exact z.1
        · show _ ≤ (Int32.ofInt 9999).toInt; rw [z9999]; exact z.2
    conv => whnf
    exact ⟨⟨Nat.le_of_ble_eq_true rfl, Nat.le_of_ble_eq_true rfl⟩, ⟨Nat.le_of_ble_eq_true rfl, Nat.le_of_ble_eq_true rfl⟩, Or.inl ⟨rfl, fun z => k1 z.1⟩, rfl⟩
  · have c1 : ¬ r1.toInt = 0 := c1
    have k1 : 0 ≤ a.toInt ∧ a.toInt ≤ 9999 := by
      rcases zr1 with ⟨q1, q2, -⟩ | ⟨-, q⟩
      · have q1 : (Int32.ofInt 0).toInt ≤ a.toInt := q1
        have q2 : a.toInt ≤ (Int32.ofInt 9999).toInt := q2
        rw [z0] at q1
        rw [z9999] at q2
        exact ⟨q1, q2⟩
      · rw [q, z0] at c1; exact absurd rfl c1
    conv => whnf
    refine ⟨rfl, _, _, _, _, _, _, c_within, ⟨Nat.le_of_ble_eq_true rfl, Nat.le_of_ble_eq_true rfl, Nat.le_of_ble_eq_true rfl, Nat.le_of_ble_eq_true rfl⟩, fun _ _ z => False.elim z, ?_⟩
    rintro v9 h9 ⟨e9, r2, rfl, zr2⟩
    obtain rfl : h = h9 := e9.symm
    conv => whnf
    refine ⟨fun c2 => ?_, fun c2 => ?_⟩
    · have c2 : r2.toInt = 0 := c2
      have k2 : ¬ (0 ≤ b.toInt ∧ b.toInt ≤ 9999) := by
        rcases zr2 with ⟨-, -, q⟩ | ⟨q, -⟩
        · rw [q, z1] at c2; exact absurd c2 (by decide)
        · intro z
          refine q ⟨?_, ?_⟩
          · show (Int32.ofInt 0).toInt ≤ _; rw [z0]; exact z.1
          · show _ ≤ (Int32.ofInt 9999).toInt; rw [z9999]; exact z.2
      conv => whnf
      exact ⟨⟨Nat.le_of_ble_eq_true rfl, Nat.le_of_ble_eq_true rfl⟩, ⟨Nat.le_of_ble_eq_true rfl, Nat.le_of_ble_eq_true rfl⟩, Or.inl ⟨rfl, fun z => k2 z.2.1⟩, rfl⟩
    · have c2 : ¬ r2.toInt = 0 := c2
      have k2 : 0 ≤ b.toInt ∧ b.toInt ≤ 9999 := by
        rcases zr2 with ⟨q1, q2, -⟩ | ⟨-, q⟩
        · have q1 : (Int32.ofInt 0).toInt ≤ b.toInt := q1
          have q2 : b.toInt ≤ (Int32.ofInt 9999).toInt := q2
          rw [z0] at q1
          rw [z9999] at q2
          exact ⟨q1, q2⟩
        · rw [q, z0] at c2; exact absurd rfl c2
      conv => whnf
      refine ⟨rfl, _, _, _, _, _, _, c_within, ⟨Nat.le_of_ble_eq_true rfl, Nat.le_of_ble_eq_true rfl, Nat.le_of_ble_eq_true rfl, Nat.le_of_ble_eq_true rfl⟩, fun _ _ z => False.elim z, ?_⟩
      rintro v9 h9 ⟨e9, r3, rfl, zr3⟩
      obtain rfl : h = h9 := e9.symm
      conv => whnf
      refine ⟨fun c3 => ?_, fun c3 => ?_⟩
      rotate_left
      · have c3 : ¬ ¬ r3.toInt = 0 := c3
        have k3 : ¬ (0 ≤ c.toInt ∧ c.toInt ≤ 5) := by
          rcases zr3 with ⟨-, -, q⟩ | ⟨q, -⟩
          · rw [q, z1] at c3; exact absurd (by decide) c3
          · intro z
            refine q ⟨?_, ?_⟩
            · show (Int32.ofInt 0).toInt ≤ _; rw [z0]; exact z.1
            · show _ ≤ (Int32.ofInt 5).toInt; rw [z5]; exact z.2
        conv => whnf
        exact ⟨⟨Nat.le_of_ble_eq_true rfl, Nat.le_of_ble_eq_true rfl⟩, ⟨Nat.le_of_ble_eq_true rfl, Nat.le_of_ble_eq_true rfl⟩, Or.inl ⟨rfl, fun z => k3 z.2.2⟩, rfl⟩
      have c3 : ¬ r3.toInt = 0 := c3
      have k3 : 0 ≤ c.toInt ∧ c.toInt ≤ 5 := by
        rcases zr3 with ⟨q1, q2, -⟩ | ⟨-, q⟩
        · have q1 : (Int32.ofInt 0).toInt ≤ c.toInt := q1
          have q2 : c.toInt ≤ (Int32.ofInt 5).toInt := q2
          rw [z0] at q1
          rw [z5] at q2
          exact ⟨q1, q2⟩
        · rw [q, z0] at c3; exact absurd rfl c3
      have hok : j_okg a b c := ⟨k1, k2, k3⟩
      conv => whnf
      refine ⟨_, rfl, kx, fun o7 eo => ?_⟩
      obtain rfl : o7 = some L0 := eo.symm.trans e0
      conv => whnf
      refine ⟨l0.1, rfl, _, _, _, _, _, _, c_AL_size (h := h) l0 j_Sc.rf j_sf_ok, ⟨Nat.le_of_ble_eq_true rfl, Nat.le_of_ble_eq_true rfl, Nat.le_of_ble_eq_true rfl, Nat.le_of_ble_eq_true rfl⟩, fun _ _ z => False.elim z, ?_⟩
      rintro v9 h9 ⟨e9, rfl⟩
      obtain rfl : h = h9 := e9.symm
      conv => whnf
      refine ⟨fun c9 => ?_, fun c9 => ?_⟩
      · have c9 : (j_it h L0 2).toInt < (Int32.ofInt 8).toInt := c9
        rw [z8] at c9
        conv => whnf
        refine ⟨_, rfl, kx, fun o10 eo => ?_⟩
        obtain rfl : o10 = some L0 := eo.symm.trans e0
        conv => whnf
        refine ⟨l0.1, rfl, _, _, _, _, _, _, c_AL_size (h := h) l0 j_Sc.rf j_sf_ok, ⟨Nat.le_of_ble_eq_true rfl, Nat.le_of_ble_eq_true rfl, Nat.le_of_ble_eq_true rfl, Nat.le_of_ble_eq_true rfl⟩, fun _ _ z => False.elim z, ?_⟩
        rintro v9 h9 ⟨e9, rfl⟩
        obtain rfl : h = h9 := e9.symm
        exact j_use hF (G72 h _ eA.symm hok hW (j_Fr.keep hW j_On.rf hG) (fun L eL => by obtain rfl : L0 = L := Option.some.inj (e0.symm.trans eL); exact c9)) (And.intro rfl (And.intro rfl (And.intro rfl (And.intro rfl (And.intro rfl trivial)))))
      · have c9 : ¬ (j_it h L0 2).toInt < (Int32.ofInt 8).toInt := c9
        rw [z8] at c9
        conv => whnf
        exact ⟨⟨Nat.le_of_ble_eq_true rfl, Nat.le_of_ble_eq_true rfl⟩, ⟨Nat.le_of_ble_eq_true rfl, Nat.le_of_ble_eq_true rfl⟩, Or.inr ⟨rfl, hok, by rw [eA]; exact c9⟩, rfl⟩
set_option maxHeartbeats 4000000 in
set_option maxRecDepth 20000 in
theorem c_G_print {h : j_H} {it : Nat → Nat → Int32} {x : Nat} {a : Int32} {b : Int32} (hW : j_WF h x) (sc : j_Sc j_sf h it)  : j_Ct 130 7 157 2 44 [j_r (some x), j_i a, j_i b] (j_wi h it) (fun v h' => (∃ r, v = some (j_i r)) ∧ j_Fr x h h') (fun k h' => k ∈ [1, 2] ∧ ∃ it', h' = j_wi h it' ∧ j_Sc j_sf h it') := by
  refine j_intro km_130 (Nat.le_of_ble_eq_true rfl) ?_
  intro J hJ hF
  obtain ⟨kx, hG, L0, L1, L2, e0, l0, e1, l1, e2, l2, ap, pn⟩ := id hW
  have b0 := l0.2.1; have b1 := l1.2.1; have b2 := l2.2.1; have d0 := l0.2.2.1; have d1 := l1.2.2.1; have d2 := l2.2.2.1
  have G106 : ∀ (h0 : j_H) (g3 : Nat) (q4 : Option Nat), j_WF h0 x → j_Fr x h h0 → (∀ L, j_rf h0 x 2 = some L → (j_it h0 L 2).toInt < 10) → j_kd h0 g3 = some (.inl 7) → (q4 = none ∨ ∃ b, q4 = some b ∧ j_kd h0 b = some (.inl 6) ∧ ∀ L, j_rf h0 x 2 = some L → 0 ≤ (j_it h0 b 0).toInt ∧ (j_it h0 b 0).toInt < (j_it h0 L 2).toInt) → J 106 [some (j_r (some x)), some (j_i a), some (j_i b), some (j_r (some g3)), some (j_r q4), none] [] h0 0 0 := by
    intro h0 g3 q4 w f hs k3 hq4
    obtain ⟨kx0, g0, M0, M1, M2, d0, m0, d1, m1, d2, m2, -⟩ := id w
    have hs := hs M2 d2
    refine hJ [] 400 _ _ _ _ _ _ ?_
    conv => whnf
    refine ⟨_, rfl, kx0, fun o eo => ?_⟩
    obtain rfl : o = some M2 := eo.symm.trans d2
    conv => whnf
    refine ⟨m2.1, rfl, _, _, _, _, _, _, c_AL_size (h := h0) m2 j_Sc.rf j_sf_ok, ⟨Nat.le_of_ble_eq_true rfl, Nat.le_of_ble_eq_true rfl, Nat.le_of_ble_eq_true rfl, Nat.le_of_ble_eq_true rfl⟩, fun _ _ z => False.elim z, ?_⟩
    rintro v9 h9 ⟨e9, rfl⟩
    obtain rfl : h9 = h0 := e9
    conv => whnf
    refine ⟨_, rfl, kx0, fun o eo => ?_⟩
    obtain rfl : o = some M2 := eo.symm.trans d2
    conv => whnf
    refine ⟨⟨Nat.le_of_ble_eq_true rfl, Nat.le_of_ble_eq_true rfl⟩, fun a9 ha => ?_⟩
    have n3 : g3 ≠ a9 := fun z => by rw [z, ha] at k3; cases k3
    have nx : x ≠ a9 := fun z => by rw [z, ha] at kx0; cases kx0
    conv => whnf
    refine ⟨_, rfl, (if_neg n3).trans k3, fun y _ => ?_⟩
    conv => whnf
    refine ⟨(if_neg nx).trans kx0, rfl, _, _, _, _, _, _, c_G_paceOf (h := j_nw h9 a9 (.inl 6) 0) ((if_neg nx).trans kx0), ⟨Nat.le_of_ble_eq_true rfl, Nat.le_of_ble_eq_true rfl, Nat.le_of_ble_eq_true rfl, Nat.le_of_ble_eq_true rfl⟩, fun _ _ z => False.elim z, ?_⟩
    rintro v9 h10 ⟨rfl, r, rfl⟩
    conv => whnf
    refine ⟨trivial, rfl, _, _, _, _, _, _, c_Print_init (if_pos rfl), ⟨Nat.le_of_ble_eq_true rfl, Nat.le_of_ble_eq_true rfl, Nat.le_of_ble_eq_true rfl, Nat.le_of_ble_eq_true rfl⟩, fun _ _ z => False.elim z, ?_⟩
    rintro v9 h11 ⟨rfl, ⟨f3, f3k, f3s⟩, r1, r3, i0⟩
    have o11 : j_On (fun _ => False) h9 h11 := (((j_On.nw (S := fun q => q = a9) ha)).trans f3).mono (fun q hq z => hq (by rw [z]; exact ha))
    have ka11 : j_kd h11 a9 = some (.inl 6) := (f3k a9).trans (if_pos rfl)
    have up : ∀ q s, j_kd h9 q = some s → j_kd h11 q = some s := fun q s hq => ((o11.2 q (j_nn hq)).1).trans hq
    have g11 : j_G h11 := by
      refine g0.new (fun q => q = a9) o11 (fun q hq => (f3k q).trans (if_neg hq)) ?_ ?_ ?_ ?_ ?_
      · rintro q rfl hk
        rw [ka11] at hk; cases hk
      · rintro q rfl hk
        rw [ka11] at hk; cases hk
      · rintro q rfl hk
        rw [ka11] at hk; cases hk
      · rintro q rfl hk
        exact ⟨g3, r1, up _ _ k3⟩
      · rintro q rfl hk
        rcases hq4 with rfl | ⟨b, rfl, kb, hb⟩
        · exact Or.inl r3
        · have hb := hb M2 d2
          have ib : j_it h11 b 0 = j_it h9 b 0 := ((o11.2 b (j_nn kb)).2.2 (fun z => z) 0).1
          exact Or.inr ⟨b, r3, up _ _ kb, by rw [ib]; exact hb.1, by rw [ib, i0]; exact hb.2⟩
    have w11 := w.keep o11 g11
    have f11 := f.tr (j_Fr.keep w o11 g11)
    have eL : j_rf h11 x 2 = some M2 := (((o11.2 x (j_nn kx0)).2.2 (fun z => z) 2).2.2).trans d2
    obtain ⟨k2, b0, b1, arr, t, q1, q2, q3, q4, q5, q6⟩ := m2.keep o11 (fun z => z) (fun _ _ => Or.inl (fun z => z))
    have hs11 : j_it h11 M2 2 = j_it h9 M2 2 := ((o11.2 M2 (j_nn m2.1)).2.2 (fun z => z) 2).1
    have hs : (j_it h11 M2 2).toInt < 10 := by rw [hs11]; exact hs
    conv => whnf
    refine ⟨k2, rfl, _, _, _, _, _, _, c_AL_add_53 k2 q1 q2 q3 q5.2 b0 q4 (by omega) q5.1 (fun j hj => by obtain ⟨y, z1, z2⟩ := q6 j hj; exact ⟨y, z1, Or.inl ⟨_, z2⟩⟩) (Or.inl ⟨_, ka11⟩), ⟨Nat.le_of_ble_eq_true rfl, Nat.le_of_ble_eq_true rfl, Nat.le_of_ble_eq_true rfl, Nat.le_of_ble_eq_true rfl⟩, fun _ _ z => False.elim z, ?_⟩
    rintro v9 h12 ⟨⟨r, rfl⟩, ad⟩
    have w12 := w11.ad2 eL q1 (by omega) ka11 (by rw [i0, hs11]) ad
    conv => whnf
    exact ⟨trivial, ⟨Nat.le_of_ble_eq_true rfl, Nat.le_of_ble_eq_true rfl⟩, ⟨_, rfl⟩, f11.tr (j_Fr.ad2 w11 eL q1 ad w12)⟩
  refine hJ [106] 400 _ _ _ _ _ _ ?_
  conv => whnf
  refine ⟨kx, rfl, _, _, _, _, _, _, c_G_isRun (h := h) hW sc, ⟨Nat.le_of_ble_eq_true rfl, Nat.le_of_ble_eq_true rfl, Nat.le_of_ble_eq_true rfl, Nat.le_of_ble_eq_true rfl⟩, fun _ _ z => False.elim z, ?_⟩
  rintro v9 h9 ⟨it2, rfl, sit2, r1, rfl, zr1, mr1⟩
  have nr1 := mr1 _ e1
  conv => whnf
  refine ⟨fun c3 => ?_, fun c3 => ?_⟩
  · skip
    conv => whnf
    exact ⟨⟨Nat.le_of_ble_eq_true rfl, Nat.le_of_ble_eq_true rfl⟩, ⟨Nat.le_of_ble_eq_true rfl, Nat.le_of_ble_eq_true rfl⟩, by decide, _, rfl, sit2⟩
  · skip
    have q4 : ((Int32.ofInt (-1))).toInt = -1 := by decide
    have b5 := j_ub b
    conv => whnf
    refine ⟨fun c6 => ?_, fun c6 => ?_⟩
    · skip
      conv => whnf
      refine ⟨_, rfl, kx, fun o7 eo => ?_⟩
      obtain rfl : o7 = some L1 := eo.symm.trans e1
      conv => whnf
      refine ⟨l1.1, rfl, _, _, _, _, _, _, c_AL_get (h := h) l1 sit2 j_sf_ok (by omega) (by omega), ⟨Nat.le_of_ble_eq_true rfl, Nat.le_of_ble_eq_true rfl, Nat.le_of_ble_eq_true rfl, Nat.le_of_ble_eq_true rfl⟩, fun _ _ z => False.elim z, ?_⟩
      rintro v9 h9 ⟨rfl, g8, rfl, kg8, xg8⟩
      conv => whnf
      refine ⟨Or.inr ⟨_, rfl, kg8⟩, ?_⟩
      conv => whnf
      refine ⟨kx, rfl, _, _, _, _, _, _, c_G_isPrint (h := h) hW sit2, ⟨Nat.le_of_ble_eq_true rfl, Nat.le_of_ble_eq_true rfl, Nat.le_of_ble_eq_true rfl, Nat.le_of_ble_eq_true rfl⟩, fun _ _ z => False.elim z, ?_⟩
      rintro v9 h9 ⟨it10, rfl, sit10, r9, rfl, zr9, mr9⟩
      have nr9 := mr9 _ e2
      conv => whnf
      refine ⟨fun c11 => ?_, fun c11 => ?_⟩
      · skip
        conv => whnf
        refine ⟨_, rfl, kx, fun o12 eo => ?_⟩
        obtain rfl : o12 = some L2 := eo.symm.trans e2
        conv => whnf
        refine ⟨l2.1, rfl, _, _, _, _, _, _, c_AL_size (h := h) l2 sit10 j_sf_ok, ⟨Nat.le_of_ble_eq_true rfl, Nat.le_of_ble_eq_true rfl, Nat.le_of_ble_eq_true rfl, Nat.le_of_ble_eq_true rfl⟩, fun _ _ z => False.elim z, ?_⟩
        rintro v9 h9 ⟨rfl, rfl⟩
        have q13 : ((Int8.ofInt (10)).toInt32).toInt = 10 := by decide
        conv => whnf
        refine ⟨fun c14 => ?_, fun c14 => ?_⟩
        · skip
          conv => whnf
          exact ⟨⟨Nat.le_of_ble_eq_true rfl, Nat.le_of_ble_eq_true rfl⟩, ⟨Nat.le_of_ble_eq_true rfl, Nat.le_of_ble_eq_true rfl⟩, by decide, _, rfl, sit10⟩
        · skip
          conv => whnf
          refine ⟨_, rfl, kg8, fun x15 ex15 => ?_⟩
          conv => whnf
          refine ⟨fun c16 => ?_, fun c16 => ?_⟩
          · skip
            conv => whnf
            exact ⟨⟨Nat.le_of_ble_eq_true rfl, Nat.le_of_ble_eq_true rfl⟩, ⟨Nat.le_of_ble_eq_true rfl, Nat.le_of_ble_eq_true rfl⟩, by decide, _, rfl, sit10⟩
          · skip
            conv => whnf
            refine ⟨kx, rfl, _, _, _, _, _, _, c_G_allStandFrom (h := h) hW sit10 (Or.inl rfl), ⟨Nat.le_of_ble_eq_true rfl, Nat.le_of_ble_eq_true rfl, Nat.le_of_ble_eq_true rfl, Nat.le_of_ble_eq_true rfl⟩, fun _ _ z => False.elim z, ?_⟩
            rintro v9 h9 ⟨it18, rfl, sit18, r17, rfl, zr17⟩
            conv => whnf
            refine ⟨fun c19 => ?_, fun c19 => ?_⟩
            · skip
              exact j_use hF (G106 (j_wi h it18) g8 none (hW.sc sit18 j_sf_ok) (j_Fr.sc hW sit18 j_sf_ok j_sf8) (fun L eL => by obtain rfl : L2 = L := Option.some.inj (e2.symm.trans eL); rw [show j_it (j_wi h it18) L2 2 = j_it h L2 2 from j_Sc.at sit18 l2.1 rfl]; omega) kg8 (Or.inl rfl)) (And.intro rfl (And.intro rfl (And.intro rfl (And.intro rfl (And.intro rfl trivial)))))
            · skip
              conv => whnf
              exact ⟨⟨Nat.le_of_ble_eq_true rfl, Nat.le_of_ble_eq_true rfl⟩, ⟨Nat.le_of_ble_eq_true rfl, Nat.le_of_ble_eq_true rfl⟩, by decide, _, rfl, sit18⟩
      · skip
        conv => whnf
        refine ⟨_, rfl, kx, fun o20 eo => ?_⟩
        obtain rfl : o20 = some L2 := eo.symm.trans e2
        conv => whnf
        refine ⟨l2.1, rfl, _, _, _, _, _, _, c_AL_get (h := h) l2 sit10 j_sf_ok (by omega) (by omega), ⟨Nat.le_of_ble_eq_true rfl, Nat.le_of_ble_eq_true rfl, Nat.le_of_ble_eq_true rfl, Nat.le_of_ble_eq_true rfl⟩, fun _ _ z => False.elim z, ?_⟩
        rintro v9 h9 ⟨rfl, g21, rfl, kg21, xg21⟩
        conv => whnf
        refine ⟨Or.inr ⟨_, rfl, kg21⟩, ?_⟩
        conv => whnf
        refine ⟨_, rfl, kx, fun o22 eo => ?_⟩
        obtain rfl : o22 = some L2 := eo.symm.trans e2
        conv => whnf
        refine ⟨l2.1, rfl, _, _, _, _, _, _, c_AL_size (h := h) l2 sit10 j_sf_ok, ⟨Nat.le_of_ble_eq_true rfl, Nat.le_of_ble_eq_true rfl, Nat.le_of_ble_eq_true rfl, Nat.le_of_ble_eq_true rfl⟩, fun _ _ z => False.elim z, ?_⟩
        rintro v9 h9 ⟨rfl, rfl⟩
        have q23 : ((Int8.ofInt (10)).toInt32).toInt = 10 := by decide
        conv => whnf
        refine ⟨fun c24 => ?_, fun c24 => ?_⟩
        · skip
          conv => whnf
          exact ⟨⟨Nat.le_of_ble_eq_true rfl, Nat.le_of_ble_eq_true rfl⟩, ⟨Nat.le_of_ble_eq_true rfl, Nat.le_of_ble_eq_true rfl⟩, by decide, _, rfl, sit10⟩
        · skip
          conv => whnf
          refine ⟨_, rfl, kg8, fun x25 ex25 => ?_⟩
          conv => whnf
          refine ⟨fun c26 => ?_, fun c26 => ?_⟩
          · skip
            conv => whnf
            exact ⟨⟨Nat.le_of_ble_eq_true rfl, Nat.le_of_ble_eq_true rfl⟩, ⟨Nat.le_of_ble_eq_true rfl, Nat.le_of_ble_eq_true rfl⟩, by decide, _, rfl, sit10⟩
          · skip
            conv => whnf
            refine ⟨kx, rfl, _, _, _, _, _, _, c_G_allStandFrom (h := h) hW sit10 (Or.inr ⟨_, rfl, kg21⟩), ⟨Nat.le_of_ble_eq_true rfl, Nat.le_of_ble_eq_true rfl, Nat.le_of_ble_eq_true rfl, Nat.le_of_ble_eq_true rfl⟩, fun _ _ z => False.elim z, ?_⟩
            rintro v9 h9 ⟨it28, rfl, sit28, r27, rfl, zr27⟩
            conv => whnf
            refine ⟨fun c29 => ?_, fun c29 => ?_⟩
            · skip
              exact j_use hF (G106 (j_wi h it28) g8 (some g21) (hW.sc sit28 j_sf_ok) (j_Fr.sc hW sit28 j_sf_ok j_sf8) (fun L eL => by obtain rfl : L2 = L := Option.some.inj (e2.symm.trans eL); rw [show j_it (j_wi h it28) L2 2 = j_it h L2 2 from j_Sc.at sit28 l2.1 rfl]; omega) kg8 (Or.inr ⟨_, rfl, kg21, fun L eL => by obtain rfl : L2 = L := Option.some.inj (e2.symm.trans eL); obtain ⟨ar, y1, y2⟩ := xg21; have y3 := pn ar y1 _ _ (by rw [j_clamp (by omega)]; omega) y2; have y4 := j_Sc.at (k := 0) sit28 kg21 rfl; have y5 := j_Sc.at (k := 2) sit28 l2.1 rfl; show 0 ≤ ((it28 : Nat → Nat → Int32) g21 0).toInt ∧ ((it28 : Nat → Nat → Int32) g21 0).toInt < ((it28 : Nat → Nat → Int32) L2 2).toInt; rw [y4, y5]; exact y3⟩)) (And.intro rfl (And.intro rfl (And.intro rfl (And.intro rfl (And.intro rfl trivial)))))
            · skip
              conv => whnf
              exact ⟨⟨Nat.le_of_ble_eq_true rfl, Nat.le_of_ble_eq_true rfl⟩, ⟨Nat.le_of_ble_eq_true rfl, Nat.le_of_ble_eq_true rfl⟩, by decide, _, rfl, sit28⟩
    · skip
      conv => whnf
      refine ⟨kx, rfl, _, _, _, _, _, _, c_G_isPrint (h := h) hW sit2, ⟨Nat.le_of_ble_eq_true rfl, Nat.le_of_ble_eq_true rfl, Nat.le_of_ble_eq_true rfl, Nat.le_of_ble_eq_true rfl⟩, fun _ _ z => False.elim z, ?_⟩
      rintro v9 h9 ⟨it31, rfl, sit31, r30, rfl, zr30, mr30⟩
      have nr30 := mr30 _ e2
      conv => whnf
      refine ⟨fun c32 => ?_, fun c32 => ?_⟩
      · skip
        conv => whnf
        refine ⟨_, rfl, kx, fun o33 eo => ?_⟩
        obtain rfl : o33 = some L1 := eo.symm.trans e1
        conv => whnf
        refine ⟨l1.1, rfl, _, _, _, _, _, _, c_AL_get (h := h) l1 sit31 j_sf_ok (by omega) (by omega), ⟨Nat.le_of_ble_eq_true rfl, Nat.le_of_ble_eq_true rfl, Nat.le_of_ble_eq_true rfl, Nat.le_of_ble_eq_true rfl⟩, fun _ _ z => False.elim z, ?_⟩
        rintro v9 h9 ⟨rfl, g34, rfl, kg34, xg34⟩
        conv => whnf
        refine ⟨Or.inr ⟨_, rfl, kg34⟩, ?_⟩
        conv => whnf
        refine ⟨kx, rfl, _, _, _, _, _, _, c_G_isPrint (h := h) hW sit31, ⟨Nat.le_of_ble_eq_true rfl, Nat.le_of_ble_eq_true rfl, Nat.le_of_ble_eq_true rfl, Nat.le_of_ble_eq_true rfl⟩, fun _ _ z => False.elim z, ?_⟩
        rintro v9 h9 ⟨it36, rfl, sit36, r35, rfl, zr35, mr35⟩
        have nr35 := mr35 _ e2
        conv => whnf
        refine ⟨fun c37 => ?_, fun c37 => ?_⟩
        · skip
          conv => whnf
          refine ⟨_, rfl, kx, fun o38 eo => ?_⟩
          obtain rfl : o38 = some L2 := eo.symm.trans e2
          conv => whnf
          refine ⟨l2.1, rfl, _, _, _, _, _, _, c_AL_size (h := h) l2 sit36 j_sf_ok, ⟨Nat.le_of_ble_eq_true rfl, Nat.le_of_ble_eq_true rfl, Nat.le_of_ble_eq_true rfl, Nat.le_of_ble_eq_true rfl⟩, fun _ _ z => False.elim z, ?_⟩
          rintro v9 h9 ⟨rfl, rfl⟩
          have q39 : ((Int8.ofInt (10)).toInt32).toInt = 10 := by decide
          conv => whnf
          refine ⟨fun c40 => ?_, fun c40 => ?_⟩
          · skip
            conv => whnf
            exact ⟨⟨Nat.le_of_ble_eq_true rfl, Nat.le_of_ble_eq_true rfl⟩, ⟨Nat.le_of_ble_eq_true rfl, Nat.le_of_ble_eq_true rfl⟩, by decide, _, rfl, sit36⟩
          · skip
            conv => whnf
            refine ⟨_, rfl, kg34, fun x41 ex41 => ?_⟩
            conv => whnf
            refine ⟨fun c42 => ?_, fun c42 => ?_⟩
            · skip
              conv => whnf
              exact ⟨⟨Nat.le_of_ble_eq_true rfl, Nat.le_of_ble_eq_true rfl⟩, ⟨Nat.le_of_ble_eq_true rfl, Nat.le_of_ble_eq_true rfl⟩, by decide, _, rfl, sit36⟩
            · skip
              conv => whnf
              refine ⟨kx, rfl, _, _, _, _, _, _, c_G_allStandFrom (h := h) hW sit36 (Or.inl rfl), ⟨Nat.le_of_ble_eq_true rfl, Nat.le_of_ble_eq_true rfl, Nat.le_of_ble_eq_true rfl, Nat.le_of_ble_eq_true rfl⟩, fun _ _ z => False.elim z, ?_⟩
              rintro v9 h9 ⟨it44, rfl, sit44, r43, rfl, zr43⟩
              conv => whnf
              refine ⟨fun c45 => ?_, fun c45 => ?_⟩
              · skip
                exact j_use hF (G106 (j_wi h it44) g34 none (hW.sc sit44 j_sf_ok) (j_Fr.sc hW sit44 j_sf_ok j_sf8) (fun L eL => by obtain rfl : L2 = L := Option.some.inj (e2.symm.trans eL); rw [show j_it (j_wi h it44) L2 2 = j_it h L2 2 from j_Sc.at sit44 l2.1 rfl]; omega) kg34 (Or.inl rfl)) (And.intro rfl (And.intro rfl (And.intro rfl (And.intro rfl (And.intro rfl trivial)))))
              · skip
                conv => whnf
                exact ⟨⟨Nat.le_of_ble_eq_true rfl, Nat.le_of_ble_eq_true rfl⟩, ⟨Nat.le_of_ble_eq_true rfl, Nat.le_of_ble_eq_true rfl⟩, by decide, _, rfl, sit44⟩
        · skip
          conv => whnf
          refine ⟨_, rfl, kx, fun o46 eo => ?_⟩
          obtain rfl : o46 = some L2 := eo.symm.trans e2
          conv => whnf
          refine ⟨l2.1, rfl, _, _, _, _, _, _, c_AL_get (h := h) l2 sit36 j_sf_ok (by omega) (by omega), ⟨Nat.le_of_ble_eq_true rfl, Nat.le_of_ble_eq_true rfl, Nat.le_of_ble_eq_true rfl, Nat.le_of_ble_eq_true rfl⟩, fun _ _ z => False.elim z, ?_⟩
          rintro v9 h9 ⟨rfl, g47, rfl, kg47, xg47⟩
          conv => whnf
          refine ⟨Or.inr ⟨_, rfl, kg47⟩, ?_⟩
          conv => whnf
          refine ⟨_, rfl, kx, fun o48 eo => ?_⟩
          obtain rfl : o48 = some L2 := eo.symm.trans e2
          conv => whnf
          refine ⟨l2.1, rfl, _, _, _, _, _, _, c_AL_size (h := h) l2 sit36 j_sf_ok, ⟨Nat.le_of_ble_eq_true rfl, Nat.le_of_ble_eq_true rfl, Nat.le_of_ble_eq_true rfl, Nat.le_of_ble_eq_true rfl⟩, fun _ _ z => False.elim z, ?_⟩
          rintro v9 h9 ⟨rfl, rfl⟩
          have q49 : ((Int8.ofInt (10)).toInt32).toInt = 10 := by decide
          conv => whnf
          refine ⟨fun c50 => ?_, fun c50 => ?_⟩
          · skip
            conv => whnf
            exact ⟨⟨Nat.le_of_ble_eq_true rfl, Nat.le_of_ble_eq_true rfl⟩, ⟨Nat.le_of_ble_eq_true rfl, Nat.le_of_ble_eq_true rfl⟩, by decide, _, rfl, sit36⟩
          · skip
            conv => whnf
            refine ⟨_, rfl, kg34, fun x51 ex51 => ?_⟩
            conv => whnf
            refine ⟨fun c52 => ?_, fun c52 => ?_⟩
            · skip
              conv => whnf
              exact ⟨⟨Nat.le_of_ble_eq_true rfl, Nat.le_of_ble_eq_true rfl⟩, ⟨Nat.le_of_ble_eq_true rfl, Nat.le_of_ble_eq_true rfl⟩, by decide, _, rfl, sit36⟩
            · skip
              conv => whnf
              refine ⟨kx, rfl, _, _, _, _, _, _, c_G_allStandFrom (h := h) hW sit36 (Or.inr ⟨_, rfl, kg47⟩), ⟨Nat.le_of_ble_eq_true rfl, Nat.le_of_ble_eq_true rfl, Nat.le_of_ble_eq_true rfl, Nat.le_of_ble_eq_true rfl⟩, fun _ _ z => False.elim z, ?_⟩
              rintro v9 h9 ⟨it54, rfl, sit54, r53, rfl, zr53⟩
              conv => whnf
              refine ⟨fun c55 => ?_, fun c55 => ?_⟩
              · skip
                exact j_use hF (G106 (j_wi h it54) g34 (some g47) (hW.sc sit54 j_sf_ok) (j_Fr.sc hW sit54 j_sf_ok j_sf8) (fun L eL => by obtain rfl : L2 = L := Option.some.inj (e2.symm.trans eL); rw [show j_it (j_wi h it54) L2 2 = j_it h L2 2 from j_Sc.at sit54 l2.1 rfl]; omega) kg34 (Or.inr ⟨_, rfl, kg47, fun L eL => by obtain rfl : L2 = L := Option.some.inj (e2.symm.trans eL); obtain ⟨ar, y1, y2⟩ := xg47; have y3 := pn ar y1 _ _ (by rw [j_clamp (by omega)]; omega) y2; have y4 := j_Sc.at (k := 0) sit54 kg47 rfl; have y5 := j_Sc.at (k := 2) sit54 l2.1 rfl; show 0 ≤ ((it54 : Nat → Nat → Int32) g47 0).toInt ∧ ((it54 : Nat → Nat → Int32) g47 0).toInt < ((it54 : Nat → Nat → Int32) L2 2).toInt; rw [y4, y5]; exact y3⟩)) (And.intro rfl (And.intro rfl (And.intro rfl (And.intro rfl (And.intro rfl trivial)))))
              · skip
                conv => whnf
                exact ⟨⟨Nat.le_of_ble_eq_true rfl, Nat.le_of_ble_eq_true rfl⟩, ⟨Nat.le_of_ble_eq_true rfl, Nat.le_of_ble_eq_true rfl⟩, by decide, _, rfl, sit54⟩
      · skip
        conv => whnf
        exact ⟨⟨Nat.le_of_ble_eq_true rfl, Nat.le_of_ble_eq_true rfl⟩, ⟨Nat.le_of_ble_eq_true rfl, Nat.le_of_ble_eq_true rfl⟩, by decide, _, rfl, sit31⟩
/-- of a run: of a grain and a clock that there are; errors within the slip -/
def j_okr (σ : Nat → Int32) (a b : Int32) : Prop := (0 ≤ a.toInt ∧ a.toInt < (σ 0).toInt) ∧ (b.toInt = 0 ∨ b.toInt = 1)
def j_oke (σ : Nat → Int32) (c d : Int32) : Prop := ((-(σ 5)).toInt ≤ c.toInt ∧ c.toInt ≤ (σ 5).toInt) ∧ ((-(σ 5)).toInt ≤ d.toInt ∧ d.toInt ≤ (σ 5).toInt)
set_option maxHeartbeats 4000000 in
set_option maxRecDepth 20000 in
theorem c_G_runx {h : j_H} {x : Nat} {a : Int32} {b : Int32} {c : Int32} {d : Int32} (hW : j_WF h x) : j_Ct 133 7 157 2 51 [j_r (some x), j_i a, j_i b, j_i c, j_i d] h (fun v h' => (j_okr (j_ax h x) a b ∧ j_oke (j_ax h x) c d ∧ (j_ax h x 1).toInt < 20) ∧ v = some (j_i (j_ax h x 1)) ∧ j_Fs x h h' ∧ j_At h' x (j_u1 (j_ax h x) 1 (j_ax h x 1 + Int32.ofInt 1))) (fun k h' => ((k = 2 ∧ ¬ j_okr (j_ax h x) a b) ∨ (k = 0 ∧ j_okr (j_ax h x) a b ∧ ¬ j_oke (j_ax h x) c d) ∨ (k = 1 ∧ j_okr (j_ax h x) a b ∧ j_oke (j_ax h x) c d ∧ ¬ (j_ax h x 1).toInt < 20)) ∧ h' = h) := by
  refine j_intro km_133 (Nat.le_of_ble_eq_true rfl) ?_
  intro J hJ hF
  obtain ⟨kx, hG, L0, L1, L2, e0, l0, e1, l1, e2, l2, ap, pn⟩ := id hW
  have b0 := l0.2.1; have b1 := l1.2.1; have b2 := l2.2.1; have d0 := l0.2.2.1; have d1 := l1.2.2.1; have d2 := l2.2.2.1
  have z0 : (Int32.ofInt 0).toInt = 0 := by decide
  have z1 : (Int32.ofInt 1).toInt = 1 := by decide
  have z20 : (Int32.ofInt 20).toInt = 20 := by decide
  have eA : j_ax h x 1 = j_it h L1 2 := j_sz_e e1
  have eG : j_ax h x 0 = j_it h L0 2 := j_sz_e e0
  have eS : j_ax h x 5 = j_it h x 5 := rfl
  have G147 : ∀ (h0 : j_H) (g5 : Nat) (v7 v8 v9 : Int32), v9 = j_ax h x 1 → j_okr (j_ax h x) a b → j_oke (j_ax h x) c d → j_WF h0 x → j_Fr x h h0 → (∀ L, j_rf h0 x 1 = some L → (j_it h0 L 2).toInt < 20) → j_kd h0 g5 = some (.inl 4) → J 147 [some (j_r (some x)), some (j_i a), some (j_i b), some (j_i c), some (j_i d), some (j_r (some g5)), none, some (j_i v7), some (j_i v8), some (j_i v9), none] [] h0 0 0 := by
    intro h0 g5 v7 v8 v9 hv hok hoe w f hs k5
    obtain ⟨kx0, g0, M0, M1, M2, d0, m0, d1, m1, -⟩ := id w
    have hs := hs M1 d1
    refine hJ [] 400 _ _ _ _ _ _ ?_
    conv => whnf
    refine ⟨⟨Nat.le_of_ble_eq_true rfl, Nat.le_of_ble_eq_true rfl⟩, fun a9 ha => ?_⟩
    have n5 : g5 ≠ a9 := fun z => by rw [z, ha] at k5; cases k5
    have nx : x ≠ a9 := fun z => by rw [z, ha] at kx0; cases kx0
    conv => whnf
    refine ⟨_, rfl, (if_neg nx).trans kx0, fun y1 _ => ?_⟩
    conv => whnf
    refine ⟨_, rfl, (if_neg nx).trans kx0, fun y2 _ => ?_⟩
    conv => whnf
    refine ⟨trivial, rfl, _, _, _, _, _, _, c_Run_init (if_pos rfl), ⟨Nat.le_of_ble_eq_true rfl, Nat.le_of_ble_eq_true rfl, Nat.le_of_ble_eq_true rfl, Nat.le_of_ble_eq_true rfl⟩, fun _ _ z => False.elim z, ?_⟩
    rintro v9' h10 ⟨rfl, ⟨f3, f3k, f3s⟩, r1⟩
    have o10 : j_On (fun _ => False) h0 h10 := (((j_On.nw (S := fun q => q = a9) ha)).trans f3).mono (fun q hq z => hq (by rw [z]; exact ha))
    have ka10 : j_kd h10 a9 = some (.inl 7) := (f3k a9).trans (if_pos rfl)
    have up : ∀ q s, j_kd h0 q = some s → j_kd h10 q = some s := fun q s hq => ((o10.2 q (j_nn hq)).1).trans hq
    have kx10 := up _ _ kx0
    have g10 : j_G h10 := by
      refine g0.new (fun q => q = a9) o10 (fun q hq => (f3k q).trans (if_neg hq)) ?_ ?_ ?_ ?_ ?_
      · rintro q rfl hk
        rw [ka10] at hk; cases hk
      · rintro q rfl hk
        rw [ka10] at hk; cases hk
      · rintro q rfl hk
        exact ⟨g5, r1, up _ _ k5⟩
      · rintro q rfl hk
        rw [ka10] at hk; cases hk
      · rintro q rfl hk
        rw [ka10] at hk; cases hk
    have w10 := w.keep o10 g10
    have f10 := f.tr (j_Fr.keep w o10 g10)
    conv => whnf
    refine ⟨kx10, rfl, _, _, _, _, _, _, c_G_paceOf (h := h10) kx10, ⟨Nat.le_of_ble_eq_true rfl, Nat.le_of_ble_eq_true rfl, Nat.le_of_ble_eq_true rfl, Nat.le_of_ble_eq_true rfl⟩, fun _ _ z => False.elim z, ?_⟩
    rintro v9' h11 ⟨e11, r, rfl⟩
    obtain rfl : h11 = h10 := e11
    conv => whnf
    refine ⟨ka10, rfl, _, _, _, _, _, _, c_Run_dateBy (h := h11) g10 j_Sc.rf ka10, ⟨Nat.le_of_ble_eq_true rfl, Nat.le_of_ble_eq_true rfl, Nat.le_of_ble_eq_true rfl, Nat.le_of_ble_eq_true rfl⟩, fun _ _ z => False.elim z, ?_⟩
    rintro v9' h12 ⟨it', e12, s12, rfl⟩
    have w11 : j_WF h12 x := by rw [e12]; exact w10.sc s12 j_sm_ok
    have f11 : j_Fr x h h12 := by rw [e12]; exact f10.tr (j_Fr.sc w10 s12 j_sm_ok j_sm8)
    have ka11 : j_kd h12 a9 = some (.inl 7) := by rw [e12]; exact ka10
    have kx12 : j_kd h12 x = some (.inl 8) := by rw [e12]; exact kx10
    have eL : j_rf h12 x 1 = some M1 := by rw [e12]; exact (((o10.2 x (j_nn kx0)).2.2 (fun z => z) 1).2.2).trans d1
    have m9 : j_LI h12 M1 7 20 := by rw [e12]; exact (m1.keep o10 (fun z => z) (fun _ _ => Or.inl (fun z => z))).sc s12 j_sm_ok
    have hs11 : j_it h12 M1 2 = j_it h0 M1 2 := by rw [e12]; exact (j_Sc.at s12 (up _ _ m1.1) rfl).trans ((o10.2 M1 (j_nn m1.1)).2.2 (fun z => z) 2).1
    obtain ⟨k2, b0, b1, arr, t, q1, q2, q3, q4, q5, q6⟩ := m9
    have hs : (j_it h12 M1 2).toInt < 20 := by rw [hs11]; exact hs
    clear hs11 e12
    conv => whnf
    refine ⟨_, rfl, kx12, fun o eo => ?_⟩
    obtain rfl : o = some M1 := eo.symm.trans eL
    conv => whnf
    refine ⟨k2, rfl, _, _, _, _, _, _, c_AL_add_53 k2 q1 q2 q3 q5.2 b0 q4 (by omega) q5.1 (fun j hj => by obtain ⟨y, z1, z2⟩ := q6 j hj; exact ⟨y, z1, Or.inl ⟨_, z2⟩⟩) (Or.inl ⟨_, ka11⟩), ⟨Nat.le_of_ble_eq_true rfl, Nat.le_of_ble_eq_true rfl, Nat.le_of_ble_eq_true rfl, Nat.le_of_ble_eq_true rfl⟩, fun _ _ z => False.elim z, ?_⟩
    rintro v9' h13 ⟨⟨r, rfl⟩, ad⟩
    have w12 := w11.ad1 eL q1 (by omega) ka11 ad
    conv => whnf
    refine ⟨trivial, ⟨Nat.le_of_ble_eq_true rfl, Nat.le_of_ble_eq_true rfl⟩, ⟨hok, hoe, ?_⟩, by rw [hv], f11.fs.tr (j_Fs.ad w11 (by decide) eL q1 ad w12), fun j hj => ?_⟩
    · rw [← f11.2.2.2 1 rfl, show j_ax h12 x 1 = j_it h12 M1 2 from j_sz_e eL]; exact hs
    · rw [ad.ax w11 (by decide) eL q1 j hj]
      unfold j_u1
      by_cases z : j = 1
      · rw [if_pos z, if_pos z, f11.2.2.2 1 rfl]
      · rw [if_neg z, if_neg z]; exact f11.2.2.2 j hj
  refine hJ [147] 400 _ _ _ _ _ _ ?_
  conv => whnf
  refine ⟨kx, rfl, _, _, _, _, _, _, c_isGrainx hW e0, ⟨Nat.le_of_ble_eq_true rfl, Nat.le_of_ble_eq_true rfl, Nat.le_of_ble_eq_true rfl, Nat.le_of_ble_eq_true rfl⟩, fun _ _ z => False.elim z, ?_⟩
  rintro v9 h9 ⟨e9, r1, rfl, zr1⟩
  obtain rfl : h = h9 := e9.symm
  conv => whnf
  refine ⟨fun c3 => ?_, fun c3 => ?_⟩
  · have c3 : r1.toInt = 0 := c3
    have ka : ¬ (0 ≤ a.toInt ∧ a.toInt < (j_ax h x 0).toInt) := by
      rw [eG]
      rcases zr1 with ⟨-, q⟩ | ⟨q, -⟩
      · rw [q, z1] at c3; exact absurd c3 (by decide)
      · exact q
    conv => whnf
    exact ⟨⟨Nat.le_of_ble_eq_true rfl, Nat.le_of_ble_eq_true rfl⟩, ⟨Nat.le_of_ble_eq_true rfl, Nat.le_of_ble_eq_true rfl⟩, Or.inl ⟨rfl, fun z => ka z.1⟩, rfl⟩
  · have c3 : ¬ r1.toInt = 0 := c3
    have ka : 0 ≤ a.toInt ∧ a.toInt < (j_ax h x 0).toInt := by
      rw [eG]
      rcases zr1 with ⟨q, -⟩ | ⟨-, q⟩
      · exact q
      · rw [q, z0] at c3; exact absurd rfl c3
    have ka' : 0 ≤ a.toInt ∧ a.toInt < (j_it h L0 2).toInt := by rw [← eG]; exact ka
    conv => whnf
    refine ⟨rfl, _, _, _, _, _, _, c_isClockx, ⟨Nat.le_of_ble_eq_true rfl, Nat.le_of_ble_eq_true rfl, Nat.le_of_ble_eq_true rfl, Nat.le_of_ble_eq_true rfl⟩, fun _ _ z => False.elim z, ?_⟩
    rintro v9 h9 ⟨e9, r4, rfl, zr4⟩
    obtain rfl : h = h9 := e9.symm
    conv => whnf
    refine ⟨fun c5 => ?_, fun c5 => ?_⟩
    rotate_left
    · have c5 : ¬ ¬ r4.toInt = 0 := c5
      have kb : ¬ (b.toInt = 0 ∨ b.toInt = 1) := by
        rcases zr4 with ⟨-, q⟩ | ⟨q, -⟩
        · rw [q, z1] at c5; exact absurd (by decide) c5
        · exact q
      conv => whnf
      exact ⟨⟨Nat.le_of_ble_eq_true rfl, Nat.le_of_ble_eq_true rfl⟩, ⟨Nat.le_of_ble_eq_true rfl, Nat.le_of_ble_eq_true rfl⟩, Or.inl ⟨rfl, fun z => kb z.2⟩, rfl⟩
    have c5 : ¬ r4.toInt = 0 := c5
    have kb : b.toInt = 0 ∨ b.toInt = 1 := by
      rcases zr4 with ⟨q, -⟩ | ⟨-, q⟩
      · exact q
      · rw [q, z0] at c5; exact absurd rfl c5
    have hok : j_okr (j_ax h x) a b := ⟨ka, kb⟩
    conv => whnf
    refine ⟨_, rfl, kx, fun x6 ex6 => ?_⟩
    obtain rfl : x6 = j_it h x 5 := ex6.symm
    conv => whnf
    refine ⟨_, rfl, kx, fun x7 ex7 => ?_⟩
    obtain rfl : x7 = j_it h x 5 := ex7.symm
    conv => whnf
    refine ⟨rfl, _, _, _, _, _, _, c_within, ⟨Nat.le_of_ble_eq_true rfl, Nat.le_of_ble_eq_true rfl, Nat.le_of_ble_eq_true rfl, Nat.le_of_ble_eq_true rfl⟩, fun _ _ z => False.elim z, ?_⟩
    rintro v9 h9 ⟨e9, r8, rfl, zr8⟩
    obtain rfl : h = h9 := e9.symm
    conv => whnf
    refine ⟨fun c9 => ?_, fun c9 => ?_⟩
    · have c9 : r8.toInt = 0 := c9
      have kc : ¬ ((-(j_ax h x 5)).toInt ≤ c.toInt ∧ c.toInt ≤ (j_ax h x 5).toInt) := by
        rcases zr8 with ⟨-, -, q⟩ | ⟨q, -⟩
        · rw [q, z1] at c9; exact absurd c9 (by decide)
        · exact q
      conv => whnf
      exact ⟨⟨Nat.le_of_ble_eq_true rfl, Nat.le_of_ble_eq_true rfl⟩, ⟨Nat.le_of_ble_eq_true rfl, Nat.le_of_ble_eq_true rfl⟩, Or.inr (Or.inl ⟨rfl, hok, fun z => kc z.1⟩), rfl⟩
    · have c9 : ¬ r8.toInt = 0 := c9
      have kc : (-(j_ax h x 5)).toInt ≤ c.toInt ∧ c.toInt ≤ (j_ax h x 5).toInt := by
        rcases zr8 with ⟨q1, q2, -⟩ | ⟨-, q⟩
        · exact ⟨q1, q2⟩
        · rw [q, z0] at c9; exact absurd rfl c9
      conv => whnf
      refine ⟨_, rfl, kx, fun x10 ex10 => ?_⟩
      obtain rfl : x10 = j_it h x 5 := ex10.symm
      conv => whnf
      refine ⟨_, rfl, kx, fun x11 ex11 => ?_⟩
      obtain rfl : x11 = j_it h x 5 := ex11.symm
      conv => whnf
      refine ⟨rfl, _, _, _, _, _, _, c_within, ⟨Nat.le_of_ble_eq_true rfl, Nat.le_of_ble_eq_true rfl, Nat.le_of_ble_eq_true rfl, Nat.le_of_ble_eq_true rfl⟩, fun _ _ z => False.elim z, ?_⟩
      rintro v9 h9 ⟨e9, r12, rfl, zr12⟩
      obtain rfl : h = h9 := e9.symm
      conv => whnf
      refine ⟨fun c13 => ?_, fun c13 => ?_⟩
      rotate_left
      · have c13 : ¬ ¬ r12.toInt = 0 := c13
        have kd : ¬ ((-(j_ax h x 5)).toInt ≤ d.toInt ∧ d.toInt ≤ (j_ax h x 5).toInt) := by
          rcases zr12 with ⟨-, -, q⟩ | ⟨q, -⟩
          · rw [q, z1] at c13; exact absurd (by decide) c13
          · exact q
        conv => whnf
        exact ⟨⟨Nat.le_of_ble_eq_true rfl, Nat.le_of_ble_eq_true rfl⟩, ⟨Nat.le_of_ble_eq_true rfl, Nat.le_of_ble_eq_true rfl⟩, Or.inr (Or.inl ⟨rfl, hok, fun z => kd z.2⟩), rfl⟩
      have c13 : ¬ r12.toInt = 0 := c13
      have kd : (-(j_ax h x 5)).toInt ≤ d.toInt ∧ d.toInt ≤ (j_ax h x 5).toInt := by
        rcases zr12 with ⟨q1, q2, -⟩ | ⟨-, q⟩
        · exact ⟨q1, q2⟩
        · rw [q, z0] at c13; exact absurd rfl c13
      have hoe : j_oke (j_ax h x) c d := ⟨kc, kd⟩
      conv => whnf
      refine ⟨_, rfl, kx, fun o14 eo => ?_⟩
      obtain rfl : o14 = some L1 := eo.symm.trans e1
      conv => whnf
      refine ⟨l1.1, rfl, _, _, _, _, _, _, c_AL_size (h := h) l1 j_Sc.rf j_sf_ok, ⟨Nat.le_of_ble_eq_true rfl, Nat.le_of_ble_eq_true rfl, Nat.le_of_ble_eq_true rfl, Nat.le_of_ble_eq_true rfl⟩, fun _ _ z => False.elim z, ?_⟩
      rintro v9 h9 ⟨e9, rfl⟩
      obtain rfl : h = h9 := e9.symm
      conv => whnf
      refine ⟨fun c16 => ?_, fun c16 => ?_⟩
      rotate_left
      · have c16 : ¬ (j_it h L1 2).toInt < (Int32.ofInt 20).toInt := c16
        rw [z20] at c16
        conv => whnf
        exact ⟨⟨Nat.le_of_ble_eq_true rfl, Nat.le_of_ble_eq_true rfl⟩, ⟨Nat.le_of_ble_eq_true rfl, Nat.le_of_ble_eq_true rfl⟩, Or.inr (Or.inr ⟨rfl, hok, hoe, by rw [eA]; exact c16⟩), rfl⟩
      have c16 : (j_it h L1 2).toInt < (Int32.ofInt 20).toInt := c16
      rw [z20] at c16
      conv => whnf
      refine ⟨_, rfl, kx, fun o17 eo => ?_⟩
      obtain rfl : o17 = some L0 := eo.symm.trans e0
      conv => whnf
      refine ⟨l0.1, rfl, _, _, _, _, _, _, c_AL_get (h := h) l0 j_Sc.rf j_sf_ok ka'.1 ka'.2, ⟨Nat.le_of_ble_eq_true rfl, Nat.le_of_ble_eq_true rfl, Nat.le_of_ble_eq_true rfl, Nat.le_of_ble_eq_true rfl⟩, fun _ _ z => False.elim z, ?_⟩
      rintro v9 h9 ⟨e9, g18, rfl, kg18, xg18⟩
      obtain rfl : h = h9 := e9.symm
      conv => whnf
      refine ⟨Or.inr ⟨_, rfl, kg18⟩, ?_⟩
      conv => whnf
      refine ⟨kg18, rfl, _, _, _, _, _, _, c_Grain_of (h := h) hG j_Sc.rf kg18, ⟨Nat.le_of_ble_eq_true rfl, Nat.le_of_ble_eq_true rfl, Nat.le_of_ble_eq_true rfl, Nat.le_of_ble_eq_true rfl⟩, fun _ _ z => False.elim z, ?_⟩
      rintro v9 h9 ⟨it20, rfl, sit20, r19, rfl, kr19⟩
      conv => whnf
      refine ⟨_, rfl, kr19, fun x21 ex21 => ?_⟩
      conv => whnf
      refine ⟨⟨Nat.le_of_ble_eq_true rfl, Nat.le_of_ble_eq_true rfl, Nat.le_of_ble_eq_true rfl, Nat.le_of_ble_eq_true rfl⟩, ?_⟩
      conv => whnf
      refine ⟨_, rfl, kr19, fun x22 ex22 => ?_⟩
      conv => whnf
      refine ⟨⟨Nat.le_of_ble_eq_true rfl, Nat.le_of_ble_eq_true rfl, Nat.le_of_ble_eq_true rfl, Nat.le_of_ble_eq_true rfl⟩, ?_⟩
      conv => whnf
      refine ⟨_, rfl, kx, fun o23 eo => ?_⟩
      obtain rfl : o23 = some L1 := eo.symm.trans e1
      conv => whnf
      refine ⟨l1.1, rfl, _, _, _, _, _, _, c_AL_size (h := h) l1 sit20 j_sf_ok, ⟨Nat.le_of_ble_eq_true rfl, Nat.le_of_ble_eq_true rfl, Nat.le_of_ble_eq_true rfl, Nat.le_of_ble_eq_true rfl⟩, fun _ _ z => False.elim z, ?_⟩
      rintro v9 h9 ⟨rfl, rfl⟩
      exact j_use hF (G147 (j_wi h it20) g18 _ _ _ eA.symm hok hoe (hW.sc sit20 j_sf_ok) (j_Fr.sc hW sit20 j_sf_ok j_sf8) (fun L eL => by obtain rfl : L1 = L := Option.some.inj (e1.symm.trans eL); rw [show j_it (j_wi h it20) L1 2 = j_it h L1 2 from j_Sc.at sit20 l1.1 rfl]; exact c16) kg18) (And.intro rfl (And.intro rfl (And.intro rfl (And.intro rfl (And.intro rfl (And.intro rfl (And.intro rfl (And.intro rfl (And.intro rfl trivial)))))))))
set_option maxHeartbeats 4000000 in
set_option maxRecDepth 20000 in
theorem c_G_swap {h : j_H} {it : Nat → Nat → Int32} {x : Nat} {a : Int32} {b : Int32} (hW : j_WF h x) (sc : j_Sc j_sf h it)  : j_Ct 138 6 109 1 6 [j_r (some x), j_i a, j_i b] (j_wi h it) (fun v h' => (∃ r, v = some (j_i r)) ∧ j_Fr x h h') (fun k h' => k ∈ [0, 2] ∧ ∃ it', h' = j_wi h it' ∧ j_Sc j_sf h it') := by
  refine j_intro km_138 (Nat.le_of_ble_eq_true rfl) ?_
  intro J hJ hF
  obtain ⟨kx, hG, L0, L1, L2, e0, l0, e1, l1, e2, l2, ap, pn⟩ := id hW
  have b0 := l0.2.1; have b1 := l1.2.1; have b2 := l2.2.1; have d0 := l0.2.2.1; have d1 := l1.2.2.1; have d2 := l2.2.2.1
  have G66 : ∀ (h0 : j_H) (g3 g4 : Nat), j_WF h0 x → j_Fr x h h0 → j_kd h0 g3 = some (.inl 7) → j_kd h0 g4 = some (.inl 7) → J 66 [some (j_r (some x)), some (j_i a), some (j_i b), some (j_r (some g3)), some (j_r (some g4)), none] [] h0 0 0 := by
    intro h0 g3 g4 w f k3 k4
    obtain ⟨kx0, g0, -⟩ := id w
    refine hJ [] 400 _ _ _ _ _ _ ?_
    conv => whnf
    refine ⟨_, rfl, k3, fun o eo => ?_⟩
    obtain ⟨b3, e3, kb3⟩ := g0.2.2.1 _ k3
    obtain rfl : o = some b3 := eo.symm.trans e3
    conv => whnf
    refine ⟨_, rfl, k4, fun o eo => ?_⟩
    obtain ⟨b4, e4, kb4⟩ := g0.2.2.1 _ k4
    obtain rfl : o = some b4 := eo.symm.trans e4
    conv => whnf
    refine ⟨_, rfl, k3, ?_⟩
    have f1 := j_Fr.up7 w k3 kb4
    conv => whnf
    refine ⟨_, rfl, k4, ?_⟩
    have f2 := j_Fr.up7 f1.1 (g := g4) (b := b3) k4 kb3
    conv => whnf
    refine ⟨kx0, rfl, _, _, _, _, _, _, c_G_countDoubles (h := j_up (j_up h0 g3 6 (j_r (some b4))) g4 6 (j_r (some b3))) f2.1 j_Sc.rf, ⟨Nat.le_of_ble_eq_true rfl, Nat.le_of_ble_eq_true rfl, Nat.le_of_ble_eq_true rfl, Nat.le_of_ble_eq_true rfl⟩, fun _ _ z => False.elim z, ?_⟩
    rintro v9 h9 ⟨it', e9, s9, r, rfl⟩
    have f3 : j_Fr x h h9 := by rw [e9]; exact (f.tr (f1.tr f2)).tr (j_Fr.sc f2.1 s9 j_sf_ok j_sf8)
    conv => whnf
    exact ⟨trivial, ⟨Nat.le_of_ble_eq_true rfl, Nat.le_of_ble_eq_true rfl⟩, ⟨_, rfl⟩, f3⟩
  refine hJ [66] 400 _ _ _ _ _ _ ?_
  conv => whnf
  refine ⟨kx, rfl, _, _, _, _, _, _, c_G_isRun (h := h) hW sc, ⟨Nat.le_of_ble_eq_true rfl, Nat.le_of_ble_eq_true rfl, Nat.le_of_ble_eq_true rfl, Nat.le_of_ble_eq_true rfl⟩, fun _ _ z => False.elim z, ?_⟩
  rintro v9 h9 ⟨it2, rfl, sit2, r1, rfl, zr1, mr1⟩
  have nr1 := mr1 _ e1
  conv => whnf
  refine ⟨fun c3 => ?_, fun c3 => ?_⟩
  · skip
    conv => whnf
    exact ⟨⟨Nat.le_of_ble_eq_true rfl, Nat.le_of_ble_eq_true rfl⟩, ⟨Nat.le_of_ble_eq_true rfl, Nat.le_of_ble_eq_true rfl⟩, by decide, _, rfl, sit2⟩
  · skip
    conv => whnf
    refine ⟨kx, rfl, _, _, _, _, _, _, c_G_isRun (h := h) hW sit2, ⟨Nat.le_of_ble_eq_true rfl, Nat.le_of_ble_eq_true rfl, Nat.le_of_ble_eq_true rfl, Nat.le_of_ble_eq_true rfl⟩, fun _ _ z => False.elim z, ?_⟩
    rintro v9 h9 ⟨it5, rfl, sit5, r4, rfl, zr4, mr4⟩
    have nr4 := mr4 _ e1
    conv => whnf
    refine ⟨fun c6 => ?_, fun c6 => ?_⟩
    · skip
      have b7 := j_ub b
      have b8 := j_ub a
      conv => whnf
      refine ⟨fun c9 => ?_, fun c9 => ?_⟩
      · skip
        conv => whnf
        refine ⟨_, rfl, kx, fun o10 eo => ?_⟩
        obtain rfl : o10 = some L1 := eo.symm.trans e1
        conv => whnf
        refine ⟨l1.1, rfl, _, _, _, _, _, _, c_AL_get (h := h) l1 sit5 j_sf_ok (by omega) (by omega), ⟨Nat.le_of_ble_eq_true rfl, Nat.le_of_ble_eq_true rfl, Nat.le_of_ble_eq_true rfl, Nat.le_of_ble_eq_true rfl⟩, fun _ _ z => False.elim z, ?_⟩
        rintro v9 h9 ⟨rfl, g11, rfl, kg11, xg11⟩
        conv => whnf
        refine ⟨Or.inr ⟨_, rfl, kg11⟩, ?_⟩
        conv => whnf
        refine ⟨_, rfl, kx, fun o12 eo => ?_⟩
        obtain rfl : o12 = some L1 := eo.symm.trans e1
        conv => whnf
        refine ⟨l1.1, rfl, _, _, _, _, _, _, c_AL_get (h := h) l1 sit5 j_sf_ok (by omega) (by omega), ⟨Nat.le_of_ble_eq_true rfl, Nat.le_of_ble_eq_true rfl, Nat.le_of_ble_eq_true rfl, Nat.le_of_ble_eq_true rfl⟩, fun _ _ z => False.elim z, ?_⟩
        rintro v9 h9 ⟨rfl, g13, rfl, kg13, xg13⟩
        conv => whnf
        refine ⟨Or.inr ⟨_, rfl, kg13⟩, ?_⟩
        exact j_use hF (G66 (j_wi h it5) g11 g13 (hW.sc sit5 j_sf_ok) (j_Fr.sc hW sit5 j_sf_ok j_sf8) kg11 kg13) (And.intro rfl (And.intro rfl (And.intro rfl (And.intro rfl (And.intro rfl trivial)))))
      · skip
        conv => whnf
        exact ⟨⟨Nat.le_of_ble_eq_true rfl, Nat.le_of_ble_eq_true rfl⟩, ⟨Nat.le_of_ble_eq_true rfl, Nat.le_of_ble_eq_true rfl⟩, by decide, _, rfl, sit5⟩
    · skip
      conv => whnf
      exact ⟨⟨Nat.le_of_ble_eq_true rfl, Nat.le_of_ble_eq_true rfl⟩, ⟨Nat.le_of_ble_eq_true rfl, Nat.le_of_ble_eq_true rfl⟩, by decide, _, rfl, sit5⟩
