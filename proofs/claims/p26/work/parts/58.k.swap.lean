/-! labels swapped, a print made: word for word -/
def n_swap (z : j_Z) (a b : Int32) : j_Z := (z.1, z.2.1, z.2.2.1, fun k f => if f = 0 then (if k = a.toNatClampNeg then z.2.2.2.1 b.toNatClampNeg 0 else if k = b.toNatClampNeg then z.2.2.2.1 a.toNatClampNeg 0 else z.2.2.2.1 k 0) else z.2.2.2.1 k f, z.2.2.2.2)
theorem z_swapped {h h1 : j_H} {x y1 y2 b1 b2 : Nat} {a b : Int32} (w : j_WF h x) (I : z_I h x) (hA : z_in h x 1 a.toNatClampNeg) (hB : z_in h x 1 b.toNatClampNeg) (nAB : a.toNatClampNeg ≠ b.toNatClampNeg) (eA : z_el h x 1 a.toNatClampNeg = y1) (eB : z_el h x 1 b.toNatClampNeg = y2) (rA : j_rf h y1 6 = some b1) (rB : j_rf h y2 6 = some b2) (H : h1 = j_up (j_up h y1 6 (j_r (some b2))) y2 6 (j_r (some b1))) : z_I h1 x ∧ z_eq (z_c h1 x) (n_swap (z_c h x) a b) := by
  have k1 : j_kd h y1 = some (.inl 7) := by rw [← eA]; exact z_k1 w hA
  have k2 : j_kd h y2 = some (.inl 7) := by rw [← eB]; exact z_k1 w hB
  have n12 : y1 ≠ y2 := fun z => nAB (I.r hA hB (by rw [eA, eB]; exact z))
  have it : ∀ q f, j_it h1 q f = j_it h q f := fun q f => by rw [H]; rfl
  have rf : ∀ q f, j_rf h1 q f = j_u (j_u (j_rf h) y1 6 (some b2)) y2 6 (some b1) q f := fun q f => by rw [H]; rfl
  have nk : ∀ q f, f ≠ 6 → j_rf h1 q f = j_rf h q f := fun q f hf => by
    rw [rf]
    exact (j_u_nk hf).trans (j_u_nk hf)
  have ne : ∀ q, q ≠ y1 → q ≠ y2 → ∀ f, j_rf h1 q f = j_rf h q f := fun q h1 h2 f => by
    rw [rf]
    exact (j_u_ne h2).trans (j_u_ne h1)
  have r2 : j_rf h1 y2 6 = some b1 := by rw [rf]; exact j_u_at
  have r1 : j_rf h1 y1 6 = some b2 := by rw [rf]; exact (j_u_ne n12).trans j_u_at
  have sz : ∀ i, i < 3 → j_sz h1 x i = j_sz h x i := fun i hi => by
    obtain ⟨L, arr, t, e, -⟩ := z_L w hi
    rw [j_sz_e e, j_sz_e ((nk x i (by omega)).trans e), it]
  have q : ∀ i k, i < 3 → z_in h1 x i k → z_in h x i k := fun i k hi h9 => by
    unfold z_in at h9 ⊢
    rw [sz i hi] at h9
    exact h9
  have q' : ∀ i k, i < 3 → z_in h x i k → z_in h1 x i k := fun i k hi h9 => by
    unfold z_in at h9 ⊢
    rw [sz i hi]
    exact h9
  have el : ∀ i k, i < 3 → z_in h x i k → z_el h1 x i k = z_el h x i k := fun i k hi hk => by
    obtain ⟨L, arr, t, e, kL, f1, f2, -, -, f6⟩ := z_L w hi
    unfold z_in at hk
    rw [j_sz_e e] at hk
    obtain ⟨y, g1, g2⟩ := f6 k hk
    rw [g2]
    exact z_el_of ((nk x i (by omega)).trans e) ((nk L 1 (by decide)).trans f1) ((ne arr (fun z => by rw [z, k1] at f2; cases f2) (fun z => by rw [z, k2] at f2; cases f2) k).trans g1)
  have mo : ∀ e i, i < 2 → z_mo h1 e i = z_mo h e i := fun e i hi => by
    unfold z_mo
    rw [nk e (1 + i) (by omega)]
  obtain ⟨-, gA, gA1, gA2⟩ := I.1.2.2.1 _ hA
  obtain ⟨-, gB, gB1, gB2⟩ := I.1.2.2.1 _ hB
  rw [eA, rA] at gA2
  rw [eB, rB] at gB2
  have lab : ∀ k, z_in h x 1 k → j_rf h1 (z_el h x 1 k) 6 = if k = a.toNatClampNeg then some b2 else if k = b.toNatClampNeg then some b1 else j_rf h (z_el h x 1 k) 6 := fun k hk => by
    by_cases ka : k = a.toNatClampNeg
    · rw [if_pos ka, ka, eA]
      exact r1
    · by_cases kb : k = b.toNatClampNeg
      · rw [if_neg ka, if_pos kb, kb, eB]
        exact r2
      · rw [if_neg ka, if_neg kb]
        exact ne _ (fun z => ka (I.r hk hA (z.trans eA.symm))) (fun z => kb (I.r hk hB (z.trans eB.symm))) 6
  refine ⟨⟨⟨fun k hk => ?_, ?_, fun k hk => ?_, fun k hk => ?_⟩, fun k hk => ?_⟩, fun k hk => ?_, fun k i t hk hi ht => ?_, fun k f hk hf => ?_, fun k f hk hf => ?_, fun k f hk hf => ?_⟩
  · have hk := q 0 k (by decide) hk
    rw [el 0 k (by decide) hk, it]
    exact I.1.1 k hk
  · obtain ⟨μ, hμ⟩ := I.1.2.1
    refine ⟨μ, fun k i hk hi => ?_⟩
    have hk := q 0 k (by decide) hk
    rw [el 0 k (by decide) hk, mo _ i hi]
    exact hμ k i hk hi
  · have hk := q 1 k (by decide) hk
    obtain ⟨n, g, g1, g2⟩ := I.1.2.2.1 k hk
    rw [el 1 k (by decide) hk, it, lab k hk]
    refine ⟨n, ?_⟩
    by_cases ka : k = a.toNatClampNeg
    · rw [if_pos ka]
      exact ⟨gB, q' 0 gB (by decide) gB1, by rw [el 0 gB (by decide) gB1]; exact gB2⟩
    · by_cases kb : k = b.toNatClampNeg
      · rw [if_neg ka, if_pos kb]
        exact ⟨gA, q' 0 gA (by decide) gA1, by rw [el 0 gA (by decide) gA1]; exact gA2⟩
      · rw [if_neg ka, if_neg kb]
        exact ⟨g, q' 0 g (by decide) g1, by rw [el 0 g (by decide) g1]; exact g2⟩
  · have hk := q 2 k (by decide) hk
    obtain ⟨n, ⟨r, s1, s2⟩, b⟩ := I.1.2.2.2 k hk
    rw [el 2 k (by decide) hk, it, nk _ 1 (by decide), nk _ 3 (by decide)]
    refine ⟨n, ⟨r, q' 1 r (by decide) s1, by rw [el 1 r (by decide) s1]; exact s2⟩, ?_⟩
    rcases b with b | ⟨p, p1, p2⟩
    · exact Or.inl b
    · exact Or.inr ⟨p, p1, by rw [el 2 p (by decide) (by unfold z_in at hk ⊢; omega)]; exact p2⟩
  · have hk := q 1 k (by decide) hk
    have c := I.2 k hk
    rw [el 1 k (by decide) hk]
    unfold z_ca at c ⊢
    rw [it, it, it, it, it, it, it]
    exact c
  · match k, hk with
    | 0, _ => exact sz 0 (by decide)
    | 1, _ => exact sz 1 (by decide)
    | 2, _ => exact sz 2 (by decide)
    | n + 3, _ => exact it x (n + 3)
  · have hk := q 0 k (by decide) hk
    show z_cm h1 x k i t = z_cm h x k i t
    unfold z_cm
    rw [el 0 k (by decide) hk, mo _ i hi]
    exact it _ _
  · have hk := q 0 k (by decide) hk
    show z_cg h1 x k f = z_cg h x k f
    unfold z_cg
    rw [el 0 k (by decide) hk]
    exact it _ _
  · have hk := q 1 k (by decide) hk
    have ee := el 1 k (by decide) hk
    have cA : z_cr h x a.toNatClampNeg 0 = j_it h b1 0 := by
      show j_it h ((j_rf h (z_el h x 1 a.toNatClampNeg) 6).getD 0) 0 = _
      rw [eA, rA, Option.getD_some]
    have cB : z_cr h x b.toNatClampNeg 0 = j_it h b2 0 := by
      show j_it h ((j_rf h (z_el h x 1 b.toNatClampNeg) 6).getD 0) 0 = _
      rw [eB, rB, Option.getD_some]
    match f, hf with
    | 0, _ =>
      show j_it h1 ((j_rf h1 (z_el h1 x 1 k) 6).getD 0) 0 = if k = a.toNatClampNeg then z_cr h x b.toNatClampNeg 0 else if k = b.toNatClampNeg then z_cr h x a.toNatClampNeg 0 else z_cr h x k 0
      rw [ee, it, lab k hk, cA, cB]
      by_cases ka : k = a.toNatClampNeg
      · rw [if_pos ka, if_pos ka, Option.getD_some]
      · by_cases kb : k = b.toNatClampNeg
        · rw [if_neg ka, if_pos kb, if_neg ka, if_pos kb, Option.getD_some]
        · rw [if_neg ka, if_neg kb, if_neg ka, if_neg kb]
          rfl
    | 1, _ => show j_it h1 (z_el h1 x 1 k) 1 = _; rw [ee]; exact it _ 1
    | 2, _ => show j_it h1 (z_el h1 x 1 k) 2 = _; rw [ee]; exact it _ 2
    | 3, _ => show j_it h1 (z_el h1 x 1 k) 3 = _; rw [ee]; exact it _ 3
    | 4, _ => show j_it h1 (z_el h1 x 1 k) 4 = _; rw [ee]; exact it _ 4
    | 5, _ => show j_it h1 (z_el h1 x 1 k) 5 = _; rw [ee]; exact it _ 5
    | 6, _ => show j_it h1 (z_el h1 x 1 k) 7 = _; rw [ee]; exact it _ 7
    | n + 7, hf => omega
  · have hk := q 2 k (by decide) hk
    have ee := el 2 k (by decide) hk
    match f, hf with
    | 0, _ =>
      show j_it h1 ((j_rf h1 (z_el h1 x 2 k) 1).getD 0) 0 = j_it h ((j_rf h (z_el h x 2 k) 1).getD 0) 0
      rw [ee, nk _ 1 (by decide)]
      exact it _ 0
    | 1, _ => show j_it h1 (z_el h1 x 2 k) 2 = _; rw [ee]; exact it _ 2
    | 2, _ =>
      show (match j_rf h1 (z_el h1 x 2 k) 3 with | none => Int32.ofInt (-1) | some b => j_it h1 b 0) = (match j_rf h (z_el h x 2 k) 3 with | none => Int32.ofInt (-1) | some b => j_it h b 0)
      rw [ee, nk _ 3 (by decide)]
      cases z : j_rf h (z_el h x 2 k) 3 with
      | none => rfl
      | some b => exact it b 0
    | n + 3, hf => omega
set_option maxHeartbeats 4000000 in
set_option maxRecDepth 20000 in
theorem c_G_swapz {h : j_H} {x : Nat} {a b : Int32} (hW : j_WF h x) (I : z_I h x) : j_Ct 138 6 109 1 6 [j_r (some x), j_i a, j_i b] h (fun v h' => (((0 ≤ a.toInt ∧ a.toInt < (j_sz h x 1).toInt) ∧ 0 ≤ b.toInt ∧ b.toInt < (j_sz h x 1).toInt) ∧ ¬ a.toInt = b.toInt) ∧ (∃ r, v = some (j_i r)) ∧ j_Fs x h h' ∧ z_I h' x ∧ z_eq (z_c h' x) (n_swap (z_c h x) a b)) (fun k h' => ((k = 2 ∧ ¬ ((0 ≤ a.toInt ∧ a.toInt < (j_sz h x 1).toInt) ∧ 0 ≤ b.toInt ∧ b.toInt < (j_sz h x 1).toInt)) ∨ (k = 0 ∧ ((0 ≤ a.toInt ∧ a.toInt < (j_sz h x 1).toInt) ∧ 0 ≤ b.toInt ∧ b.toInt < (j_sz h x 1).toInt) ∧ a.toInt = b.toInt)) ∧ h' = h) := by
  refine j_intro km_138 (Nat.le_of_ble_eq_true rfl) ?_
  intro J hJ hF
  obtain ⟨kx, hG, L0, L1, L2, e0, l0, e1, l1, e2, l2, ap, pn⟩ := id hW
  have z0 : (Int32.ofInt 0).toInt = 0 := by decide
  have z1 : (Int32.ofInt 1).toInt = 1 := by decide
  have eR : j_sz h x 1 = j_it h L1 2 := j_sz_e e1
  have G66 : ∀ (g3 g4 : Nat), ((0 ≤ a.toInt ∧ a.toInt < (j_sz h x 1).toInt) ∧ 0 ≤ b.toInt ∧ b.toInt < (j_sz h x 1).toInt) → ¬ a.toInt = b.toInt → z_el h x 1 a.toNatClampNeg = g3 → z_el h x 1 b.toNatClampNeg = g4 → j_kd h g3 = some (.inl 7) → j_kd h g4 = some (.inl 7) → J 66 [some (j_r (some x)), some (j_i a), some (j_i b), some (j_r (some g3)), some (j_r (some g4)), none] [] h 0 0 := by
    intro g3 g4 kab nab eA eB k3 k4
    have hA : z_in h x 1 a.toNatClampNeg := by unfold z_in; rw [j_clamp kab.1.1]; exact kab.1.2
    have hB : z_in h x 1 b.toNatClampNeg := by unfold z_in; rw [j_clamp kab.2.1]; exact kab.2.2
    have nAB : a.toNatClampNeg ≠ b.toNatClampNeg := fun z => by
      have ca := j_clamp kab.1.1
      have cb := j_clamp kab.2.1
      rw [z] at ca
      omega
    refine hJ [] 400 _ _ _ _ _ _ ?_
    conv => whnf
    refine ⟨_, rfl, k3, fun o eo => ?_⟩
    obtain ⟨b3, e3, kb3⟩ := hG.2.2.1 _ k3
    obtain rfl : o = some b3 := eo.symm.trans e3
    conv => whnf
    refine ⟨_, rfl, k4, fun o eo => ?_⟩
    obtain ⟨b4, e4, kb4⟩ := hG.2.2.1 _ k4
    obtain rfl : o = some b4 := eo.symm.trans e4
    conv => whnf
    refine ⟨_, rfl, k3, ?_⟩
    have f1 := j_Fr.up7 hW k3 kb4
    conv => whnf
    refine ⟨_, rfl, k4, ?_⟩
    have f2 := j_Fr.up7 f1.1 (g := g4) (b := b3) k4 kb3
    obtain ⟨I2, q2⟩ := z_swapped hW I hA hB nAB eA eB e3 e4 rfl
    conv => whnf
    refine ⟨kx, rfl, _, _, _, _, _, _, c_G_countDoubles (h := j_up (j_up h g3 6 (j_r (some b4))) g4 6 (j_r (some b3))) f2.1 j_Sc.rf, ⟨Nat.le_of_ble_eq_true rfl, Nat.le_of_ble_eq_true rfl, Nat.le_of_ble_eq_true rfl, Nat.le_of_ble_eq_true rfl⟩, fun _ _ z => False.elim z, ?_⟩
    rintro v9 h9 ⟨it', e9, s9, r, rfl⟩
    obtain ⟨f3, I3, q3⟩ := z_notes f2.1 I2 s9
    rw [← e9] at f3 I3 q3
    conv => whnf
    exact ⟨trivial, ⟨Nat.le_of_ble_eq_true rfl, Nat.le_of_ble_eq_true rfl⟩, ⟨kab, nab⟩, ⟨_, rfl⟩, ((f1.tr f2).tr f3).fs, I3, q3.tr q2⟩
  refine hJ [66] 400 _ _ _ _ _ _ ?_
  conv => whnf
  refine ⟨kx, rfl, _, _, _, _, _, _, c_isRunx hW e1, ⟨Nat.le_of_ble_eq_true rfl, Nat.le_of_ble_eq_true rfl, Nat.le_of_ble_eq_true rfl, Nat.le_of_ble_eq_true rfl⟩, fun _ _ z => False.elim z, ?_⟩
  rintro v9 h9 ⟨e9, r1, rfl, zr1⟩
  obtain rfl : h = h9 := e9.symm
  conv => whnf
  refine ⟨fun c3 => ?_, fun c3 => ?_⟩
  · have c3 : r1.toInt = 0 := c3
    have ka : ¬ (0 ≤ a.toInt ∧ a.toInt < (j_sz h x 1).toInt) := by
      rw [eR]
      rcases zr1 with ⟨-, q⟩ | ⟨q, -⟩
      · rw [q, z1] at c3; exact absurd c3 (by decide)
      · exact q
    conv => whnf
    exact ⟨⟨Nat.le_of_ble_eq_true rfl, Nat.le_of_ble_eq_true rfl⟩, ⟨Nat.le_of_ble_eq_true rfl, Nat.le_of_ble_eq_true rfl⟩, Or.inl ⟨rfl, fun z => ka z.1⟩, rfl⟩
  have c3 : ¬ r1.toInt = 0 := c3
  have ka : 0 ≤ a.toInt ∧ a.toInt < (j_sz h x 1).toInt := by
    rw [eR]
    rcases zr1 with ⟨q, -⟩ | ⟨-, q⟩
    · exact q
    · rw [q, z0] at c3; exact absurd rfl c3
  have ka' : 0 ≤ a.toInt ∧ a.toInt < (j_it h L1 2).toInt := by rw [← eR]; exact ka
  conv => whnf
  refine ⟨kx, rfl, _, _, _, _, _, _, c_isRunx hW e1, ⟨Nat.le_of_ble_eq_true rfl, Nat.le_of_ble_eq_true rfl, Nat.le_of_ble_eq_true rfl, Nat.le_of_ble_eq_true rfl⟩, fun _ _ z => False.elim z, ?_⟩
  rintro v9 h9 ⟨e9, r4, rfl, zr4⟩
  obtain rfl : h = h9 := e9.symm
  conv => whnf
  refine ⟨fun c6 => ?_, fun c6 => ?_⟩
  rotate_left
  · have c6 : ¬ ¬ r4.toInt = 0 := c6
    have kb : ¬ (0 ≤ b.toInt ∧ b.toInt < (j_sz h x 1).toInt) := by
      rw [eR]
      rcases zr4 with ⟨-, q⟩ | ⟨q, -⟩
      · rw [q, z1] at c6; exact absurd (by decide) c6
      · exact q
    conv => whnf
    exact ⟨⟨Nat.le_of_ble_eq_true rfl, Nat.le_of_ble_eq_true rfl⟩, ⟨Nat.le_of_ble_eq_true rfl, Nat.le_of_ble_eq_true rfl⟩, Or.inl ⟨rfl, fun z => kb z.2⟩, rfl⟩
  have c6 : ¬ r4.toInt = 0 := c6
  have kb : 0 ≤ b.toInt ∧ b.toInt < (j_sz h x 1).toInt := by
    rw [eR]
    rcases zr4 with ⟨q, -⟩ | ⟨-, q⟩
    · exact q
    · rw [q, z0] at c6; exact absurd rfl c6
  have kb' : 0 ≤ b.toInt ∧ b.toInt < (j_it h L1 2).toInt := by rw [← eR]; exact kb
  conv => whnf
  refine ⟨fun c9 => ?_, fun c9 => ?_⟩
  rotate_left
  · have c9 : ¬ ¬ a.toInt = b.toInt := c9
    conv => whnf
    exact ⟨⟨Nat.le_of_ble_eq_true rfl, Nat.le_of_ble_eq_true rfl⟩, ⟨Nat.le_of_ble_eq_true rfl, Nat.le_of_ble_eq_true rfl⟩, Or.inr ⟨rfl, ⟨ka, kb⟩, Decidable.not_not.mp c9⟩, rfl⟩
  have c9 : ¬ a.toInt = b.toInt := c9
  conv => whnf
  refine ⟨_, rfl, kx, fun o10 eo => ?_⟩
  obtain rfl : o10 = some L1 := eo.symm.trans e1
  conv => whnf
  refine ⟨l1.1, rfl, _, _, _, _, _, _, c_AL_get (h := h) l1 j_Sc.rf j_sf_ok ka'.1 ka'.2, ⟨Nat.le_of_ble_eq_true rfl, Nat.le_of_ble_eq_true rfl, Nat.le_of_ble_eq_true rfl, Nat.le_of_ble_eq_true rfl⟩, fun _ _ z => False.elim z, ?_⟩
  rintro v9 h9 ⟨e9, g11, rfl, kg11, xg11⟩
  obtain rfl : h = h9 := e9.symm
  conv => whnf
  refine ⟨Or.inr ⟨_, rfl, kg11⟩, ?_⟩
  conv => whnf
  refine ⟨_, rfl, kx, fun o12 eo => ?_⟩
  obtain rfl : o12 = some L1 := eo.symm.trans e1
  conv => whnf
  refine ⟨l1.1, rfl, _, _, _, _, _, _, c_AL_get (h := h) l1 j_Sc.rf j_sf_ok kb'.1 kb'.2, ⟨Nat.le_of_ble_eq_true rfl, Nat.le_of_ble_eq_true rfl, Nat.le_of_ble_eq_true rfl, Nat.le_of_ble_eq_true rfl⟩, fun _ _ z => False.elim z, ?_⟩
  rintro v9 h9 ⟨e9, g13, rfl, kg13, xg13⟩
  obtain rfl : h = h9 := e9.symm
  conv => whnf
  refine ⟨Or.inr ⟨_, rfl, kg13⟩, ?_⟩
  exact j_use hF (G66 g11 g13 ⟨ka, kb⟩ c9 (z_el_get e1 xg11) (z_el_get e1 xg13) kg11 kg13) (And.intro rfl (And.intro rfl (And.intro rfl (And.intro rfl (And.intro rfl trivial)))))
theorem n_printz_c {A B : j_Z} {r p o : Int32} (e : z_eq A B) (hs : (A.1 2).toInt < 100) : z_eq (n_printz A r p o) (n_printz B r p o) := by
  have e2 := e.1 2 (by decide)
  have up : ∀ i k, i = 0 ∨ i = 1 → z_lt (n_printz A r p o) i k → z_lt A i k := fun i k hi h => by
    have : (n_printz A r p o).1 i = A.1 i := if_neg (by omega)
    unfold z_lt at h ⊢
    rw [this] at h
    exact h
  have up2 : ∀ k, z_lt (n_printz A r p o) 2 k → k ≠ (A.1 2).toNatClampNeg → z_lt A 2 k := fun k h hk => by
    have h9 : (k : Int) < (A.1 2 + Int32.ofInt 1).toInt := h
    rw [j_inc1 (by omega)] at h9
    unfold z_lt
    have cl := j_clamp (i := A.1 2) (by omega)
    omega
  refine ⟨fun k hk => ?_, fun k i t hk hi ht => e.2.1 k i t (up 0 k (Or.inl rfl) hk) hi ht, fun k f hk hf => e.2.2.1 k f (up 0 k (Or.inl rfl) hk) hf, fun k f hk hf => e.2.2.2.1 k f (up 1 k (Or.inr rfl) hk) hf, fun k f hk hf => ?_⟩
  · show j_u1 A.1 2 (A.1 2 + Int32.ofInt 1) k = j_u1 B.1 2 (B.1 2 + Int32.ofInt 1) k
    unfold j_u1
    rw [e2]
    by_cases z : k = 2
    · rw [if_pos z, if_pos z]
    · rw [if_neg z, if_neg z]; exact e.1 k hk
  · show (if k = (A.1 2).toNatClampNeg then _ else A.2.2.2.2 k f) = (if k = (B.1 2).toNatClampNeg then _ else B.2.2.2.2 k f)
    rw [← e2]
    by_cases z : k = (A.1 2).toNatClampNeg
    · rw [if_pos z, if_pos z]
    · rw [if_neg z, if_neg z]; exact e.2.2.2.2 k f (up2 k hk z) hf
def n_print (z : j_Z) (a b : Int32) : j_Z := n_printz z a (z.1 (j_pf (z.2.2.2.1 a.toNatClampNeg 1))) b
/-- a run that there is; a print that there is, or none -/
def z_okp (z : j_Z) (a b : Int32) : Prop := (0 ≤ a.toInt ∧ a.toInt < (z.1 1).toInt) ∧ (b.toInt = -1 ∨ (0 ≤ b.toInt ∧ b.toInt < (z.1 2).toInt))
/-- fewer than ten prints, the run stands, what it is printed on stands -/
def z_okq (z : j_Z) (a b : Int32) : Prop := (z.1 2).toInt < 10 ∧ ¬ (z.2.2.2.1 a.toNatClampNeg 6).toInt = 0 ∧ (if b.toInt < 0 then true else z_st z b.toNatClampNeg) = true
set_option maxHeartbeats 4000000 in
set_option maxRecDepth 20000 in
theorem c_G_printz {h : j_H} {x : Nat} {a b : Int32} (hW : j_WF h x) (I : z_I h x) : j_Ct 130 7 157 2 44 [j_r (some x), j_i a, j_i b] h (fun v h' => (z_okp (z_c h x) a b ∧ z_okq (z_c h x) a b) ∧ v = some (j_i (j_sz h x 2)) ∧ j_Fs x h h' ∧ z_I h' x ∧ z_eq (z_c h' x) (n_print (z_c h x) a b)) (fun k h' => ((k = 2 ∧ ¬ z_okp (z_c h x) a b) ∨ (k = 1 ∧ z_okp (z_c h x) a b ∧ ¬ z_okq (z_c h x) a b)) ∧ h' = h) := by
  refine j_intro km_130 (Nat.le_of_ble_eq_true rfl) ?_
  intro J hJ hF
  obtain ⟨kx, hG, L0, L1, L2, e0, l0, e1, l1, e2, l2, ap, pn⟩ := id hW
  have z0 : (Int32.ofInt 0).toInt = 0 := by decide
  have z1 : (Int32.ofInt 1).toInt = 1 := by decide
  have zm : (Int32.ofInt (-1)).toInt = -1 := by decide
  have z10 : ((Int8.ofInt (10)).toInt32).toInt = 10 := by decide
  have eR : (z_c h x).1 1 = j_it h L1 2 := j_sz_e e1
  have eP : (z_c h x).1 2 = j_it h L2 2 := j_sz_e e2
  have G106 : ∀ (g3 : Nat) (q4 : Option Nat), z_el h x 1 a.toNatClampNeg = g3 → ((q4 = none ∧ b = Int32.ofInt (-1)) ∨ (z_in h x 2 b.toNatClampNeg ∧ 0 ≤ b.toInt ∧ q4 = some (z_el h x 2 b.toNatClampNeg))) → z_okp (z_c h x) a b → z_okq (z_c h x) a b → j_kd h g3 = some (.inl 7) → J 106 [some (j_r (some x)), some (j_i a), some (j_i b), some (j_r (some g3)), some (j_r q4), none] [] h 0 0 := by
    intro g3 q4 eg hq4 okp okq k3
    have hs : (j_it h L2 2).toInt < 10 := by rw [← eP]; exact okq.1
    have hin : z_in h x 1 a.toNatClampNeg := by unfold z_in; rw [j_clamp okp.1.1]; exact okp.1.2
    refine hJ [] 400 _ _ _ _ _ _ ?_
    conv => whnf
    refine ⟨_, rfl, kx, fun o eo => ?_⟩
    obtain rfl : o = some L2 := eo.symm.trans e2
    conv => whnf
    refine ⟨l2.1, rfl, _, _, _, _, _, _, c_AL_size (h := h) l2 j_Sc.rf j_sf_ok, ⟨Nat.le_of_ble_eq_true rfl, Nat.le_of_ble_eq_true rfl, Nat.le_of_ble_eq_true rfl, Nat.le_of_ble_eq_true rfl⟩, fun _ _ z => False.elim z, ?_⟩
    rintro v9 h9 ⟨e9, rfl⟩
    obtain rfl : h = h9 := e9.symm
    conv => whnf
    refine ⟨_, rfl, kx, fun o eo => ?_⟩
    obtain rfl : o = some L2 := eo.symm.trans e2
    conv => whnf
    refine ⟨⟨Nat.le_of_ble_eq_true rfl, Nat.le_of_ble_eq_true rfl⟩, fun a9 ha => ?_⟩
    have n3 : g3 ≠ a9 := fun z => by rw [z, ha] at k3; cases k3
    have nx : x ≠ a9 := fun z => by rw [z, ha] at kx; cases kx
    conv => whnf
    refine ⟨_, rfl, (if_neg n3).trans k3, fun y ey => ?_⟩
    have ey : y = j_it h g3 1 := ey.symm.trans (if_neg n3)
    conv => whnf
    refine ⟨(if_neg nx).trans kx, rfl, _, _, _, _, _, _, c_paceOfx (h := j_nw h a9 (.inl 6) 0) ((if_neg nx).trans kx), ⟨Nat.le_of_ble_eq_true rfl, Nat.le_of_ble_eq_true rfl, Nat.le_of_ble_eq_true rfl, Nat.le_of_ble_eq_true rfl⟩, fun _ _ z => False.elim z, ?_⟩
    rintro v9 h10 ⟨rfl, zp⟩
    obtain rfl := z_pfv zp
    have hp : j_it (j_nw h a9 (.inl 6) 0) x (j_pf y) = j_it h x (j_pf (j_it h g3 1)) := by rw [ey]; exact if_neg nx
    conv => whnf
    refine ⟨trivial, rfl, _, _, _, _, _, _, c_Print_initx (if_pos rfl), ⟨Nat.le_of_ble_eq_true rfl, Nat.le_of_ble_eq_true rfl, Nat.le_of_ble_eq_true rfl, Nat.le_of_ble_eq_true rfl⟩, fun _ _ z => False.elim z, ?_⟩
    rintro v9 h11 ⟨rfl, ⟨f3, f3k, f3s⟩, r1, r3, i0, i2⟩
    have o11 : j_On (fun _ => False) h h11 := (((j_On.nw (S := fun q => q = a9) ha)).trans f3).mono (fun q hq z => hq (by rw [z]; exact ha))
    have ka11 : j_kd h11 a9 = some (.inl 6) := (f3k a9).trans (if_pos rfl)
    have up : ∀ q s, j_kd h q = some s → j_kd h11 q = some s := fun q s hq => ((o11.2 q (j_nn hq)).1).trans hq
    have g11 : j_G h11 := by
      refine hG.new (fun q => q = a9) o11 (fun q hq => (f3k q).trans (if_neg hq)) ?_ ?_ ?_ ?_ ?_
      · rintro q rfl hk
        rw [ka11] at hk; cases hk
      · rintro q rfl hk
        rw [ka11] at hk; cases hk
      · rintro q rfl hk
        rw [ka11] at hk; cases hk
      · rintro q rfl hk
        exact ⟨g3, r1, up _ _ k3⟩
      · rintro q rfl hk
        rcases hq4 with ⟨rfl, -⟩ | ⟨hb, hb0, rfl⟩
        · exact Or.inl r3
        · have kb := z_k2 hW hb
          have nb := (I.1.2.2.2 _ hb).1
          have ib : j_it h11 (z_el h x 2 b.toNatClampNeg) 0 = j_it h (z_el h x 2 b.toNatClampNeg) 0 := ((o11.2 _ (j_nn kb)).2.2 (fun z => z) 0).1
          have hb' : (b.toNatClampNeg : Int) < (j_it h L2 2).toInt := by
            unfold z_in at hb
            rw [j_sz_e e2] at hb
            exact hb
          exact Or.inr ⟨_, r3, up _ _ kb, by rw [ib, nb]; omega, by rw [ib, nb, i0]; exact hb'⟩
    obtain ⟨I11, q11, z11, el11⟩ := z_keep hW I o11
    have w11 := hW.keep o11 g11
    have f11 := j_Fr.keep hW o11 g11
    have eL : j_rf h11 x 2 = some L2 := (((o11.2 x (j_nn kx)).2.2 (fun z => z) 2).2.2).trans e2
    obtain ⟨k2, b0, b1, arr, t, q1, q2, q3, q4', q5, q6⟩ := l2.keep o11 (fun z => z) (fun _ _ => Or.inl (fun z => z))
    have hs11 : j_it h11 L2 2 = j_it h L2 2 := ((o11.2 L2 (j_nn l2.1)).2.2 (fun z => z) 2).1
    have hs : (j_it h11 L2 2).toInt < 10 := by rw [hs11]; exact hs
    conv => whnf
    refine ⟨k2, rfl, _, _, _, _, _, _, c_AL_add_53 k2 q1 q2 q3 q5.2 b0 q4' (by omega) q5.1 (fun j hj => by obtain ⟨y, z1, z2⟩ := q6 j hj; exact ⟨y, z1, Or.inl ⟨_, z2⟩⟩) (Or.inl ⟨_, ka11⟩), ⟨Nat.le_of_ble_eq_true rfl, Nat.le_of_ble_eq_true rfl, Nat.le_of_ble_eq_true rfl, Nat.le_of_ble_eq_true rfl⟩, fun _ _ z => False.elim z, ?_⟩
    rintro v9 h12 ⟨⟨r, rfl⟩, ad⟩
    have w12 := w11.ad2 eL q1 (by omega) ka11 (by rw [i0, hs11]) ad
    have hin11 : z_in h11 x 1 a.toNatClampNeg := by unfold z_in at hin ⊢; rw [z11 1 (by decide)]; exact hin
    have lab : j_it h11 (z_el h11 x 1 a.toNatClampNeg) 0 = a := Int32.toInt_inj.mp ((I11.1.2.2.1 _ hin11).1.trans (j_clamp okp.1.1))
    have cl := j_clamp (i := j_it h11 L2 2) b0
    obtain ⟨Iz, qz⟩ := z_newP (r := a.toNatClampNeg) (o := q4) (C := j_it h x (j_pf (j_it h g3 1))) w11 I11 eL q1 ad cl hs ka11 (by rw [i0, hs11]) hin11 (by rw [r1, el11 1 _ (by decide) hin, eg]) (by rw [i2, hp]) r3 (by
      rcases hq4 with ⟨e, -⟩ | ⟨hb, hb0, e⟩
      · exact Or.inl e
      · refine Or.inr ⟨b.toNatClampNeg, ?_, by rw [e, el11 2 _ (by decide) hb]⟩
        unfold z_in at hb
        rw [j_sz_e e2, ← hs11] at hb
        omega)
    have qz : z_eq (z_c h12 x) (n_printz (z_c h11 x) a (j_it h x (j_pf (j_it h g3 1))) b) := by
      rw [lab] at qz
      rcases hq4 with ⟨e, e'⟩ | ⟨hb, hb0, e⟩
      · subst e
        rw [e']
        exact qz
      · subst e
        have kb := z_k2 hW hb
        have nb := (I.1.2.2.2 _ hb).1
        have ib : j_it h11 (z_el h x 2 b.toNatClampNeg) 0 = j_it h (z_el h x 2 b.toNatClampNeg) 0 := ((o11.2 _ (j_nn kb)).2.2 (fun z => z) 0).1
        have e9 : j_it h11 (z_el h x 2 b.toNatClampNeg) 0 = b := Int32.toInt_inj.mp ((congrArg Int32.toInt ib).trans (nb.trans (j_clamp hb0)))
        have qz : z_eq (z_c h12 x) (n_printz (z_c h11 x) a (j_it h x (j_pf (j_it h g3 1))) (j_it h11 (z_el h x 2 b.toNatClampNeg) 0)) := qz
        rw [e9] at qz
        exact qz
    have hC : j_it h x (j_pf (j_it h g3 1)) = (z_c h x).1 (j_pf ((z_c h x).2.2.2.1 a.toNatClampNeg 1)) := by
      rw [show (z_c h x).2.2.2.1 a.toNatClampNeg 1 = j_it h g3 1 from by rw [← eg]; rfl]
      rcases j_pf34' (j_it h g3 1) with ⟨_, q⟩ | ⟨_, q⟩
      · rw [q]; rfl
      · rw [q]; rfl
    rw [hC] at qz
    conv => whnf
    exact ⟨trivial, ⟨Nat.le_of_ble_eq_true rfl, Nat.le_of_ble_eq_true rfl⟩, ⟨okp, okq⟩, by rw [j_sz_e e2], f11.fs.tr (j_Fs.ad w11 (by decide) eL q1 ad w12), Iz, qz.tr (n_printz_c q11 (by show (j_sz h11 x 2).toInt < 100; rw [j_sz_e eL]; omega))⟩
  have L68 : ∀ (g3 : Nat) (q4 : Option Nat), z_el h x 1 a.toNatClampNeg = g3 → ((q4 = none ∧ b = Int32.ofInt (-1)) ∨ (z_in h x 2 b.toNatClampNeg ∧ 0 ≤ b.toInt ∧ q4 = some (z_el h x 2 b.toNatClampNeg))) → z_okp (z_c h x) a b → j_kd h g3 = some (.inl 7) → J 68 [some (j_r (some x)), some (j_i a), some (j_i b), some (j_r (some g3)), some (j_r q4), none] [] h 0 0 := by
    intro g3 q4 eg hq4 okp k3
    have c6 : (z_c h x).2.2.2.1 a.toNatClampNeg 6 = j_it h g3 7 := by rw [← eg]; rfl
    have cb : (q4 = none ∧ (if b.toInt < 0 then true else z_st (z_c h x) b.toNatClampNeg) = true) ∨ ∃ k, z_in h x 2 k ∧ q4 = some (z_el h x 2 k) ∧ (if b.toInt < 0 then true else z_st (z_c h x) b.toNatClampNeg) = z_st (z_c h x) k := by
      rcases hq4 with ⟨e, e'⟩ | ⟨hb, hb0, e⟩
      · exact Or.inl ⟨e, if_pos (by rw [e', zm]; decide)⟩
      · exact Or.inr ⟨_, hb, e, if_neg (by omega)⟩
    refine hJ [106] 400 _ _ _ _ _ _ ?_
    conv => whnf
    refine ⟨_, rfl, kx, fun o eo => ?_⟩
    obtain rfl : o = some L2 := eo.symm.trans e2
    conv => whnf
    refine ⟨l2.1, rfl, _, _, _, _, _, _, c_AL_size (h := h) l2 j_Sc.rf j_sf_ok, ⟨Nat.le_of_ble_eq_true rfl, Nat.le_of_ble_eq_true rfl, Nat.le_of_ble_eq_true rfl, Nat.le_of_ble_eq_true rfl⟩, fun _ _ z => False.elim z, ?_⟩
    rintro v9 h9 ⟨e9, rfl⟩
    obtain rfl : h = h9 := e9.symm
    conv => whnf
    refine ⟨fun c14 => ?_, fun c14 => ?_⟩
    · have c14 : ((Int8.ofInt (10)).toInt32).toInt ≤ (j_it h L2 2).toInt := c14
      rw [z10] at c14
      conv => whnf
      exact ⟨⟨Nat.le_of_ble_eq_true rfl, Nat.le_of_ble_eq_true rfl⟩, ⟨Nat.le_of_ble_eq_true rfl, Nat.le_of_ble_eq_true rfl⟩, Or.inr ⟨rfl, okp, fun z => by have z := z.1; rw [eP] at z; omega⟩, rfl⟩
    have c14 : ¬ ((Int8.ofInt (10)).toInt32).toInt ≤ (j_it h L2 2).toInt := c14
    rw [z10] at c14
    conv => whnf
    refine ⟨_, rfl, k3, fun x15 ex15 => ?_⟩
    obtain rfl : x15 = j_it h g3 7 := ex15.symm
    conv => whnf
    refine ⟨fun c16 => ?_, fun c16 => ?_⟩
    · have c16 : (j_it h g3 7).toInt = 0 := c16
      conv => whnf
      exact ⟨⟨Nat.le_of_ble_eq_true rfl, Nat.le_of_ble_eq_true rfl⟩, ⟨Nat.le_of_ble_eq_true rfl, Nat.le_of_ble_eq_true rfl⟩, Or.inr ⟨rfl, okp, fun z => z.2.1 (by rw [c6]; exact c16)⟩, rfl⟩
    have c16 : ¬ (j_it h g3 7).toInt = 0 := c16
    conv => whnf
    refine ⟨kx, rfl, _, _, _, _, _, _, c_standx hW I cb, ⟨Nat.le_of_ble_eq_true rfl, Nat.le_of_ble_eq_true rfl, Nat.le_of_ble_eq_true rfl, Nat.le_of_ble_eq_true rfl⟩, fun _ _ z => False.elim z, ?_⟩
    rintro v9 h9 ⟨e9, rfl⟩
    obtain rfl : h = h9 := e9.symm
    conv => whnf
    refine ⟨fun c19 => ?_, fun c19 => ?_⟩
    · have c19 : ¬ (z_b (if b.toInt < 0 then true else z_st (z_c h x) b.toNatClampNeg)).toInt = 0 := c19
      have hT : (if b.toInt < 0 then true else z_st (z_c h x) b.toNatClampNeg) = true := by
        cases z : (if b.toInt < 0 then true else z_st (z_c h x) b.toNatClampNeg) with
        | true => rfl
        | false => rw [z] at c19; exact absurd (by decide) c19
      exact j_use hF (G106 g3 q4 eg hq4 okp ⟨by rw [eP]; omega, by rw [c6]; exact c16, hT⟩ k3) (And.intro rfl (And.intro rfl (And.intro rfl (And.intro rfl (And.intro rfl trivial)))))
    · have c19 : ¬ ¬ (z_b (if b.toInt < 0 then true else z_st (z_c h x) b.toNatClampNeg)).toInt = 0 := c19
      conv => whnf
      exact ⟨⟨Nat.le_of_ble_eq_true rfl, Nat.le_of_ble_eq_true rfl⟩, ⟨Nat.le_of_ble_eq_true rfl, Nat.le_of_ble_eq_true rfl⟩, Or.inr ⟨rfl, okp, fun z => c19 (fun y => by rw [z.2.2] at y; exact absurd y (by decide))⟩, rfl⟩
  have L31 : z_okp (z_c h x) a b → J 31 [some (j_r (some x)), some (j_i a), some (j_i b), none, none, none] [] h 0 0 := by
    intro okp
    have ka' : 0 ≤ a.toInt ∧ a.toInt < (j_it h L1 2).toInt := by rw [← eR]; exact okp.1
    refine hJ [68] 400 _ _ _ _ _ _ ?_
    conv => whnf
    refine ⟨_, rfl, kx, fun o eo => ?_⟩
    obtain rfl : o = some L1 := eo.symm.trans e1
    conv => whnf
    refine ⟨l1.1, rfl, _, _, _, _, _, _, c_AL_get (h := h) l1 j_Sc.rf j_sf_ok ka'.1 ka'.2, ⟨Nat.le_of_ble_eq_true rfl, Nat.le_of_ble_eq_true rfl, Nat.le_of_ble_eq_true rfl, Nat.le_of_ble_eq_true rfl⟩, fun _ _ z => False.elim z, ?_⟩
    rintro v9 h9 ⟨e9, g8, rfl, kg8, xg8⟩
    obtain rfl : h = h9 := e9.symm
    have eg := z_el_get e1 xg8
    conv => whnf
    refine ⟨Or.inr ⟨_, rfl, kg8⟩, ?_⟩
    conv => whnf
    refine ⟨kx, rfl, _, _, _, _, _, _, c_isPrintx hW e2, ⟨Nat.le_of_ble_eq_true rfl, Nat.le_of_ble_eq_true rfl, Nat.le_of_ble_eq_true rfl, Nat.le_of_ble_eq_true rfl⟩, fun _ _ z => False.elim z, ?_⟩
    rintro v9 h9 ⟨e9, r9, rfl, zr9⟩
    obtain rfl : h = h9 := e9.symm
    conv => whnf
    refine ⟨fun c11 => ?_, fun c11 => ?_⟩
    · have c11 : r9.toInt = 0 := c11
      have nb : ¬ (0 ≤ b.toInt ∧ b.toInt < (j_it h L2 2).toInt) := by
        rcases zr9 with ⟨-, q⟩ | ⟨q, -⟩
        · rw [q, z1] at c11; exact absurd c11 (by decide)
        · exact q
      have hb : b = Int32.ofInt (-1) := Int32.toInt_inj.mp (by
        rw [zm]
        rcases okp.2 with q | q
        · exact q
        · rw [eP] at q; exact absurd q nb)
      exact j_use hF (L68 g8 none eg (Or.inl ⟨rfl, hb⟩) okp kg8) (And.intro rfl (And.intro rfl (And.intro rfl (And.intro rfl (And.intro rfl trivial)))))
    have c11 : ¬ r9.toInt = 0 := c11
    have kb : 0 ≤ b.toInt ∧ b.toInt < (j_it h L2 2).toInt := by
      rcases zr9 with ⟨q, -⟩ | ⟨-, q⟩
      · exact q
      · rw [q, z0] at c11; exact absurd rfl c11
    have hb : z_in h x 2 b.toNatClampNeg := by unfold z_in; rw [j_clamp kb.1, j_sz_e e2]; exact kb.2
    conv => whnf
    refine ⟨_, rfl, kx, fun o20 eo => ?_⟩
    obtain rfl : o20 = some L2 := eo.symm.trans e2
    conv => whnf
    refine ⟨l2.1, rfl, _, _, _, _, _, _, c_AL_get (h := h) l2 j_Sc.rf j_sf_ok kb.1 kb.2, ⟨Nat.le_of_ble_eq_true rfl, Nat.le_of_ble_eq_true rfl, Nat.le_of_ble_eq_true rfl, Nat.le_of_ble_eq_true rfl⟩, fun _ _ z => False.elim z, ?_⟩
    rintro v9 h9 ⟨e9, g21, rfl, kg21, xg21⟩
    obtain rfl : h = h9 := e9.symm
    conv => whnf
    refine ⟨Or.inr ⟨_, rfl, kg21⟩, ?_⟩
    exact j_use hF (L68 g8 (some g21) eg (Or.inr ⟨hb, kb.1, by rw [z_el_get e2 xg21]⟩) okp kg8) (And.intro rfl (And.intro rfl (And.intro rfl (And.intro rfl (And.intro rfl trivial)))))
  refine hJ [31] 400 _ _ _ _ _ _ ?_
  conv => whnf
  refine ⟨kx, rfl, _, _, _, _, _, _, c_isRunx hW e1, ⟨Nat.le_of_ble_eq_true rfl, Nat.le_of_ble_eq_true rfl, Nat.le_of_ble_eq_true rfl, Nat.le_of_ble_eq_true rfl⟩, fun _ _ z => False.elim z, ?_⟩
  rintro v9 h9 ⟨e9, r1, rfl, zr1⟩
  obtain rfl : h = h9 := e9.symm
  conv => whnf
  refine ⟨fun c3 => ?_, fun c3 => ?_⟩
  · have c3 : r1.toInt = 0 := c3
    have ka : ¬ (0 ≤ a.toInt ∧ a.toInt < ((z_c h x).1 1).toInt) := by
      rw [eR]
      rcases zr1 with ⟨-, q⟩ | ⟨q, -⟩
      · rw [q, z1] at c3; exact absurd c3 (by decide)
      · exact q
    conv => whnf
    exact ⟨⟨Nat.le_of_ble_eq_true rfl, Nat.le_of_ble_eq_true rfl⟩, ⟨Nat.le_of_ble_eq_true rfl, Nat.le_of_ble_eq_true rfl⟩, Or.inl ⟨rfl, fun z => ka z.1⟩, rfl⟩
  have c3 : ¬ r1.toInt = 0 := c3
  have ka : 0 ≤ a.toInt ∧ a.toInt < ((z_c h x).1 1).toInt := by
    rw [eR]
    rcases zr1 with ⟨q, -⟩ | ⟨-, q⟩
    · exact q
    · rw [q, z0] at c3; exact absurd rfl c3
  conv => whnf
  refine ⟨fun c6 => ?_, fun c6 => ?_⟩
  · have c6 : b.toInt = (Int32.ofInt (-1)).toInt := c6
    rw [zm] at c6
    exact j_use hF (L31 ⟨ka, Or.inl c6⟩) (And.intro rfl (And.intro rfl (And.intro rfl trivial)))
  have c6 : ¬ b.toInt = (Int32.ofInt (-1)).toInt := c6
  rw [zm] at c6
  conv => whnf
  refine ⟨kx, rfl, _, _, _, _, _, _, c_isPrintx hW e2, ⟨Nat.le_of_ble_eq_true rfl, Nat.le_of_ble_eq_true rfl, Nat.le_of_ble_eq_true rfl, Nat.le_of_ble_eq_true rfl⟩, fun _ _ z => False.elim z, ?_⟩
  rintro v9 h9 ⟨e9, r30, rfl, zr30⟩
  obtain rfl : h = h9 := e9.symm
  conv => whnf
  refine ⟨fun c32 => ?_, fun c32 => ?_⟩
  · have c32 : ¬ r30.toInt = 0 := c32
    have kb : 0 ≤ b.toInt ∧ b.toInt < ((z_c h x).1 2).toInt := by
      rw [eP]
      rcases zr30 with ⟨q, -⟩ | ⟨-, q⟩
      · exact q
      · rw [q, z0] at c32; exact absurd rfl c32
    exact j_use hF (L31 ⟨ka, Or.inr kb⟩) (And.intro rfl (And.intro rfl (And.intro rfl trivial)))
  · have c32 : ¬ ¬ r30.toInt = 0 := c32
    have kb : ¬ (0 ≤ b.toInt ∧ b.toInt < ((z_c h x).1 2).toInt) := by
      rw [eP]
      rcases zr30 with ⟨-, q⟩ | ⟨q, -⟩
      · rw [q, z1] at c32; exact absurd (by decide) c32
      · exact q
    conv => whnf
    exact ⟨⟨Nat.le_of_ble_eq_true rfl, Nat.le_of_ble_eq_true rfl⟩, ⟨Nat.le_of_ble_eq_true rfl, Nat.le_of_ble_eq_true rfl⟩, Or.inl ⟨rfl, fun z => z.2.elim c6 kb⟩, rfl⟩
