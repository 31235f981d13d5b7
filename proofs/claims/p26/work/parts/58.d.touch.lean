/-! motes, heat, washing: word for word -/
/-- a share of so many -/
def z_take (v s : Int32) : Int32 := v * s / (Int8.ofInt (100)).toInt32
/-- a share of the t-th kind of motes (0 mothers, 1 daughters) is taken out of the a-th grain -/
def n_touch (t0 : Nat) (z : j_Z) (a s : Int32) : j_Z := (z.1, fun k i t => if k = a.toNatClampNeg then (if t = t0 then z.2.1 k i t0 - z_take (z.2.1 k i t0) s else if t = 2 then z.2.1 k i 2 + z_take (z.2.1 k i t0) s else z.2.1 k i t) else z.2.1 k i t, fun k f => if k = a.toNatClampNeg then (if f = 2 then Int32.ofInt 1 else z.2.2.1 k f) else z.2.2.1 k f, z.2.2.2.1, z.2.2.2.2)
def a_touch (t0 : Nat) (z : j_Z) (a s : Int32) : Int32 := z_take (z.2.1 a.toNatClampNeg 0 t0) s + z_take (z.2.1 a.toNatClampNeg 1 t0) s
theorem j_uq {f : Nat → Nat → Int32} {q k b j : Nat} {v : Int32} : j_u f q k v b j = if b = q ∧ j = k then v else f b j := by
  unfold j_u
  by_cases h1 : j = k
  · by_cases h2 : b = q
    · rw [if_pos h1, if_pos h2, if_pos ⟨h2, h1⟩]
    · rw [if_pos h1, if_neg h2, if_neg (fun z => h2 z.1)]
  · rw [if_neg h1, if_neg (fun z => h1 z.2)]
set_option maxHeartbeats 4000000 in
set_option maxRecDepth 20000 in
theorem c_loseDx {h : j_H} {it : Nat → Nat → Int32} {y : Nat} {a : Int32} (ky : j_kd h y = some (.inl 5)) : j_Ct 148 0 0 0 0 [j_r (some y), j_i a] (j_wi h it) (fun v h' => v = some (j_i (z_take (it y 2) a)) ∧ h' = j_wi h (j_u (j_u it y 2 (it y 2 - z_take (it y 2) a)) y 3 (it y 3 + z_take (it y 2) a))) j_no := by
  refine j_intro km_148 (Nat.le_of_ble_eq_true rfl) ?_
  intro J hJ hF
  refine hJ [] 400 _ _ _ _ _ _ ?_
  conv => whnf
  refine ⟨_, rfl, ky, fun x1 ex1 => ?_⟩
  obtain rfl : x1 = it y 2 := ex1.symm
  conv => whnf
  refine ⟨by decide, ?_⟩
  conv => whnf
  refine ⟨_, rfl, ky, fun x2 ex2 => ?_⟩
  obtain rfl : x2 = it y 2 := ex2.symm
  conv => whnf
  refine ⟨_, rfl, ky, ?_⟩
  conv => whnf
  refine ⟨_, rfl, ky, fun x4 ex4 => ?_⟩
  obtain rfl : x4 = it y 3 := ex4.symm.trans (show j_u it y 2 (it y 2 - z_take (it y 2) a) y 3 = it y 3 from j_u_nk (by decide))
  conv => whnf
  refine ⟨_, rfl, ky, ?_⟩
  conv => whnf
  exact ⟨trivial, ⟨Nat.le_of_ble_eq_true rfl, Nat.le_of_ble_eq_true rfl⟩, rfl, rfl⟩
set_option maxHeartbeats 4000000 in
set_option maxRecDepth 20000 in
theorem c_loseMx {h : j_H} {it : Nat → Nat → Int32} {y : Nat} {a : Int32} (ky : j_kd h y = some (.inl 5)) : j_Ct 149 0 0 0 0 [j_r (some y), j_i a] (j_wi h it) (fun v h' => v = some (j_i (z_take (it y 1) a)) ∧ h' = j_wi h (j_u (j_u it y 1 (it y 1 - z_take (it y 1) a)) y 3 (it y 3 + z_take (it y 1) a))) j_no := by
  refine j_intro km_149 (Nat.le_of_ble_eq_true rfl) ?_
  intro J hJ hF
  refine hJ [] 400 _ _ _ _ _ _ ?_
  conv => whnf
  refine ⟨_, rfl, ky, fun x1 ex1 => ?_⟩
  obtain rfl : x1 = it y 1 := ex1.symm
  conv => whnf
  refine ⟨by decide, ?_⟩
  conv => whnf
  refine ⟨_, rfl, ky, fun x2 ex2 => ?_⟩
  obtain rfl : x2 = it y 1 := ex2.symm
  conv => whnf
  refine ⟨_, rfl, ky, ?_⟩
  conv => whnf
  refine ⟨_, rfl, ky, fun x4 ex4 => ?_⟩
  obtain rfl : x4 = it y 3 := ex4.symm.trans (show j_u it y 1 (it y 1 - z_take (it y 1) a) y 3 = it y 3 from j_u_nk (by decide))
  conv => whnf
  refine ⟨_, rfl, ky, ?_⟩
  conv => whnf
  exact ⟨trivial, ⟨Nat.le_of_ble_eq_true rfl, Nat.le_of_ble_eq_true rfl⟩, rfl, rfl⟩
/-- what x holds when a share is taken -/
theorem z_touched {h : j_H} {x : Nat} {a s : Int32} {t0 e m0 m1 : Nat} {it1 it2 it3 : Nat → Nat → Int32} (w : j_WF h x) (I : z_I h x) (ht : t0 < 2) (ha : z_in h x 0 a.toNatClampNeg) (he : z_el h x 0 a.toNatClampNeg = e) (h0 : z_mo h e 0 = m0) (h1 : z_mo h e 1 = m1) (e1 : it1 = j_u (j_it h) e 5 (Int32.ofInt 1)) (e2 : it2 = j_u (j_u it1 m0 (z_mf t0) (it1 m0 (z_mf t0) - z_take (it1 m0 (z_mf t0)) s)) m0 3 (it1 m0 3 + z_take (it1 m0 (z_mf t0)) s)) (e3 : it3 = j_u (j_u it2 m1 (z_mf t0) (it2 m1 (z_mf t0) - z_take (it2 m1 (z_mf t0)) s)) m1 3 (it2 m1 3 + z_take (it2 m1 (z_mf t0)) s)) :
    j_Fs x h (j_wi h it3) ∧ z_I (j_wi h it3) x ∧ z_eq (z_c (j_wi h it3) x) (n_touch t0 (z_c h x) a s) ∧ it1 m0 (z_mf t0) = z_cm h x a.toNatClampNeg 0 t0 ∧ it2 m1 (z_mf t0) = z_cm h x a.toNatClampNeg 1 t0 := by
  have ke : j_kd h e = some (.inl 4) := by rw [← he]; exact z_k0 w ha
  have k0 : j_kd h m0 = some (.inl 5) := by rw [← h0, ← he]; exact (z_km w ha (by decide)).2
  have k1 : j_kd h m1 = some (.inl 5) := by rw [← h1, ← he]; exact (z_km w ha (by decide)).2
  have n01 : m0 ≠ m1 := fun z => by
    rw [← h0, ← h1, ← he] at z
    exact absurd (I.m ha ha (by decide) (by decide) z).2 (by decide)
  have ne0 : m0 ≠ e := fun z => by rw [z, ke] at k0; cases k0
  have ne1 : m1 ≠ e := fun z => by rw [z, ke] at k1; cases k1
  have mf3 : z_mf t0 ≠ 3 := by
    match t0, ht with
    | 0, _ => decide
    | 1, _ => decide
    | n + 2, ht => omega
  have v0 : it1 m0 (z_mf t0) = j_it h m0 (z_mf t0) := by rw [e1]; exact j_u_ne ne0
  have v0' : it1 m0 3 = j_it h m0 3 := by rw [e1]; exact j_u_ne ne0
  have v1 : it2 m1 (z_mf t0) = j_it h m1 (z_mf t0) := by rw [e2]; exact (j_u_ne (fun z => n01 z.symm)).trans ((j_u_ne (fun z => n01 z.symm)).trans (by rw [e1]; exact j_u_ne ne1))
  have v1' : it2 m1 3 = j_it h m1 3 := by rw [e2]; exact (j_u_ne (fun z => n01 z.symm)).trans ((j_u_ne (fun z => n01 z.symm)).trans (by rw [e1]; exact j_u_ne ne1))
  have R : ∀ q f, it3 q f = if q = m1 ∧ f = 3 then j_it h m1 3 + z_take (j_it h m1 (z_mf t0)) s else if q = m1 ∧ f = z_mf t0 then j_it h m1 (z_mf t0) - z_take (j_it h m1 (z_mf t0)) s else if q = m0 ∧ f = 3 then j_it h m0 3 + z_take (j_it h m0 (z_mf t0)) s else if q = m0 ∧ f = z_mf t0 then j_it h m0 (z_mf t0) - z_take (j_it h m0 (z_mf t0)) s else if q = e ∧ f = 5 then Int32.ofInt 1 else j_it h q f := fun q f => by
    rw [e3, j_uq, j_uq, v1, v1', e2, j_uq, j_uq, v0, v0', e1, j_uq]
  have s9 : j_Sc z_S h it3 := fun q f hq => by
    rw [R]
    rw [if_neg (fun z => by have := hq 5 (by rw [z.1]; exact k1); rw [z.2] at this; cases this), if_neg (fun z => by
      have := hq 5 (by rw [z.1]; exact k1)
      rw [z.2] at this
      match t0, ht with
      | 0, _ => cases this
      | 1, _ => cases this
      | n + 2, ht => omega), if_neg (fun z => by have := hq 5 (by rw [z.1]; exact k0); rw [z.2] at this; cases this), if_neg (fun z => by
      have := hq 5 (by rw [z.1]; exact k0)
      rw [z.2] at this
      match t0, ht with
      | 0, _ => cases this
      | 1, _ => cases this
      | n + 2, ht => omega), if_neg (fun z => by have := hq 4 (by rw [z.1]; exact ke); rw [z.2] at this; cases this)]
  have un : ∀ q c, j_kd h q = some (.inl c) → c ≠ 4 → c ≠ 5 → ∀ f, it3 q f = j_it h q f := fun q c hq h4 h5 f => by
    rw [R, if_neg (fun z => by rw [z.1, k1] at hq; cases hq; exact h5 rfl), if_neg (fun z => by rw [z.1, k1] at hq; cases hq; exact h5 rfl), if_neg (fun z => by rw [z.1, k0] at hq; cases hq; exact h5 rfl), if_neg (fun z => by rw [z.1, k0] at hq; cases hq; exact h5 rfl), if_neg (fun z => by rw [z.1, ke] at hq; cases hq; exact h4 rfl)]
  obtain ⟨fr, I', q'⟩ := z_wi w I.1 s9 (fun k hk => by
    have kr := z_k1 w hk
    have c := I.2 k hk
    unfold z_ca at c ⊢
    show it3 (z_el h x 1 k) 8 = z_te (it3 x (j_pf (it3 (z_el h x 1 k) 1))) (it3 (z_el h x 1 k) 2) (it3 (z_el h x 1 k) 3) (it3 (z_el h x 1 k) 4) ∧ it3 (z_el h x 1 k) 9 = z_tl (it3 x (j_pf (it3 (z_el h x 1 k) 1))) (it3 (z_el h x 1 k) 2) (it3 (z_el h x 1 k) 3) (it3 (z_el h x 1 k) 4)
    have u := un _ 7 kr (by decide) (by decide)
    have ux := un x 8 w.1 (by decide) (by decide)
    rw [u 8, u 9, u 1, u 2, u 3, u 4, ux]
    exact c)
  refine ⟨fr.fs, I', q'.tr ⟨fun k hk => rfl, fun k i t hk hi ht' => ?_, fun k f hk hf => ?_, fun k f hk hf => ?_, fun k f hk hf => rfl⟩, by rw [v0, ← h0, ← he]; rfl, by rw [v1, ← h1, ← he]; rfl⟩
  · have hk : z_in h x 0 k := hk
    have km := (z_km w hk hi).2
    have hne : ∀ g, ¬ (z_mo h (z_el h x 0 k) i = e ∧ g = 5) := fun g z => by rw [z.1, ke] at km; cases km
    show it3 (z_mo h (z_el h x 0 k) i) (z_mf t) = if k = a.toNatClampNeg then (if t = t0 then z_cm h x k i t0 - z_take (z_cm h x k i t0) s else if t = 2 then z_cm h x k i 2 + z_take (z_cm h x k i t0) s else z_cm h x k i t) else z_cm h x k i t
    have mf : ∀ t t', t < 4 → t' < 4 → z_mf t = z_mf t' → t = t' := fun t t' h h' z => by
      match t, h, t', h' with
      | 0, _, 0, _ => rfl
      | 0, _, 1, _ => cases z
      | 0, _, 2, _ => cases z
      | 0, _, 3, _ => cases z
      | 1, _, 0, _ => cases z
      | 1, _, 1, _ => rfl
      | 1, _, 2, _ => cases z
      | 1, _, 3, _ => cases z
      | 2, _, 0, _ => cases z
      | 2, _, 1, _ => cases z
      | 2, _, 2, _ => rfl
      | 2, _, 3, _ => cases z
      | 3, _, 0, _ => cases z
      | 3, _, 1, _ => cases z
      | 3, _, 2, _ => cases z
      | 3, _, 3, _ => rfl
      | n + 4, h, _, _ => omega
      | _, _, n + 4, h' => omega
    rw [R]
    by_cases hka : k = a.toNatClampNeg
    · rw [if_pos hka]
      have hi2 : i = 0 ∨ i = 1 := by omega
      rcases hi2 with rfl | rfl
      · have em : z_mo h (z_el h x 0 k) 0 = m0 := by rw [hka, he, h0]
        have cm : ∀ t, z_cm h x k 0 t = j_it h m0 (z_mf t) := fun t => by unfold z_cm; rw [em]
        rw [em, if_neg (fun z => n01 z.1), if_neg (fun z => n01 z.1)]
        by_cases h2 : t = 2
        · rw [if_pos ⟨rfl, by rw [h2]; rfl⟩, if_neg (by omega), if_pos h2, cm 2, cm t0]
          rfl
        · rw [if_neg (fun z => h2 (mf t 2 ht' (by decide) z.2))]
          by_cases h3 : t = t0
          · rw [if_pos ⟨rfl, by rw [h3]⟩, if_pos h3, cm t0]
          · rw [if_neg (fun z => h3 (mf t t0 ht' (by omega) z.2)), if_neg (fun z => ne0 z.1), if_neg h3, if_neg h2, cm t]
      · have em : z_mo h (z_el h x 0 k) 1 = m1 := by rw [hka, he, h1]
        have cm : ∀ t, z_cm h x k 1 t = j_it h m1 (z_mf t) := fun t => by unfold z_cm; rw [em]
        rw [em]
        by_cases h2 : t = 2
        · rw [if_pos ⟨rfl, by rw [h2]; rfl⟩, if_neg (by omega), if_pos h2, cm 2, cm t0]
          rfl
        · rw [if_neg (fun z => h2 (mf t 2 ht' (by decide) z.2))]
          by_cases h3 : t = t0
          · rw [if_pos ⟨rfl, by rw [h3]⟩, if_pos h3, cm t0]
          · rw [if_neg (fun z => h3 (mf t t0 ht' (by omega) z.2)), if_neg (fun z => n01 z.1.symm), if_neg (fun z => n01 z.1.symm), if_neg (fun z => ne1 z.1), if_neg h3, if_neg h2, cm t]
    · have q0 : z_mo h (z_el h x 0 k) i ≠ m0 := fun z => by
        rw [← h0, ← he] at z
        exact hka (I.m hk ha hi (by decide) z).1
      have q1 : z_mo h (z_el h x 0 k) i ≠ m1 := fun z => by
        rw [← h1, ← he] at z
        exact hka (I.m hk ha hi (by decide) z).1
      rw [if_neg hka, if_neg (fun z => q1 z.1), if_neg (fun z => q1 z.1), if_neg (fun z => q0 z.1), if_neg (fun z => q0 z.1), if_neg (hne _)]
      rfl
  · have hk : z_in h x 0 k := hk
    have kg := z_k0 w hk
    show it3 (z_el h x 0 k) (z_gf f) = if k = a.toNatClampNeg then (if f = 2 then Int32.ofInt 1 else z_cg h x k f) else z_cg h x k f
    have q0 : z_el h x 0 k ≠ m0 := fun z => by rw [z, k0] at kg; cases kg
    have q1 : z_el h x 0 k ≠ m1 := fun z => by rw [z, k1] at kg; cases kg
    rw [R, if_neg (fun z => q1 z.1), if_neg (fun z => q1 z.1), if_neg (fun z => q0 z.1), if_neg (fun z => q0 z.1)]
    by_cases hka : k = a.toNatClampNeg
    · rw [if_pos hka]
      by_cases h2 : f = 2
      · rw [if_pos ⟨by rw [hka, he], by rw [h2]; rfl⟩, if_pos h2]
      · rw [if_neg (fun z => by
          match f, hf with
          | 0, _ => exact absurd z.2 (by decide)
          | 1, _ => exact absurd z.2 (by decide)
          | 2, _ => exact h2 rfl
          | n + 3, hf => omega), if_neg h2]
        rfl
    · rw [if_neg (fun z => hka (I.g hk ha (z.1.trans he.symm))), if_neg hka]
      rfl
  · have hk : z_in h x 1 k := hk
    match f, hf with
    | 6, _ => exact un _ 7 (z_k1 w hk) (by decide) (by decide) 7
    | 0, _ => rfl
    | 1, _ => rfl
    | 2, _ => rfl
    | 3, _ => rfl
    | 4, _ => rfl
    | 5, _ => rfl
    | n + 7, hf => omega
set_option maxHeartbeats 4000000 in
set_option maxRecDepth 20000 in
theorem c_G_heatx {h : j_H} {x : Nat} {a b : Int32} (hW : j_WF h x) (I : z_I h x) : j_Ct 103 6 90 1 6 [j_r (some x), j_i a, j_i b] h (fun v h' => ((0 ≤ a.toInt ∧ a.toInt < (j_sz h x 0).toInt) ∧ (0 ≤ b.toInt ∧ b.toInt ≤ 100)) ∧ v = some (j_i (a_touch 1 (z_c h x) a b)) ∧ j_Fs x h h' ∧ z_I h' x ∧ z_eq (z_c h' x) (n_touch 1 (z_c h x) a b)) (fun k h' => ((k = 2 ∧ ¬ (0 ≤ a.toInt ∧ a.toInt < (j_sz h x 0).toInt)) ∨ (k = 0 ∧ (0 ≤ a.toInt ∧ a.toInt < (j_sz h x 0).toInt) ∧ ¬ (0 ≤ b.toInt ∧ b.toInt ≤ 100))) ∧ h' = h) := by
  refine j_intro km_103 (Nat.le_of_ble_eq_true rfl) ?_
  intro J hJ hF
  obtain ⟨kx, hG, L0, L1, L2, e0, l0, e1, l1, e2, l2, ap, pn⟩ := id hW
  have z0 : (Int32.ofInt 0).toInt = 0 := by decide
  have z1 : (Int32.ofInt 1).toInt = 1 := by decide
  have z100 : (Int32.ofInt 100).toInt = 100 := by decide
  have eG : j_sz h x 0 = j_it h L0 2 := j_sz_e e0
  refine hJ [] 400 _ _ _ _ _ _ ?_
  conv => whnf
  refine ⟨kx, rfl, _, _, _, _, _, _, c_isGrainx hW e0, ⟨Nat.le_of_ble_eq_true rfl, Nat.le_of_ble_eq_true rfl, Nat.le_of_ble_eq_true rfl, Nat.le_of_ble_eq_true rfl⟩, fun _ _ z => False.elim z, ?_⟩
  rintro v9 h9 ⟨e9, r1, rfl, zr1⟩
  obtain rfl : h = h9 := e9.symm
  conv => whnf
  refine ⟨fun c3 => ?_, fun c3 => ?_⟩
  rotate_left
  · have c3 : ¬ ¬ r1.toInt = 0 := c3
    have ka : ¬ (0 ≤ a.toInt ∧ a.toInt < (j_sz h x 0).toInt) := by
      rw [eG]
      rcases zr1 with ⟨-, q⟩ | ⟨q, -⟩
      · rw [q, z1] at c3; exact absurd (by decide) c3
      · exact q
    conv => whnf
    exact ⟨⟨Nat.le_of_ble_eq_true rfl, Nat.le_of_ble_eq_true rfl⟩, ⟨Nat.le_of_ble_eq_true rfl, Nat.le_of_ble_eq_true rfl⟩, Or.inl ⟨rfl, ka⟩, rfl⟩
  have c3 : ¬ r1.toInt = 0 := c3
  have ka : 0 ≤ a.toInt ∧ a.toInt < (j_sz h x 0).toInt := by
    rw [eG]
    rcases zr1 with ⟨q, -⟩ | ⟨-, q⟩
    · exact q
    · rw [q, z0] at c3; exact absurd rfl c3
  have ka' : 0 ≤ a.toInt ∧ a.toInt < (j_it h L0 2).toInt := by rw [← eG]; exact ka
  have hin : z_in h x 0 a.toNatClampNeg := by unfold z_in; rw [j_clamp ka.1]; exact ka.2
  conv => whnf
  refine ⟨rfl, _, _, _, _, _, _, c_within, ⟨Nat.le_of_ble_eq_true rfl, Nat.le_of_ble_eq_true rfl, Nat.le_of_ble_eq_true rfl, Nat.le_of_ble_eq_true rfl⟩, fun _ _ z => False.elim z, ?_⟩
  rintro v9 h9 ⟨e9, r4, rfl, zr4⟩
  obtain rfl : h = h9 := e9.symm
  conv => whnf
  refine ⟨fun c5 => ?_, fun c5 => ?_⟩
  rotate_left
  · have c5 : ¬ ¬ r4.toInt = 0 := c5
    have kb : ¬ (0 ≤ b.toInt ∧ b.toInt ≤ 100) := by
      rcases zr4 with ⟨-, -, q⟩ | ⟨q, -⟩
      · rw [q, z1] at c5; exact absurd (by decide) c5
      · intro z
        refine q ⟨?_, ?_⟩
        · show (Int32.ofInt 0).toInt ≤ _; rw [z0]; exact z.1
        · show _ ≤ (Int32.ofInt 100).toInt; rw [z100]; exact z.2
    conv => whnf
    exact ⟨⟨Nat.le_of_ble_eq_true rfl, Nat.le_of_ble_eq_true rfl⟩, ⟨Nat.le_of_ble_eq_true rfl, Nat.le_of_ble_eq_true rfl⟩, Or.inr ⟨rfl, ka, kb⟩, rfl⟩
  have c5 : ¬ r4.toInt = 0 := c5
  have kb : 0 ≤ b.toInt ∧ b.toInt ≤ 100 := by
    rcases zr4 with ⟨q1, q2, -⟩ | ⟨-, q⟩
    · have q1 : (Int32.ofInt 0).toInt ≤ b.toInt := q1
      have q2 : b.toInt ≤ (Int32.ofInt 100).toInt := q2
      rw [z0] at q1
      rw [z100] at q2
      exact ⟨q1, q2⟩
    · rw [q, z0] at c5; exact absurd rfl c5
  conv => whnf
  refine ⟨_, rfl, kx, fun o6 eo => ?_⟩
  obtain rfl : o6 = some L0 := eo.symm.trans e0
  conv => whnf
  refine ⟨l0.1, rfl, _, _, _, _, _, _, c_AL_get (h := h) l0 j_Sc.rf j_sf_ok ka'.1 ka'.2, ⟨Nat.le_of_ble_eq_true rfl, Nat.le_of_ble_eq_true rfl, Nat.le_of_ble_eq_true rfl, Nat.le_of_ble_eq_true rfl⟩, fun _ _ z => False.elim z, ?_⟩
  rintro v9 h9 ⟨e9, e, rfl, ke, xg7⟩
  obtain rfl : h = h9 := e9.symm
  have he : z_el h x 0 a.toNatClampNeg = e := z_el_get e0 xg7
  obtain ⟨r0, k0⟩ := z_km hW hin (show 0 < 2 by decide)
  obtain ⟨r1', k1⟩ := z_km hW hin (show 1 < 2 by decide)
  rw [he] at r0 k0 r1' k1
  conv => whnf
  refine ⟨Or.inr ⟨_, rfl, ke⟩, ?_⟩
  conv => whnf
  refine ⟨Or.inr rfl, _, rfl, ke, ?_⟩
  conv => whnf
  refine ⟨_, rfl, ke, fun o9 eo => ?_⟩
  obtain rfl : o9 = some (z_mo h e 0) := eo.symm.trans r0
  conv => whnf
  refine ⟨k0, rfl, _, _, _, _, _, _, c_loseDx (h := h) (it := j_u (j_it h) e 5 (Int32.ofInt 1)) k0, ⟨Nat.le_of_ble_eq_true rfl, Nat.le_of_ble_eq_true rfl, Nat.le_of_ble_eq_true rfl, Nat.le_of_ble_eq_true rfl⟩, fun _ _ z => False.elim z, ?_⟩
  rintro v9 h9 ⟨rfl, rfl⟩
  conv => whnf
  refine ⟨_, rfl, ke, fun o13 eo => ?_⟩
  obtain rfl : o13 = some (z_mo h e 1) := eo.symm.trans r1'
  conv => whnf
  refine ⟨k1, rfl, _, _, _, _, _, _, c_loseDx (h := h) k1, ⟨Nat.le_of_ble_eq_true rfl, Nat.le_of_ble_eq_true rfl, Nat.le_of_ble_eq_true rfl, Nat.le_of_ble_eq_true rfl⟩, fun _ _ z => False.elim z, ?_⟩
  rintro v9 h9 ⟨rfl, rfl⟩
  obtain ⟨t1, t2, t3, t4, t5⟩ := z_touched (t0 := 1) (s := b) hW I (by decide) hin he rfl rfl rfl rfl rfl
  conv => whnf
  refine ⟨trivial, ⟨Nat.le_of_ble_eq_true rfl, Nat.le_of_ble_eq_true rfl⟩, ⟨ka, kb⟩, ?_, t1, t2, t3⟩
  unfold a_touch
  rw [show (z_c h x).2.1 a.toNatClampNeg 0 1 = z_cm h x a.toNatClampNeg 0 1 from rfl, show (z_c h x).2.1 a.toNatClampNeg 1 1 = z_cm h x a.toNatClampNeg 1 1 from rfl, ← t4, ← t5]
  rfl
set_option maxHeartbeats 4000000 in
set_option maxRecDepth 20000 in
theorem c_G_washx {h : j_H} {x : Nat} {a b : Int32} (hW : j_WF h x) (I : z_I h x) : j_Ct 140 6 90 1 6 [j_r (some x), j_i a, j_i b] h (fun v h' => ((0 ≤ a.toInt ∧ a.toInt < (j_sz h x 0).toInt) ∧ (0 ≤ b.toInt ∧ b.toInt ≤ 100)) ∧ v = some (j_i (a_touch 0 (z_c h x) a b)) ∧ j_Fs x h h' ∧ z_I h' x ∧ z_eq (z_c h' x) (n_touch 0 (z_c h x) a b)) (fun k h' => ((k = 2 ∧ ¬ (0 ≤ a.toInt ∧ a.toInt < (j_sz h x 0).toInt)) ∨ (k = 0 ∧ (0 ≤ a.toInt ∧ a.toInt < (j_sz h x 0).toInt) ∧ ¬ (0 ≤ b.toInt ∧ b.toInt ≤ 100))) ∧ h' = h) := by
  refine j_intro km_140 (Nat.le_of_ble_eq_true rfl) ?_
  intro J hJ hF
  obtain ⟨kx, hG, L0, L1, L2, e0, l0, e1, l1, e2, l2, ap, pn⟩ := id hW
  have z0 : (Int32.ofInt 0).toInt = 0 := by decide
  have z1 : (Int32.ofInt 1).toInt = 1 := by decide
  have z100 : (Int32.ofInt 100).toInt = 100 := by decide
  have eG : j_sz h x 0 = j_it h L0 2 := j_sz_e e0
  refine hJ [] 400 _ _ _ _ _ _ ?_
  conv => whnf
  refine ⟨kx, rfl, _, _, _, _, _, _, c_isGrainx hW e0, ⟨Nat.le_of_ble_eq_true rfl, Nat.le_of_ble_eq_true rfl, Nat.le_of_ble_eq_true rfl, Nat.le_of_ble_eq_true rfl⟩, fun _ _ z => False.elim z, ?_⟩
  rintro v9 h9 ⟨e9, r1, rfl, zr1⟩
  obtain rfl : h = h9 := e9.symm
  conv => whnf
  refine ⟨fun c3 => ?_, fun c3 => ?_⟩
  rotate_left
  · have c3 : ¬ ¬ r1.toInt = 0 := c3
    have ka : ¬ (0 ≤ a.toInt ∧ a.toInt < (j_sz h x 0).toInt) := by
      rw [eG]
      rcases zr1 with ⟨-, q⟩ | ⟨q, -⟩
      · rw [q, z1] at c3; exact absurd (by decide) c3
      · exact q
    conv => whnf
    exact ⟨⟨Nat.le_of_ble_eq_true rfl, Nat.le_of_ble_eq_true rfl⟩, ⟨Nat.le_of_ble_eq_true rfl, Nat.le_of_ble_eq_true rfl⟩, Or.inl ⟨rfl, ka⟩, rfl⟩
  have c3 : ¬ r1.toInt = 0 := c3
  have ka : 0 ≤ a.toInt ∧ a.toInt < (j_sz h x 0).toInt := by
    rw [eG]
    rcases zr1 with ⟨q, -⟩ | ⟨-, q⟩
    · exact q
    · rw [q, z0] at c3; exact absurd rfl c3
  have ka' : 0 ≤ a.toInt ∧ a.toInt < (j_it h L0 2).toInt := by rw [← eG]; exact ka
  have hin : z_in h x 0 a.toNatClampNeg := by unfold z_in; rw [j_clamp ka.1]; exact ka.2
  conv => whnf
  refine ⟨rfl, _, _, _, _, _, _, c_within, ⟨Nat.le_of_ble_eq_true rfl, Nat.le_of_ble_eq_true rfl, Nat.le_of_ble_eq_true rfl, Nat.le_of_ble_eq_true rfl⟩, fun _ _ z => False.elim z, ?_⟩
  rintro v9 h9 ⟨e9, r4, rfl, zr4⟩
  obtain rfl : h = h9 := e9.symm
  conv => whnf
  refine ⟨fun c5 => ?_, fun c5 => ?_⟩
  rotate_left
  · have c5 : ¬ ¬ r4.toInt = 0 := c5
    have kb : ¬ (0 ≤ b.toInt ∧ b.toInt ≤ 100) := by
      rcases zr4 with ⟨-, -, q⟩ | ⟨q, -⟩
      · rw [q, z1] at c5; exact absurd (by decide) c5
      · intro z
        refine q ⟨?_, ?_⟩
        · show (Int32.ofInt 0).toInt ≤ _; rw [z0]; exact z.1
        · show _ ≤ (Int32.ofInt 100).toInt; rw [z100]; exact z.2
    conv => whnf
    exact ⟨⟨Nat.le_of_ble_eq_true rfl, Nat.le_of_ble_eq_true rfl⟩, ⟨Nat.le_of_ble_eq_true rfl, Nat.le_of_ble_eq_true rfl⟩, Or.inr ⟨rfl, ka, kb⟩, rfl⟩
  have c5 : ¬ r4.toInt = 0 := c5
  have kb : 0 ≤ b.toInt ∧ b.toInt ≤ 100 := by
    rcases zr4 with ⟨q1, q2, -⟩ | ⟨-, q⟩
    · have q1 : (Int32.ofInt 0).toInt ≤ b.toInt := q1
      have q2 : b.toInt ≤ (Int32.ofInt 100).toInt := q2
      rw [z0] at q1
      rw [z100] at q2
      exact ⟨q1, q2⟩
    · rw [q, z0] at c5; exact absurd rfl c5
  conv => whnf
  refine ⟨_, rfl, kx, fun o6 eo => ?_⟩
  obtain rfl : o6 = some L0 := eo.symm.trans e0
  conv => whnf
  refine ⟨l0.1, rfl, _, _, _, _, _, _, c_AL_get (h := h) l0 j_Sc.rf j_sf_ok ka'.1 ka'.2, ⟨Nat.le_of_ble_eq_true rfl, Nat.le_of_ble_eq_true rfl, Nat.le_of_ble_eq_true rfl, Nat.le_of_ble_eq_true rfl⟩, fun _ _ z => False.elim z, ?_⟩
  rintro v9 h9 ⟨e9, e, rfl, ke, xg7⟩
  obtain rfl : h = h9 := e9.symm
  have he : z_el h x 0 a.toNatClampNeg = e := z_el_get e0 xg7
  obtain ⟨r0, k0⟩ := z_km hW hin (show 0 < 2 by decide)
  obtain ⟨r1', k1⟩ := z_km hW hin (show 1 < 2 by decide)
  rw [he] at r0 k0 r1' k1
  conv => whnf
  refine ⟨Or.inr ⟨_, rfl, ke⟩, ?_⟩
  conv => whnf
  refine ⟨Or.inr rfl, _, rfl, ke, ?_⟩
  conv => whnf
  refine ⟨_, rfl, ke, fun o9 eo => ?_⟩
  obtain rfl : o9 = some (z_mo h e 0) := eo.symm.trans r0
  conv => whnf
  refine ⟨k0, rfl, _, _, _, _, _, _, c_loseMx (h := h) (it := j_u (j_it h) e 5 (Int32.ofInt 1)) k0, ⟨Nat.le_of_ble_eq_true rfl, Nat.le_of_ble_eq_true rfl, Nat.le_of_ble_eq_true rfl, Nat.le_of_ble_eq_true rfl⟩, fun _ _ z => False.elim z, ?_⟩
  rintro v9 h9 ⟨rfl, rfl⟩
  conv => whnf
  refine ⟨_, rfl, ke, fun o13 eo => ?_⟩
  obtain rfl : o13 = some (z_mo h e 1) := eo.symm.trans r1'
  conv => whnf
  refine ⟨k1, rfl, _, _, _, _, _, _, c_loseMx (h := h) k1, ⟨Nat.le_of_ble_eq_true rfl, Nat.le_of_ble_eq_true rfl, Nat.le_of_ble_eq_true rfl, Nat.le_of_ble_eq_true rfl⟩, fun _ _ z => False.elim z, ?_⟩
  rintro v9 h9 ⟨rfl, rfl⟩
  obtain ⟨t1, t2, t3, t4, t5⟩ := z_touched (t0 := 0) (s := b) hW I (by decide) hin he rfl rfl rfl rfl rfl
  conv => whnf
  refine ⟨trivial, ⟨Nat.le_of_ble_eq_true rfl, Nat.le_of_ble_eq_true rfl⟩, ⟨ka, kb⟩, ?_, t1, t2, t3⟩
  unfold a_touch
  rw [show (z_c h x).2.1 a.toNatClampNeg 0 0 = z_cm h x a.toNatClampNeg 0 0 from rfl, show (z_c h x).2.1 a.toNatClampNeg 1 0 = z_cm h x a.toNatClampNeg 1 0 from rfl, ← t4, ← t5]
  rfl
