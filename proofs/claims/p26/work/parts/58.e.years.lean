/-! years that go by; paces and slip that are told: word for word -/
/-- values that can be -/
def z_V (z : j_Z) : Prop := ((2 ≤ (z.1 3).toInt ∧ (z.1 3).toInt ≤ 200) ∧ (2 ≤ (z.1 4).toInt ∧ (z.1 4).toInt ≤ 200)) ∧ (0 ≤ (z.1 5).toInt ∧ (z.1 5).toInt ≤ 9) ∧
  (∀ k i, z_lt z 0 k → i < 2 → 0 ≤ (z.2.1 k i 0).toInt ∧ 0 ≤ (z.2.1 k i 1).toInt ∧ (z.2.1 k i 0).toInt + (z.2.1 k i 1).toInt ≤ 9999) ∧
  ∀ k, z_lt z 1 k → ((z.2.2.2.1 k 1).toInt = 0 ∨ (z.2.2.2.1 k 1).toInt = 1) ∧ (0 ≤ (z.2.2.2.1 k 2).toInt ∧ (z.2.2.2.1 k 2).toInt ≤ 10008) ∧ (0 ≤ (z.2.2.2.1 k 3).toInt ∧ (z.2.2.2.1 k 3).toInt ≤ 10008) ∧ (0 ≤ (z.2.2.2.1 k 4).toInt ∧ (z.2.2.2.1 k 4).toInt ≤ 9)
theorem z_V.eq {A B : j_Z} (v : z_V A) (e : z_eq B A) : z_V B := by
  obtain ⟨⟨v1, v2⟩, v3, v4, v5⟩ := v
  refine ⟨⟨by rw [e.1 3 (by decide)]; exact v1, by rw [e.1 4 (by decide)]; exact v2⟩, by rw [e.1 5 (by decide)]; exact v3, fun k i hk hi => ?_, fun k hk => ?_⟩
  · rw [e.2.1 k i 0 hk hi (by decide), e.2.1 k i 1 hk hi (by decide)]
    exact v4 k i (e.lt (by decide) hk) hi
  · rw [e.2.2.2.1 k 1 hk (by decide), e.2.2.2.1 k 2 hk (by decide), e.2.2.2.1 k 3 hk (by decide), e.2.2.2.1 k 4 hk (by decide)]
    exact v5 k (e.lt (by decide) hk)
/-- what is subtracted, at least 0 -/
theorem z_mx {m s : Int32} (m0 : 0 ≤ m.toInt) (m1 : m.toInt ≤ 10008) (s0 : 0 ≤ s.toInt) (s1 : s.toInt ≤ 9) : 0 ≤ (if Int32.ofInt (0) < (m - s) then (m - s) else Int32.ofInt (0)).toInt ∧ (if Int32.ofInt (0) < (m - s) then (m - s) else Int32.ofInt (0)).toInt ≤ 10008 := by
  have e : (Int32.ofInt 0).toInt = 0 := by decide
  have d : (m - s).toInt = m.toInt - s.toInt := j_subI (by omega) (by omega)
  by_cases z : Int32.ofInt (0) < (m - s)
  · rw [if_pos z]
    rw [Int32.lt_iff_toInt_lt, e] at z
    omega
  · rw [if_neg z, e]
    omega
theorem z_b1 {m d s : Int32} (m0 : 0 ≤ m.toInt) (m1 : m.toInt ≤ 10008) (d0 : 0 ≤ d.toInt) (d1 : d.toInt ≤ 10008) (s0 : 0 ≤ s.toInt) (s1 : s.toInt ≤ 9) : 0 ≤ ((m + s) + (if Int32.ofInt (0) < (d - s) then (d - s) else Int32.ofInt (0))).toInt := by
  have a := z_mx d0 d1 s0 s1
  have b : (m + s).toInt = m.toInt + s.toInt := j_addI (by omega) (by omega)
  rw [j_addI (by rw [b]; omega) (by rw [b]; omega), b]
  omega
theorem z_b2 {m d s : Int32} (m0 : 0 ≤ m.toInt) (m1 : m.toInt ≤ 10008) (d0 : 0 ≤ d.toInt) (d1 : d.toInt ≤ 10008) (s0 : 0 ≤ s.toInt) (s1 : s.toInt ≤ 9) : 0 ≤ (((if Int32.ofInt (0) < (m - s) then (m - s) else Int32.ofInt (0)) + d) + s).toInt := by
  have a := z_mx m0 m1 s0 s1
  have b : ((if Int32.ofInt (0) < (m - s) then (m - s) else Int32.ofInt (0)) + d).toInt = (if Int32.ofInt (0) < (m - s) then (m - s) else Int32.ofInt (0)).toInt + d.toInt := j_addI (by omega) (by omega)
  rw [j_addI (by rw [b]; omega) (by rw [b]; omega), b]
  omega
set_option maxHeartbeats 4000000 in
set_option maxRecDepth 20000 in
theorem c_turnx {h : j_H} {it : Nat → Nat → Int32} {y : Nat} {a b : Int32} (ky : j_kd h y = some (.inl 5)) (hp : 2 ≤ b.toInt) (hm : 0 ≤ (it y 1).toInt) (ha : 0 ≤ a.toInt) : j_Ct 150 2 46 0 0 [j_r (some y), j_i a, j_i b] (j_wi h it) (fun v h' => v = none ∧ h' = j_wi h (j_u (j_u it y 2 (it y 2 + (it y 1 - t_left b a.toNatClampNeg (it y 1)))) y 1 (t_left b a.toNatClampNeg (it y 1)))) j_no := by
  refine j_intro km_150 (Nat.le_of_ble_eq_true rfl) ?_
  intro J hJ hF
  refine hJ [] 400 _ _ _ _ _ _ ?_
  conv => whnf
  refine ⟨_, rfl, ky, fun x1 ex1 => ?_⟩
  obtain rfl : x1 = it y 1 := ex1.symm
  conv => whnf
  refine ⟨rfl, _, _, _, _, _, _, c_Table_leftx (h := j_wi h it) hp hm ha, ⟨Nat.le_of_ble_eq_true rfl, Nat.le_of_ble_eq_true rfl, Nat.le_of_ble_eq_true rfl, Nat.le_of_ble_eq_true rfl⟩, fun _ _ z => False.elim z, ?_⟩
  rintro v9 h9 ⟨rfl, rfl⟩
  conv => whnf
  refine ⟨_, rfl, ky, fun x3 ex3 => ?_⟩
  obtain rfl : x3 = it y 2 := ex3.symm
  conv => whnf
  refine ⟨_, rfl, ky, fun x4 ex4 => ?_⟩
  obtain rfl : x4 = it y 1 := ex4.symm
  conv => whnf
  refine ⟨_, rfl, ky, ?_⟩
  conv => whnf
  refine ⟨_, rfl, ky, ?_⟩
  conv => whnf
  exact ⟨rfl, ⟨Nat.le_of_ble_eq_true rfl, Nat.le_of_ble_eq_true rfl⟩, rfl, rfl⟩
/-- the years that go by -/
def z_lf (z : j_Z) (a : Int32) (k i : Nat) : Int32 := t_left (z.1 (3 + i)) a.toNatClampNeg (z.2.1 k i 0)
def n_years (z : j_Z) (a : Int32) : j_Z := (j_u1 z.1 6 (z.1 6 + a), fun k i t => if t = 0 then z_lf z a k i else if t = 1 then z.2.1 k i 1 + (z.2.1 k i 0 - z_lf z a k i) else z.2.1 k i t, z.2.2.1, z.2.2.2.1, z.2.2.2.2)
def z_Sp (c k : Nat) : Bool := Nat.beq c 5 && (Nat.beq k 1 || Nat.beq k 2)
/-- the first k grains have turned -/
def z_tn (h : j_H) (x : Nat) (a : Int32) (k : Nat) (it : Nat → Nat → Int32) : Prop := j_Sc z_Sp h it ∧ ∀ j i, z_in h x 0 j → i < 2 →
  (j < k → it (z_mo h (z_el h x 0 j) i) 1 = z_lf (z_c h x) a j i ∧ it (z_mo h (z_el h x 0 j) i) 2 = z_cm h x j i 1 + (z_cm h x j i 0 - z_lf (z_c h x) a j i)) ∧ (k ≤ j → it (z_mo h (z_el h x 0 j) i) 1 = z_cm h x j i 0 ∧ it (z_mo h (z_el h x 0 j) i) 2 = z_cm h x j i 1)
theorem z_tn.rf {h : j_H} {x : Nat} {a : Int32} : z_tn h x a 0 (j_it h) := ⟨j_Sc.rf, fun j i _ _ => ⟨fun z => by omega, fun _ => ⟨rfl, rfl⟩⟩⟩
/-- one grain more: its motes m0, m1 -/
theorem z_tn.st {h : j_H} {x k m0 m1 : Nat} {a : Int32} {it it1 it2 : Nat → Nat → Int32} (w : j_WF h x) (I : z_I h x) (t : z_tn h x a k it) (hk : z_in h x 0 k) (h0 : z_mo h (z_el h x 0 k) 0 = m0) (h1 : z_mo h (z_el h x 0 k) 1 = m1)
    (e1 : it1 = j_u (j_u it m0 2 (it m0 2 + (it m0 1 - t_left (j_it h x 3) a.toNatClampNeg (it m0 1)))) m0 1 (t_left (j_it h x 3) a.toNatClampNeg (it m0 1))) (e2 : it2 = j_u (j_u it1 m1 2 (it1 m1 2 + (it1 m1 1 - t_left (j_it h x 4) a.toNatClampNeg (it1 m1 1)))) m1 1 (t_left (j_it h x 4) a.toNatClampNeg (it1 m1 1))) : z_tn h x a (k + 1) it2 ∧ it1 m1 1 = z_cm h x k 1 0 := by
  have k0 : j_kd h m0 = some (.inl 5) := by rw [← h0]; exact (z_km w hk (by decide)).2
  have k1 : j_kd h m1 = some (.inl 5) := by rw [← h1]; exact (z_km w hk (by decide)).2
  have n01 : m0 ≠ m1 := fun z => by
    rw [← h0, ← h1] at z
    exact absurd (I.m hk hk (by decide) (by decide) z).2 (by decide)
  have p0 := (t.2 k 0 hk (by decide)).2 (Nat.le_refl k)
  have p1 := (t.2 k 1 hk (by decide)).2 (Nat.le_refl k)
  rw [h0] at p0
  rw [h1] at p1
  have q1 : it1 m1 1 = z_cm h x k 1 0 := by rw [e1, j_u_ne (fun z => n01 z.symm), j_u_ne (fun z => n01 z.symm)]; exact p1.1
  have q2 : it1 m1 2 = z_cm h x k 1 1 := by rw [e1, j_u_ne (fun z => n01 z.symm), j_u_ne (fun z => n01 z.symm)]; exact p1.2
  have R : ∀ q f, it2 q f = if q = m1 ∧ f = 1 then z_lf (z_c h x) a k 1 else if q = m1 ∧ f = 2 then z_cm h x k 1 1 + (z_cm h x k 1 0 - z_lf (z_c h x) a k 1) else if q = m0 ∧ f = 1 then z_lf (z_c h x) a k 0 else if q = m0 ∧ f = 2 then z_cm h x k 0 1 + (z_cm h x k 0 0 - z_lf (z_c h x) a k 0) else it q f := fun q f => by
    rw [e2, j_uq, j_uq, q1, q2, e1, j_uq, j_uq, p0.1, p0.2]
    rfl
  refine ⟨⟨fun q f hq => ?_, fun j i hj hi => ?_⟩, q1⟩
  · rw [R, if_neg (fun z => by have := hq 5 (by rw [z.1]; exact k1); rw [z.2] at this; cases this), if_neg (fun z => by have := hq 5 (by rw [z.1]; exact k1); rw [z.2] at this; cases this), if_neg (fun z => by have := hq 5 (by rw [z.1]; exact k0); rw [z.2] at this; cases this), if_neg (fun z => by have := hq 5 (by rw [z.1]; exact k0); rw [z.2] at this; cases this)]
    exact t.1 q f hq
  · by_cases hjk : j = k
    · subst hjk
      refine ⟨fun _ => ?_, fun z => by omega⟩
      have hi2 : i = 0 ∨ i = 1 := by omega
      rcases hi2 with rfl | rfl
      · rw [h0, R, R, if_neg (fun z => n01 z.1), if_neg (fun z => n01 z.1), if_pos ⟨rfl, rfl⟩, if_neg (fun z => n01 z.1), if_neg (fun z => n01 z.1), if_neg (fun z => absurd z.2 (by decide)), if_pos ⟨rfl, rfl⟩]
        exact ⟨rfl, rfl⟩
      · rw [h1, R, R, if_pos ⟨rfl, rfl⟩, if_neg (fun z => absurd z.2 (by decide)), if_pos ⟨rfl, rfl⟩]
        exact ⟨rfl, rfl⟩
    · have u0 : z_mo h (z_el h x 0 j) i ≠ m0 := fun z => by rw [← h0] at z; exact hjk (I.m hj hk hi (by decide) z).1
      have u1 : z_mo h (z_el h x 0 j) i ≠ m1 := fun z => by rw [← h1] at z; exact hjk (I.m hj hk hi (by decide) z).1
      have g : ∀ f, it2 (z_mo h (z_el h x 0 j) i) f = it (z_mo h (z_el h x 0 j) i) f := fun f => by rw [R, if_neg (fun z => u1 z.1), if_neg (fun z => u1 z.1), if_neg (fun z => u0 z.1), if_neg (fun z => u0 z.1)]
      rw [g 1, g 2]
      exact ⟨fun z => (t.2 j i hj hi).1 (by omega), fun z => (t.2 j i hj hi).2 (by omega)⟩
/-- one of x's own numbers written -/
theorem z_x0 {h : j_H} {x f : Nat} {v : Int32} (w : j_WF h x) (I : z_I0 h x) (hf : 3 ≤ f ∧ f ≤ 6) : j_Fs x h (j_up h x f (j_i v)) ∧ z_I0 (j_up h x f (j_i v)) x ∧ z_eq (z_c (j_up h x f (j_i v)) x) (j_u1 (z_cn h x) f v, (z_c h x).2) := by
  obtain ⟨fs, -⟩ := j_Fs.x (a := v) w (show 3 ≤ f from hf.1)
  have ne : ∀ q c, j_kd h q = some (.inl c) → c ≠ 8 → ∀ j, j_it (j_up h x f (j_i v)) q j = j_it h q j := fun q c hq hc j => (j_up_ne h (j_i v) (fun z => by rw [z, w.1] at hq; cases hq; exact hc rfl) j).1
  have sz : ∀ i, i < 3 → j_sz (j_up h x f (j_i v)) x i = j_sz h x i := fun i hi => by
    have ex : ∃ L, j_rf h x i = some L := by
      obtain ⟨-, -, L0, L1, L2, e0, -, e1, -, e2, -⟩ := w
      match i, hi with
      | 0, _ => exact ⟨L0, e0⟩
      | 1, _ => exact ⟨L1, e1⟩
      | 2, _ => exact ⟨L2, e2⟩
      | n + 3, hi => omega
    obtain ⟨L, e⟩ := ex
    rw [j_sz_e e, j_sz_e (h := j_up h x f (j_i v)) e]
    exact ne L 3 (w.own hi e).1 (by decide) 2
  have q : ∀ i k, i < 3 → z_in (j_up h x f (j_i v)) x i k → z_in h x i k := fun i k hi h9 => by
    unfold z_in at h9 ⊢
    rw [sz i hi] at h9
    exact h9
  have q' : ∀ i k, i < 3 → z_in h x i k → z_in (j_up h x f (j_i v)) x i k := fun i k hi h9 => by
    unfold z_in at h9 ⊢
    rw [sz i hi]
    exact h9
  have n0 : ∀ k, z_in h x 0 k → ∀ j, j_it (j_up h x f (j_i v)) (z_el h x 0 k) j = j_it h (z_el h x 0 k) j := fun k hk j => ne _ 4 (z_k0 w hk) (by decide) j
  have n1 : ∀ k, z_in h x 1 k → ∀ j, j_it (j_up h x f (j_i v)) (z_el h x 1 k) j = j_it h (z_el h x 1 k) j := fun k hk j => ne _ 7 (z_k1 w hk) (by decide) j
  have n2 : ∀ k, z_in h x 2 k → ∀ j, j_it (j_up h x f (j_i v)) (z_el h x 2 k) j = j_it h (z_el h x 2 k) j := fun k hk j => ne _ 6 (z_k2 w hk) (by decide) j
  refine ⟨fs, ⟨fun k hk => ?_, ?_, fun k hk => ?_, fun k hk => ?_⟩, fun k hk => ?_, fun k i t hk hi ht => ?_, fun k g hk hg => ?_, fun k g hk hg => ?_, fun k g hk hg => ?_⟩
  · have hk := q 0 k (by decide) hk
    show (j_it (j_up h x f (j_i v)) (z_el h x 0 k) 0).toInt = _
    rw [n0 k hk 0]
    exact I.1 k hk
  · obtain ⟨μ, hμ⟩ := I.2.1
    exact ⟨μ, fun k i hk hi => hμ k i (q 0 k (by decide) hk) hi⟩
  · have hk := q 1 k (by decide) hk
    obtain ⟨a, g, g1, g2⟩ := I.2.2.1 k hk
    refine ⟨?_, g, q' 0 g (by decide) g1, g2⟩
    show (j_it (j_up h x f (j_i v)) (z_el h x 1 k) 0).toInt = _
    rw [n1 k hk 0]
    exact a
  · have hk := q 2 k (by decide) hk
    obtain ⟨a, ⟨r, r1, r2⟩, b⟩ := I.2.2.2 k hk
    refine ⟨?_, ⟨r, q' 1 r (by decide) r1, r2⟩, b⟩
    show (j_it (j_up h x f (j_i v)) (z_el h x 2 k) 0).toInt = _
    rw [n2 k hk 0]
    exact a
  · show z_cn (j_up h x f (j_i v)) x k = j_u1 (z_cn h x) f v k
    unfold j_u1
    match k, hk with
    | 0, _ => rw [if_neg (by omega)]; exact sz 0 (by decide)
    | 1, _ => rw [if_neg (by omega)]; exact sz 1 (by decide)
    | 2, _ => rw [if_neg (by omega)]; exact sz 2 (by decide)
    | n + 3, hk =>
      show j_it (j_up h x f (j_i v)) x (n + 3) = _
      by_cases z : n + 3 = f
      · rw [if_pos z, z]; exact j_upi
      · rw [if_neg z]; exact j_upm z
  · exact ne _ 5 (z_km w (q 0 k (by decide) hk) hi).2 (by decide) _
  · exact n0 k (q 0 k (by decide) hk) _
  · have hk := q 1 k (by decide) hk
    match g, hg with
    | 0, _ =>
      obtain ⟨a, g, g1, g2⟩ := I.2.2.1 k hk
      show j_it (j_up h x f (j_i v)) ((j_rf h (z_el h x 1 k) 6).getD 0) 0 = j_it h ((j_rf h (z_el h x 1 k) 6).getD 0) 0
      rw [g2, Option.getD_some]
      exact n0 g g1 0
    | 1, _ => exact n1 k hk 1
    | 2, _ => exact n1 k hk 2
    | 3, _ => exact n1 k hk 3
    | 4, _ => exact n1 k hk 4
    | 5, _ => exact n1 k hk 5
    | 6, _ => exact n1 k hk 7
    | n + 7, hg => omega
  · have hk := q 2 k (by decide) hk
    obtain ⟨a, ⟨r, r1, r2⟩, b⟩ := I.2.2.2 k hk
    match g, hg with
    | 0, _ =>
      show j_it (j_up h x f (j_i v)) ((j_rf h (z_el h x 2 k) 1).getD 0) 0 = j_it h ((j_rf h (z_el h x 2 k) 1).getD 0) 0
      rw [r2, Option.getD_some]
      exact n1 r r1 0
    | 1, _ => exact n2 k hk 2
    | 2, _ =>
      show (match j_rf h (z_el h x 2 k) 3 with | none => Int32.ofInt (-1) | some b => j_it (j_up h x f (j_i v)) b 0) = (match j_rf h (z_el h x 2 k) 3 with | none => Int32.ofInt (-1) | some b => j_it h b 0)
      rcases b with b | ⟨q', q1, q2⟩
      · rw [b]
      · rw [q2]
        exact n2 q' (by unfold z_in at hk ⊢; omega) 0
    | n + 3, hg => omega
theorem z_x {h : j_H} {x f : Nat} {v : Int32} (w : j_WF h x) (I : z_I h x) (hf : f = 5 ∨ f = 6) : j_Fs x h (j_up h x f (j_i v)) ∧ z_I (j_up h x f (j_i v)) x ∧ z_eq (z_c (j_up h x f (j_i v)) x) (j_u1 (z_cn h x) f v, (z_c h x).2) := by
  obtain ⟨fs, I0, e⟩ := z_x0 (v := v) w I.1 (show 3 ≤ f ∧ f ≤ 6 by omega)
  refine ⟨fs, ⟨I0, fun k hk => ?_⟩, e⟩
  have hk : z_in h x 1 k := e.lt (i := 1) (by decide) (show z_lt (z_c (j_up h x f (j_i v)) x) 1 k from hk) |> fun z => by
    unfold z_lt at z
    have z : (k : Int) < (j_u1 (z_cn h x) f v 1).toInt := z
    rw [show (j_u1 (z_cn h x) f v) 1 = z_cn h x 1 from if_neg (by omega)] at z
    exact z
  have ne : ∀ j, j_it (j_up h x f (j_i v)) (z_el h x 1 k) j = j_it h (z_el h x 1 k) j := fun j => (j_up_ne h (j_i v) (fun z => by have := z_k1 w hk; rw [z, w.1] at this; cases this) j).1
  have c := I.2 k hk
  unfold z_ca at c ⊢
  have hp : j_it (j_up h x f (j_i v)) x (j_pf (j_it h (z_el h x 1 k) 1)) = j_it h x (j_pf (j_it h (z_el h x 1 k) 1)) := j_upm (by
    unfold j_pf
    by_cases z : (j_it h (z_el h x 1 k) 1).toInt = 0
    · rw [if_pos z]; omega
    · rw [if_neg z]; omega)
  show j_it (j_up h x f (j_i v)) (z_el h x 1 k) 8 = z_te (j_it (j_up h x f (j_i v)) x (j_pf (j_it (j_up h x f (j_i v)) (z_el h x 1 k) 1))) (j_it (j_up h x f (j_i v)) (z_el h x 1 k) 2) (j_it (j_up h x f (j_i v)) (z_el h x 1 k) 3) (j_it (j_up h x f (j_i v)) (z_el h x 1 k) 4) ∧ j_it (j_up h x f (j_i v)) (z_el h x 1 k) 9 = z_tl (j_it (j_up h x f (j_i v)) x (j_pf (j_it (j_up h x f (j_i v)) (z_el h x 1 k) 1))) (j_it (j_up h x f (j_i v)) (z_el h x 1 k) 2) (j_it (j_up h x f (j_i v)) (z_el h x 1 k) 3) (j_it (j_up h x f (j_i v)) (z_el h x 1 k) 4)
  rw [ne 8, ne 9, ne 1, ne 2, ne 3, ne 4, hp]
  exact c
set_option maxHeartbeats 4000000 in
set_option maxRecDepth 20000 in
theorem c_G_passz {h : j_H} {x : Nat} {a : Int32} (hW : j_WF h x) (I : z_I h x) (V : z_V (z_c h x)) : j_Ct 129 6 90 1 6 [j_r (some x), j_i a] h (fun v h' => ((1 ≤ a.toInt ∧ a.toInt ≤ 300) ∧ (j_it h x 6 + a).toInt ≤ 3000) ∧ v = some (j_i (j_it h x 6 + a)) ∧ j_Fs x h h' ∧ z_I h' x ∧ z_eq (z_c h' x) (n_years (z_c h x) a)) (fun k h' => ((k = 0 ∧ ¬ (1 ≤ a.toInt ∧ a.toInt ≤ 300)) ∨ (k = 1 ∧ (1 ≤ a.toInt ∧ a.toInt ≤ 300) ∧ ¬ (j_it h x 6 + a).toInt ≤ 3000)) ∧ h' = h) := by
  refine j_intro km_129 (Nat.le_of_ble_eq_true rfl) ?_
  intro J hJ hF
  obtain ⟨kx, hG, L0, L1, L2, e0, l0, e1, l1, e2, l2, ap, pn⟩ := id hW
  have b0 := l0.2.1; have d0 := l0.2.2.1
  have z0 : (Int32.ofInt 0).toInt = 0 := by decide
  have z1 : (Int32.ofInt 1).toInt = 1 := by decide
  have z300 : (Int32.ofInt 300).toInt = 300 := by decide
  have z3000 : (Int32.ofInt 3000).toInt = 3000 := by decide
  have eG : j_sz h x 0 = j_it h L0 2 := j_sz_e e0
  have vp3 : 2 ≤ (j_it h x 3).toInt := V.1.1.1
  have vp4 : 2 ≤ (j_it h x 4).toInt := V.1.2.1
  refine hJ [45] 400 _ _ _ _ _ _ ?_
  conv => whnf
  refine ⟨rfl, _, _, _, _, _, _, c_within, ⟨Nat.le_of_ble_eq_true rfl, Nat.le_of_ble_eq_true rfl, Nat.le_of_ble_eq_true rfl, Nat.le_of_ble_eq_true rfl⟩, fun _ _ z => False.elim z, ?_⟩
  rintro v9 h9 ⟨e9, r1, rfl, zr1⟩
  obtain rfl : h = h9 := e9.symm
  conv => whnf
  refine ⟨fun c2 => ?_, fun c2 => ?_⟩
  rotate_left
  · have c2 : ¬ ¬ r1.toInt = 0 := c2
    have ca : ¬ (1 ≤ a.toInt ∧ a.toInt ≤ 300) := by
      rcases zr1 with ⟨-, -, q⟩ | ⟨q, -⟩
      · rw [q, z1] at c2; exact absurd (by decide) c2
      · intro z
        refine q ⟨?_, ?_⟩
        · show (Int32.ofInt 1).toInt ≤ _; rw [z1]; exact z.1
        · show _ ≤ (Int32.ofInt 300).toInt; rw [z300]; exact z.2
    conv => whnf
    exact ⟨⟨Nat.le_of_ble_eq_true rfl, Nat.le_of_ble_eq_true rfl⟩, ⟨Nat.le_of_ble_eq_true rfl, Nat.le_of_ble_eq_true rfl⟩, Or.inl ⟨rfl, ca⟩, rfl⟩
  have c2 : ¬ r1.toInt = 0 := c2
  have ca : 1 ≤ a.toInt ∧ a.toInt ≤ 300 := by
    rcases zr1 with ⟨q1, q2, -⟩ | ⟨-, q⟩
    · have q1 : (Int32.ofInt 1).toInt ≤ a.toInt := q1
      have q2 : a.toInt ≤ (Int32.ofInt 300).toInt := q2
      rw [z1] at q1
      rw [z300] at q2
      exact ⟨q1, q2⟩
    · rw [q, z0] at c2; exact absurd rfl c2
  have ha : 0 ≤ a.toInt := by omega
  conv => whnf
  refine ⟨_, rfl, kx, fun x3 ex3 => ?_⟩
  obtain rfl : x3 = j_it h x 6 := ex3.symm
  conv => whnf
  refine ⟨fun c5 => ?_, fun c5 => ?_⟩
  rotate_left
  · have c5 : ¬ (j_it h x 6 + a).toInt ≤ (Int32.ofInt 3000).toInt := c5
    rw [z3000] at c5
    conv => whnf
    exact ⟨⟨Nat.le_of_ble_eq_true rfl, Nat.le_of_ble_eq_true rfl⟩, ⟨Nat.le_of_ble_eq_true rfl, Nat.le_of_ble_eq_true rfl⟩, Or.inr ⟨rfl, ca, c5⟩, rfl⟩
  have c5 : (j_it h x 6 + a).toInt ≤ (Int32.ofInt 3000).toInt := c5
  rw [z3000] at c5
  have L45 : ∀ (n : Nat) (v6 : Int32) (it : Nat → Nat → Int32), z_tn h x a v6.toNatClampNeg it → 0 ≤ v6.toInt → v6.toInt ≤ (j_it h L0 2).toInt → (j_it h L0 2).toInt - v6.toInt < (n : Int) → J 45 [some (j_r (some x)), some (j_i a), some (j_i v6), none] [] (j_wi h it) 0 0 := by
    intro n
    induction n with
    | zero => intro v6 it t hn hm hz; omega
    | succ n ih45 =>
      intro v6 it t hn hm hz
      have cl := j_clamp hn
      have sc : j_Sc z_S h it := t.1.mono (fun c k z => by
        unfold z_Sp at z
        obtain ⟨z1, z2⟩ := (Bool.and_eq_true _ _).mp z
        obtain rfl := Nat.eq_of_beq_eq_true z1
        rcases (Bool.or_eq_true _ _).mp z2 with z2 | z2
        · obtain rfl := Nat.eq_of_beq_eq_true z2; rfl
        · obtain rfl := Nat.eq_of_beq_eq_true z2; rfl)
      refine hJ [45] 400 _ _ _ _ _ _ ?_
      conv => whnf
      refine ⟨_, rfl, kx, fun o7 eo => ?_⟩
      obtain rfl : o7 = some L0 := eo.symm.trans e0
      conv => whnf
      refine ⟨l0.1, rfl, _, _, _, _, _, _, c_AL_size (h := h) l0 sc z_Sok, ⟨Nat.le_of_ble_eq_true rfl, Nat.le_of_ble_eq_true rfl, Nat.le_of_ble_eq_true rfl, Nat.le_of_ble_eq_true rfl⟩, fun _ _ z => False.elim z, ?_⟩
      rintro v9 h9 ⟨rfl, rfl⟩
      conv => whnf
      refine ⟨fun c8 => ?_, fun c8 => ?_⟩
      · have c8 : (j_it h L0 2).toInt ≤ v6.toInt := c8
        conv => whnf
        refine ⟨_, rfl, kx, fun x9 ex9 => ?_⟩
        obtain rfl : x9 = j_it h x 6 := ex9.symm.trans (sc.at kx rfl)
        conv => whnf
        refine ⟨_, rfl, kx, ?_⟩
        conv => whnf
        refine ⟨_, rfl, kx, fun x11 ex11 => ?_⟩
        obtain rfl : x11 = j_it h x 6 + a := ex11.symm.trans (show j_u it x 6 (j_it h x 6 + a) x 6 = j_it h x 6 + a from j_u_at)
        obtain ⟨f1, I1, q1⟩ := z_wi hW I.1 sc (fun k hk => by
          have kr := z_k1 hW hk
          have c := I.2 k hk
          unfold z_ca at c ⊢
          have u : ∀ j, it (z_el h x 1 k) j = j_it h (z_el h x 1 k) j := fun j => t.1.at kr rfl
          have ux : ∀ j, it x j = j_it h x j := fun j => t.1.at kx rfl
          show it (z_el h x 1 k) 8 = z_te (it x (j_pf (it (z_el h x 1 k) 1))) (it (z_el h x 1 k) 2) (it (z_el h x 1 k) 3) (it (z_el h x 1 k) 4) ∧ it (z_el h x 1 k) 9 = z_tl (it x (j_pf (it (z_el h x 1 k) 1))) (it (z_el h x 1 k) 2) (it (z_el h x 1 k) 3) (it (z_el h x 1 k) 4)
          rw [u 8, u 9, u 1, u 2, u 3, u 4, ux]
          exact c)
        obtain ⟨f2, I2, q2⟩ := z_x (v := j_it h x 6 + a) f1.1 I1 (Or.inr rfl)
        conv => whnf
        refine ⟨trivial, ⟨Nat.le_of_ble_eq_true rfl, Nat.le_of_ble_eq_true rfl⟩, ⟨ca, c5⟩, rfl, f1.fs.tr f2, I2, q2.tr ?_⟩
        refine ⟨fun k hk => ?_, fun k i t' hk hi ht => ?_, fun k g hk hg => (q1.2.2.1 k g hk hg).trans ?_, fun k g hk hg => (q1.2.2.2.1 k g hk hg).trans ?_, fun k g hk hg => q1.2.2.2.2 k g hk hg⟩
        · show j_u1 (z_cn (j_wi h it) x) 6 (j_it h x 6 + a) k = j_u1 (z_cn h x) 6 (z_cn h x 6 + a) k
          unfold j_u1
          by_cases z : k = 6
          · rw [if_pos z, if_pos z]; rfl
          · rw [if_neg z, if_neg z]; exact q1.1 k hk
        · have hk' : z_in h x 0 k := q1.lt (i := 0) (by decide) hk
          refine (q1.2.1 k i t' hk hi ht).trans ?_
          have tt := (t.2 k i hk' hi).1 (by unfold z_in at hk'; rw [eG] at hk'; omega)
          match t', ht with
          | 0, _ => exact tt.1
          | 1, _ => exact tt.2
          | 2, _ => exact t.1.at (z_km hW hk' hi).2 rfl
          | 3, _ => exact t.1.at (z_km hW hk' hi).2 rfl
          | n + 4, ht => omega
        · have hk' : z_in h x 0 k := q1.lt (i := 0) (by decide) hk
          exact t.1.at (z_k0 hW hk') rfl
        · have hk' : z_in h x 1 k := q1.lt (i := 1) (by decide) hk
          match g, hg with
          | 6, _ => exact t.1.at (z_k1 hW hk') rfl
          | 0, _ => rfl
          | 1, _ => rfl
          | 2, _ => rfl
          | 3, _ => rfl
          | 4, _ => rfl
          | 5, _ => rfl
          | n + 7, hg => omega
      · have c8 : ¬ (j_it h L0 2).toInt ≤ v6.toInt := c8
        have hin : z_in h x 0 v6.toNatClampNeg := by unfold z_in; rw [eG]; omega
        conv => whnf
        refine ⟨_, rfl, kx, fun o12 eo => ?_⟩
        obtain rfl : o12 = some L0 := eo.symm.trans e0
        conv => whnf
        refine ⟨l0.1, rfl, _, _, _, _, _, _, c_AL_get (h := h) l0 sc z_Sok (by omega) (by omega), ⟨Nat.le_of_ble_eq_true rfl, Nat.le_of_ble_eq_true rfl, Nat.le_of_ble_eq_true rfl, Nat.le_of_ble_eq_true rfl⟩, fun _ _ z => False.elim z, ?_⟩
        rintro v9 h9 ⟨rfl, e, rfl, ke, xg13⟩
        have he : z_el h x 0 v6.toNatClampNeg = e := z_el_get e0 xg13
        obtain ⟨r0, k0⟩ := z_km hW hin (show 0 < 2 by decide)
        obtain ⟨r1', k1⟩ := z_km hW hin (show 1 < 2 by decide)
        have p0 := (t.2 _ 0 hin (by decide)).2 (Nat.le_refl _)
        have vm := V.2.2.1 _ 0 hin (by decide)
        have vm1 := V.2.2.1 _ 1 hin (by decide)
        rw [he] at r0 k0 r1' k1 p0
        conv => whnf
        refine ⟨Or.inr ⟨_, rfl, ke⟩, ?_⟩
        conv => whnf
        refine ⟨_, rfl, ke, fun o14 eo => ?_⟩
        obtain rfl : o14 = some (z_mo h e 0) := eo.symm.trans r0
        conv => whnf
        refine ⟨_, rfl, kx, fun x16 ex16 => ?_⟩
        obtain rfl : x16 = j_it h x 3 := ex16.symm.trans (sc.at kx rfl)
        conv => whnf
        refine ⟨k0, rfl, _, _, _, _, _, _, c_turnx (h := h) k0 vp3 (by rw [p0.1]; exact vm.1) ha, ⟨Nat.le_of_ble_eq_true rfl, Nat.le_of_ble_eq_true rfl, Nat.le_of_ble_eq_true rfl, Nat.le_of_ble_eq_true rfl⟩, fun _ _ z => False.elim z, ?_⟩
        rintro v9 h9 ⟨rfl, rfl⟩
        conv => whnf
        refine ⟨_, rfl, ke, fun o19 eo => ?_⟩
        obtain rfl : o19 = some (z_mo h e 1) := eo.symm.trans r1'
        conv => whnf
        refine ⟨_, rfl, kx, fun x21 ex21 => ?_⟩
        have nx0 : x ≠ z_mo h e 0 := fun z => by rw [← z, kx] at k0; cases k0
        obtain rfl : x21 = j_it h x 4 := ex21.symm.trans (show j_u (j_u it (z_mo h e 0) 2 (it (z_mo h e 0) 2 + (it (z_mo h e 0) 1 - t_left (j_it h x 3) a.toNatClampNeg (it (z_mo h e 0) 1)))) (z_mo h e 0) 1 (t_left (j_it h x 3) a.toNatClampNeg (it (z_mo h e 0) 1)) x 4 = j_it h x 4 from (j_u_ne nx0).trans ((j_u_ne nx0).trans (sc.at kx rfl)))
        obtain ⟨t2, q2⟩ := t.st hW I hin (by rw [he]) (by rw [he]) rfl rfl
        conv => whnf
        refine ⟨k1, rfl, _, _, _, _, _, _, c_turnx (h := h) k1 vp4 (by rw [q2]; exact vm1.1) ha, ⟨Nat.le_of_ble_eq_true rfl, Nat.le_of_ble_eq_true rfl, Nat.le_of_ble_eq_true rfl, Nat.le_of_ble_eq_true rfl⟩, fun _ _ z => False.elim z, ?_⟩
        rintro v9 h9 ⟨rfl, rfl⟩
        have t24 : (v6 + Int32.ofInt 1).toInt = v6.toInt + 1 := j_inc1 (by omega)
        have cl2 := j_clamp (i := v6 + Int32.ofInt 1) (by omega)
        have ek : (v6 + Int32.ofInt 1).toNatClampNeg = v6.toNatClampNeg + 1 := by omega
        exact j_use hF (ih45 _ _ (by rw [ek]; exact t2) (by omega) (by omega) (by omega)) (And.intro rfl (And.intro rfl (And.intro rfl trivial)))
  have cl0 : (Int32.ofInt 0).toNatClampNeg = 0 := by decide
  exact j_use hF (L45 100 (Int32.ofInt 0) (j_it h) (by rw [cl0]; exact z_tn.rf) (by omega) (by omega) (by omega)) (And.intro rfl (And.intro rfl (And.intro rfl trivial)))
