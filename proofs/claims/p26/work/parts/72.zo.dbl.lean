/-! doubles: word for word -/
def z_dst (z : j_Z) (k : Nat) : Bool := decide (¬ (z.2.2.2.1 k 6).toInt = 0)
def z_ms (z : j_Z) (k j : Nat) : Bool := decide ((z_lr z j).toInt < (z_er z k).toInt) || decide ((z_lr z k).toInt < (z_er z j).toInt)
def z_mt (z : j_Z) (k j : Nat) : Bool := (z_dst z k && z_dst z j) && z_ms z k j
def z_dlb (z : j_Z) (k g : Nat) : Bool := decide ((z.2.2.2.1 k 0).toInt = (g : Int))
def z_db (z : j_Z) (k j : Nat) : Bool := z_mt z k j && decide ((z.2.2.2.1 j 0).toInt = (z.2.2.2.1 k 0).toInt)
def z_sm (f : Nat → Nat) : Nat → Nat
  | 0 => 0
  | n + 1 => z_sm f n + f n
/-- how many doubles -/
def z_dbn (z : j_Z) : Nat := z_sm (fun k => z_ct (z_db z k) k) (z.1 1).toNatClampNeg
theorem z_ms_s {z : j_Z} {k j : Nat} : z_ms z k j = z_ms z j k := Bool.or_comm _ _
theorem z_mt_s {z : j_Z} {k j : Nat} : z_mt z k j = z_mt z j k := by
  unfold z_mt
  rw [z_ms_s, Bool.and_comm (z_dst z k)]
theorem z_db_s {z : j_Z} {k j : Nat} : z_db z k j = z_db z j k := by
  unfold z_db
  rw [z_mt_s, show decide ((z.2.2.2.1 j 0).toInt = (z.2.2.2.1 k 0).toInt) = decide ((z.2.2.2.1 k 0).toInt = (z.2.2.2.1 j 0).toInt) from decide_eq_decide.mpr ⟨Eq.symm, Eq.symm⟩]
theorem z_sm_c {f g : Nat → Nat} : ∀ n, (∀ k, k < n → f k = g k) → z_sm f n = z_sm g n := by
  intro n
  induction n with
  | zero => intro _; rfl
  | succ n ih =>
    intro h
    show z_sm f n + f n = z_sm g n + g n
    rw [ih (fun k hk => h k (by omega)), h n (by omega)]
theorem z_sm_add {f g : Nat → Nat} : ∀ n, z_sm (fun k => f k + g k) n = z_sm f n + z_sm g n := by
  intro n
  induction n with
  | zero => rfl
  | succ n ih =>
    show z_sm (fun k => f k + g k) n + (f n + g n) = z_sm f n + f n + (z_sm g n + g n)
    rw [ih]
    omega
theorem z_sm_ct {f : Nat → Bool} : ∀ n, z_sm (fun k => (f k).toNat) n = z_ct f n := by
  intro n
  induction n with
  | zero => rfl
  | succ n ih =>
    show z_sm (fun k => (f k).toNat) n + (f n).toNat = z_ct f n + (f n).toNat
    rw [ih]
theorem z_sm_le {f : Nat → Nat} {c : Nat} (h : ∀ k, f k ≤ c) : ∀ n, z_sm f n ≤ n * c := by
  intro n
  induction n with
  | zero => exact Nat.zero_le _
  | succ n ih =>
    show z_sm f n + f n ≤ (n + 1) * c
    have := h n
    rw [Nat.succ_mul]
    omega
/-- each pair is counted at both of its ends -/
theorem z_twice {f : Nat → Nat → Bool} (s : ∀ k j, f k j = f j k) : ∀ n, z_sm (fun k => z_ct (fun j => decide (k ≠ j) && f k j) n) n = 2 * z_sm (fun k => z_ct (f k) k) n := by
  intro n
  induction n with
  | zero => rfl
  | succ n ih =>
    have a : z_sm (fun k => z_ct (fun j => decide (k ≠ j) && f k j) (n + 1)) n = z_sm (fun k => z_ct (fun j => decide (k ≠ j) && f k j) n) n + z_ct (f n) n := by
      rw [← z_sm_ct, ← z_sm_add]
      refine z_sm_c n (fun k hk => ?_)
      show z_ct (fun j => decide (k ≠ j) && f k j) n + (decide (k ≠ n) && f k n).toNat = _
      rw [decide_eq_true (show k ≠ n by omega), Bool.true_and, s k n]
    have b : z_ct (fun j => decide (n ≠ j) && f n j) (n + 1) = z_ct (f n) n := by
      show z_ct (fun j => decide (n ≠ j) && f n j) n + (decide (n ≠ n) && f n n).toNat = _
      rw [decide_eq_false (fun q => q rfl), Bool.false_and, z_ct_c n (fun k hk => show (decide (n ≠ k) && f n k) = f n k by rw [decide_eq_true (show n ≠ k by omega), Bool.true_and])]
      rfl
    show z_sm (fun k => z_ct (fun j => decide (k ≠ j) && f k j) (n + 1)) n + z_ct (fun j => decide (n ≠ j) && f n j) (n + 1) = 2 * (z_sm (fun k => z_ct (f k) k) n + z_ct (f n) n)
    rw [a, b, ih]
    omega
section DC
variable {A B : j_Z}
theorem z_mt_c (e : z_eq A B) {k j : Nat} (hk : z_lt A 1 k) (hj : z_lt A 1 j) : z_mt A k j = z_mt B k j := by
  unfold z_mt z_ms z_dst
  rw [z_er_c e hk, z_er_c e hj, z_lr_c e hk, z_lr_c e hj, e.2.2.2.1 k 6 hk (by decide), e.2.2.2.1 j 6 hj (by decide)]
theorem z_db_c (e : z_eq A B) {k j : Nat} (hk : z_lt A 1 k) (hj : z_lt A 1 j) : z_db A k j = z_db B k j := by
  unfold z_db
  rw [z_mt_c e hk hj, e.2.2.2.1 k 0 hk (by decide), e.2.2.2.1 j 0 hj (by decide)]
theorem z_dbn_c (e : z_eq A B) (h1 : 0 ≤ (A.1 1).toInt) : z_dbn A = z_dbn B := by
  unfold z_dbn
  rw [← e.1 1 (by decide)]
  exact z_sm_c _ (fun k hk => z_ct_c k (fun j hj => z_db_c e (z_ltn h1 hk) (z_ltn h1 (by omega))))
end DC
def z_pd (a b k j : Nat) : Bool := decide ((j < k ∧ (k < a ∨ (k = a ∧ j < b))) ∨ (k < j ∧ (j < a ∨ (j = a ∧ k < b))))
theorem z_pd_n {a b k j : Nat} (hb : b < a) (h : ¬ ((k = a ∧ j = b) ∨ (k = b ∧ j = a))) : z_pd a (b + 1) k j = z_pd a b k j := decide_eq_decide.mpr ⟨fun _ => by omega, fun _ => by omega⟩
theorem z_pd_s {a k j : Nat} : z_pd a a k j = z_pd (a + 1) 0 k j := decide_eq_decide.mpr ⟨fun _ => by omega, fun _ => by omega⟩
theorem z_pd_0 {k j : Nat} : z_pd 0 0 k j = false := decide_eq_false (by omega)
def z_DM (z : j_Z) (a b k j : Nat) : Bool := z_pd a b k j && z_mt z k j
def z_DT (z : j_Z) (v g j : Nat) : Bool := (decide (j < v) && z_dst z j) && z_dlb z j g
theorem z_DT_n {z : j_Z} {v g j : Nat} (h : z_dst z v = false ∨ z_dlb z v g = false) : z_DT z (v + 1) g j = z_DT z v g j := by
  unfold z_DT
  by_cases hj : j = v
  · subst hj
    rw [decide_eq_false (Nat.lt_irrefl j)]
    rcases h with h | h
    · rw [h, Bool.and_false, Bool.and_false]
    · rw [h, Bool.and_false, Bool.and_false]
  · rw [show decide (j < v + 1) = decide (j < v) from decide_eq_decide.mpr ⟨fun _ => by omega, fun _ => by omega⟩]
theorem z_DT_y {z : j_Z} {v g j : Nat} (h : z_dst z v = true) (h1 : z_dlb z v g = true) : z_DT z (v + 1) g j = (z_DT z v g j || decide (j = v)) := by
  unfold z_DT
  by_cases hj : j = v
  · subst hj
    rw [decide_eq_true (show j < j + 1 by omega), h, h1, decide_eq_true (rfl : j = j), Bool.or_true]
    rfl
  · rw [show decide (j < v + 1) = decide (j < v) from decide_eq_decide.mpr ⟨fun _ => by omega, fun _ => by omega⟩, decide_eq_false hj, Bool.or_false]
def z_M (h : j_H) (x : Nat) (it : Nat → Nat → Int32) (D : Nat → Nat → Bool) : Prop := ∀ k, z_in h x 1 k → ∀ j, z_bq (it (z_el h x 1 k) 10) j = D k j
def z_T (h : j_H) (x : Nat) (it : Nat → Nat → Int32) (D : Nat → Nat → Bool) : Prop := ∀ g, z_in h x 0 g → ∀ j, z_bq (it (z_el h x 0 g) 9) j = D g j
set_option maxHeartbeats 4000000 in
set_option maxRecDepth 20000 in
theorem c_Run_bitx {h : j_H} {y k : Nat} (ky : j_kd h y = some (.inl 7)) (hb : (j_it h y 0).toInt = (k : Int)) (hk : k ≤ 31) : j_Ct 153 0 0 0 0 [j_r (some y)] h (fun v h' => h' = h ∧ ∃ r, v = some (j_i r) ∧ ∀ j, z_bq r j = decide (j = k)) j_no := by
  refine j_intro km_153 (Nat.le_of_ble_eq_true rfl) ?_
  intro J hJ hF
  refine hJ [] 400 _ _ _ _ _ _ ?_
  conv => whnf
  refine ⟨_, rfl, ky, fun x1 ex1 => ?_⟩
  have hx : x1.toInt = (k : Int) := by rw [← ex1]; exact hb
  conv => whnf
  exact ⟨trivial, ⟨Nat.le_of_ble_eq_true rfl, Nat.le_of_ble_eq_true rfl⟩, rfl, _, rfl, fun j => z_bq_sh hx hk⟩
set_option maxHeartbeats 4000000 in
set_option maxRecDepth 20000 in
theorem c_Run_missesx {h : j_H} {x k j y z : Nat} (I : z_I h x) (hk : z_in h x 1 k) (hj : z_in h x 1 j) (hy : z_el h x 1 k = y) (hz : z_el h x 1 j = z) (ky : j_kd h y = some (.inl 7)) (kz : j_kd h z = some (.inl 7)) : j_Ct 158 1 21 0 0 [j_r (some y), j_r (some z), j_i (j_it h x 6)] h (fun v h' => h' = h ∧ ∃ r, v = some (j_i r) ∧ (¬ r.toInt = 0 ↔ z_ms (z_c h x) k j = true)) j_no := by
  refine j_intro km_158 (Nat.le_of_ble_eq_true rfl) ?_
  intro J hJ hF
  obtain ⟨Ek, hEk⟩ : ∃ r, r = z_er (z_c h x) k := ⟨_, rfl⟩
  obtain ⟨Lk, hLk⟩ : ∃ r, r = z_lr (z_c h x) k := ⟨_, rfl⟩
  obtain ⟨Ej, hEj⟩ : ∃ r, r = z_er (z_c h x) j := ⟨_, rfl⟩
  obtain ⟨Lj, hLj⟩ : ∃ r, r = z_lr (z_c h x) j := ⟨_, rfl⟩
  refine hJ [] 400 _ _ _ _ _ _ ?_
  conv => whnf
  refine ⟨ky, rfl, _, _, _, _, _, _, c_Run_earlyInx ky, ⟨Nat.le_of_ble_eq_true rfl, Nat.le_of_ble_eq_true rfl, Nat.le_of_ble_eq_true rfl, Nat.le_of_ble_eq_true rfl⟩, fun _ _ z => False.elim z, ?_⟩
  rintro o9 h9 ⟨e9, er⟩
  obtain rfl : o9 = some (j_i Ek) := er.trans (congrArg (fun r => some (j_i r)) (by rw [hEk, ← hy]; exact z_er_at I hk))
  obtain rfl : h = h9 := e9.symm
  conv => whnf
  refine ⟨kz, rfl, _, _, _, _, _, _, c_Run_lateInx kz, ⟨Nat.le_of_ble_eq_true rfl, Nat.le_of_ble_eq_true rfl, Nat.le_of_ble_eq_true rfl, Nat.le_of_ble_eq_true rfl⟩, fun _ _ z => False.elim z, ?_⟩
  rintro o9 h9 ⟨e9, er⟩
  obtain rfl : o9 = some (j_i Lj) := er.trans (congrArg (fun r => some (j_i r)) (by rw [hLj, ← hz]; exact z_lr_at I hj))
  obtain rfl : h = h9 := e9.symm
  conv => whnf
  refine ⟨fun c5 => ?_, fun c5 => ?_⟩
  · have c5 : Lj.toInt < Ek.toInt := c5
    conv => whnf
    refine ⟨Or.inr rfl, ⟨Nat.le_of_ble_eq_true rfl, Nat.le_of_ble_eq_true rfl⟩, rfl, _, rfl, fun _ => ?_, fun _ => by decide⟩
    unfold z_ms
    rw [← hLj, ← hEk, decide_eq_true c5, Bool.true_or]
  · have c5 : ¬ Lj.toInt < Ek.toInt := c5
    conv => whnf
    refine ⟨kz, rfl, _, _, _, _, _, _, c_Run_earlyInx kz, ⟨Nat.le_of_ble_eq_true rfl, Nat.le_of_ble_eq_true rfl, Nat.le_of_ble_eq_true rfl, Nat.le_of_ble_eq_true rfl⟩, fun _ _ z => False.elim z, ?_⟩
    rintro o9 h9 ⟨e9, er⟩
    obtain rfl : o9 = some (j_i Ej) := er.trans (congrArg (fun r => some (j_i r)) (by rw [hEj, ← hz]; exact z_er_at I hj))
    obtain rfl : h = h9 := e9.symm
    conv => whnf
    refine ⟨ky, rfl, _, _, _, _, _, _, c_Run_lateInx ky, ⟨Nat.le_of_ble_eq_true rfl, Nat.le_of_ble_eq_true rfl, Nat.le_of_ble_eq_true rfl, Nat.le_of_ble_eq_true rfl⟩, fun _ _ z => False.elim z, ?_⟩
    rintro o9 h9 ⟨e9, er⟩
    obtain rfl : o9 = some (j_i Lk) := er.trans (congrArg (fun r => some (j_i r)) (by rw [hLk, ← hy]; exact z_lr_at I hk))
    obtain rfl : h = h9 := e9.symm
    conv => whnf
    refine ⟨fun c10 => ?_, fun c10 => ?_⟩
    · have c10 : Ej.toInt ≤ Lk.toInt := c10
      conv => whnf
      refine ⟨Or.inl rfl, ⟨Nat.le_of_ble_eq_true rfl, Nat.le_of_ble_eq_true rfl⟩, rfl, _, rfl, fun q => absurd (show (Int32.ofInt (0)).toInt = 0 by decide) q, fun q => ?_⟩
      unfold z_ms at q
      rw [← hLj, ← hEk, ← hLk, ← hEj, decide_eq_false c5, decide_eq_false (show ¬ Lk.toInt < Ej.toInt by omega)] at q
      cases q
    · have c10 : ¬ Ej.toInt ≤ Lk.toInt := c10
      conv => whnf
      refine ⟨Or.inr rfl, ⟨Nat.le_of_ble_eq_true rfl, Nat.le_of_ble_eq_true rfl⟩, rfl, _, rfl, fun _ => ?_, fun _ => by decide⟩
      unfold z_ms
      rw [← hLk, ← hEj, decide_eq_true (show Lk.toInt < Ej.toInt by omega), Bool.or_true]
set_option maxHeartbeats 4000000 in
set_option maxRecDepth 20000 in
theorem c_G_markIfMissedx {h : j_H} {it : Nat → Nat → Int32} {x k j y z : Nat} (hW : j_WF h x) (I : z_I h x) (sc : j_Sc j_sf h it) (hk : z_in h x 1 k) (hj : z_in h x 1 j) (hkj : j < k) (hk20 : k < 20) (hy : z_el h x 1 k = y) (hz : z_el h x 1 j = z) (nm : z_M h x it (z_DM (z_c h x) k j)) (ky : j_kd h y = some (.inl 7)) (kz : j_kd h z = some (.inl 7)) : j_Ct 115 2 43 0 0 [j_r (some x), j_r (some y), j_r (some z)] (j_wi h it) (fun v h' => v = none ∧ ∃ it', h' = j_wi h it' ∧ j_Sc j_sf h it' ∧ (∀ q, it' q 9 = it q 9) ∧ z_M h x it' (z_DM (z_c h x) k (j + 1))) j_no := by
  refine j_intro km_115 (Nat.le_of_ble_eq_true rfl) ?_
  intro J hJ hF
  have kx := hW.1
  obtain ⟨-, I', eq'⟩ := z_notes hW I sc
  have hin' : ∀ i, z_in h x 1 i → z_in (j_wi h it) x 1 i := by
    intro i hi
    unfold z_in at hi ⊢
    rw [show j_sz (j_wi h it) x 1 = j_sz h x 1 from eq'.1 1 (by decide)]
    exact hi
  have sk : z_mt (z_c h x) k j = false → z_M h x it (z_DM (z_c h x) k (j + 1)) := by
    intro q i hi t
    rw [nm i hi t]
    unfold z_DM
    by_cases hn : (i = k ∧ t = j) ∨ (i = j ∧ t = k)
    · have : z_mt (z_c h x) i t = false := by
        rcases hn with ⟨a, b⟩ | ⟨a, b⟩
        · rw [a, b]
          exact q
        · rw [a, b, z_mt_s]
          exact q
      rw [this, Bool.and_false, Bool.and_false]
    · rw [z_pd_n hkj hn]
  refine hJ [] 400 _ _ _ _ _ _ ?_
  conv => whnf
  refine ⟨_, rfl, ky, fun x1 ex1 => ?_⟩
  obtain rfl : x1 = (z_c h x).2.2.2.1 k 6 := by rw [← ex1, ← hy]; exact sc.at (z_k1 hW hk) rfl
  conv => whnf
  refine ⟨fun c2 => ?_, fun c2 => ?_⟩
  · have c2 : ((z_c h x).2.2.2.1 k 6).toInt = 0 := c2
    conv => whnf
    refine ⟨rfl, ⟨Nat.le_of_ble_eq_true rfl, Nat.le_of_ble_eq_true rfl⟩, rfl, _, rfl, sc, fun _ => rfl, sk ?_⟩
    unfold z_mt z_dst
    rw [decide_eq_false (fun q => q c2), Bool.false_and, Bool.false_and]
  · have c2 : ¬ ((z_c h x).2.2.2.1 k 6).toInt = 0 := c2
    conv => whnf
    refine ⟨_, rfl, kz, fun x3 ex3 => ?_⟩
    obtain rfl : x3 = (z_c h x).2.2.2.1 j 6 := by rw [← ex3, ← hz]; exact sc.at (z_k1 hW hj) rfl
    conv => whnf
    refine ⟨fun c4 => ?_, fun c4 => ?_⟩
    · have c4 : ((z_c h x).2.2.2.1 j 6).toInt = 0 := c4
      conv => whnf
      refine ⟨rfl, ⟨Nat.le_of_ble_eq_true rfl, Nat.le_of_ble_eq_true rfl⟩, rfl, _, rfl, sc, fun _ => rfl, sk ?_⟩
      unfold z_mt z_dst
      rw [decide_eq_false (show ¬ ¬ ((z_c h x).2.2.2.1 j 6).toInt = 0 from fun q => q c4), Bool.and_false, Bool.false_and]
    · have c4 : ¬ ((z_c h x).2.2.2.1 j 6).toInt = 0 := c4
      conv => whnf
      refine ⟨_, rfl, kx, fun x5 ex5 => ?_⟩
      obtain rfl : x5 = j_it (j_wi h it) x 6 := ex5.symm
      conv => whnf
      refine ⟨ky, rfl, _, _, _, _, _, _, c_Run_missesx (h := j_wi h it) I' (hin' k hk) (hin' j hj) hy hz ky kz, ⟨Nat.le_of_ble_eq_true rfl, Nat.le_of_ble_eq_true rfl, Nat.le_of_ble_eq_true rfl, Nat.le_of_ble_eq_true rfl⟩, fun _ _ z => False.elim z, ?_⟩
      rintro v9 h9 ⟨rfl, r6, rfl, zr6⟩
      have ems : z_ms (z_c (j_wi h it) x) k j = z_ms (z_c h x) k j := by
        have hk' := hin' k hk
        have hj' := hin' j hj
        unfold z_ms
        rw [z_er_c eq' hk', z_er_c eq' hj', z_lr_c eq' hk', z_lr_c eq' hj']
      rw [ems] at zr6
      conv => whnf
      refine ⟨fun c7 => ?_, fun c7 => ?_⟩
      · have c7 : r6.toInt = 0 := c7
        conv => whnf
        refine ⟨rfl, ⟨Nat.le_of_ble_eq_true rfl, Nat.le_of_ble_eq_true rfl⟩, rfl, _, rfl, sc, fun _ => rfl, sk ?_⟩
        unfold z_mt
        cases q : z_ms (z_c h x) k j with
        | false => rw [Bool.and_false]
        | true => exact absurd c7 (zr6.mpr q)
      · have c7 : ¬ r6.toInt = 0 := c7
        have tt : z_mt (z_c h x) k j = true := by
          unfold z_mt z_dst
          rw [zr6.mp c7, decide_eq_true c2, decide_eq_true c4]
          rfl
        have hne : y ≠ z := fun q => by
          have := I.r hk hj (hy.trans (q.trans hz.symm))
          omega
        conv => whnf
        refine ⟨_, rfl, ky, fun x8 ex8 => ?_⟩
        have hx8 : ∀ t, z_bq x8 t = z_DM (z_c h x) k j k t := fun t => by
          rw [← ex8, ← hy]
          exact nm k hk t
        conv => whnf
        refine ⟨kz, rfl, _, _, _, _, _, _, c_Run_bitx (h := j_wi h it) (k := j) kz (by show (it z 0).toInt = (j : Int); rw [← hz, sc.at (z_k1 hW hj) rfl]; exact (I.1.2.2.1 j hj).1) (by omega), ⟨Nat.le_of_ble_eq_true rfl, Nat.le_of_ble_eq_true rfl, Nat.le_of_ble_eq_true rfl, Nat.le_of_ble_eq_true rfl⟩, fun _ _ z => False.elim z, ?_⟩
        rintro v9 h9 ⟨rfl, r9, rfl, hr9⟩
        conv => whnf
        refine ⟨_, rfl, ky, ?_⟩
        conv => whnf
        refine ⟨_, rfl, kz, fun x11 ex11 => ?_⟩
        have hx11 : ∀ t, z_bq x11 t = z_DM (z_c h x) k j j t := fun t => by
          rw [← nm j hj t, ← ex11, hz]
          show z_bq (j_u it y 10 (x8 ||| r9) z 10) t = z_bq (it z 10) t
          rw [z_une (Ne.symm hne)]
        conv => whnf
        refine ⟨ky, rfl, _, _, _, _, _, _, c_Run_bitx (h := j_wi h (j_u it y 10 (x8 ||| r9))) (k := k) ky (by show (j_u it y 10 (x8 ||| r9) y 0).toInt = (k : Int); rw [z_unk (show (0 : Nat) ≠ 10 by decide), ← hy, sc.at (z_k1 hW hk) rfl]; exact (I.1.2.2.1 k hk).1) (by omega), ⟨Nat.le_of_ble_eq_true rfl, Nat.le_of_ble_eq_true rfl, Nat.le_of_ble_eq_true rfl, Nat.le_of_ble_eq_true rfl⟩, fun _ _ z => False.elim z, ?_⟩
        rintro v9 h9 ⟨rfl, r12, rfl, hr12⟩
        conv => whnf
        refine ⟨_, rfl, kz, ?_⟩
        conv => whnf
        refine ⟨rfl, ⟨Nat.le_of_ble_eq_true rfl, Nat.le_of_ble_eq_true rfl⟩, rfl, j_u (j_u it y 10 (x8 ||| r9)) z 10 (x11 ||| r12), rfl, (j_Sc.put (j_Sc.put sc ky (show j_sf 7 10 = true from rfl)) kz (show j_sf 7 10 = true from rfl)), fun q => (z_unk (show (9 : Nat) ≠ 10 by decide)).trans (z_unk (show (9 : Nat) ≠ 10 by decide)), ?_⟩
        intro i hi t
        by_cases hij : i = j
        · subst hij
          rw [hz, z_usm, z_bq_or, hx11, hr12]
          unfold z_DM
          by_cases ht : t = k
          · subst ht
            rw [z_mt_s, tt, decide_eq_true (rfl : t = t), Bool.or_true, show z_pd t (i + 1) i t = true from decide_eq_true (by omega)]
            rfl
          · rw [decide_eq_false ht, Bool.or_false, z_pd_n hkj (by omega)]
        · have hiz : z_el h x 1 i ≠ z := fun q => hij (I.r hi hj (q.trans hz.symm))
          rw [z_une hiz]
          by_cases hik : i = k
          · subst hik
            rw [hy, z_usm, z_bq_or, hx8, hr9]
            unfold z_DM
            by_cases ht : t = j
            · subst ht
              rw [tt, decide_eq_true (rfl : t = t), Bool.or_true, show z_pd i (t + 1) i t = true from decide_eq_true (by omega)]
              rfl
            · rw [decide_eq_false ht, Bool.or_false, z_pd_n hkj (by omega)]
          · have hiy : z_el h x 1 i ≠ y := fun q => hik (I.r hi hk (q.trans hy.symm))
            rw [z_une hiy, nm i hi t]
            unfold z_DM
            rw [z_pd_n hkj (by omega)]
set_option maxHeartbeats 4000000 in
set_option maxRecDepth 20000 in
theorem c_G_markRunsx {h : j_H} {it : Nat → Nat → Int32} {x : Nat} (hW : j_WF h x) (I : z_I h x) (sc : j_Sc j_sf h it) : j_Ct 117 3 65 0 0 [j_r (some x)] (j_wi h it) (fun v h' => v = none ∧ ∃ it', h' = j_wi h it' ∧ j_Sc j_sf h it' ∧ z_T h x it' (z_DT (z_c h x) (j_sz h x 1).toNatClampNeg) ∧ z_M h x it' (z_DM (z_c h x) (j_sz h x 1).toNatClampNeg 0)) j_no := by
  refine j_intro km_117 (Nat.le_of_ble_eq_true rfl) ?_
  intro J hJ hF
  obtain ⟨kx, hG, L0, L1, L2, e0, l0, e1, l1, e2, l2, ap, pn⟩ := id hW
  have b0 := l0.2.1; have d0 := l0.2.2.1; have b1 := l1.2.1; have d1 := l1.2.2.1
  have eG : j_sz h x 0 = j_it h L0 2 := j_sz_e e0
  have eR : j_sz h x 1 = j_it h L1 2 := j_sz_e e1
  have clG := j_clamp b0
  have clR := j_clamp b1
  have zin0 : ∀ i : Nat, z_in h x 0 i ↔ (i : Int) < (j_it h L0 2).toInt := by
    intro i
    unfold z_in
    rw [eG]
  have zin1 : ∀ i : Nat, z_in h x 1 i ↔ (i : Int) < (j_it h L1 2).toInt := by
    intro i
    unfold z_in
    rw [eR]
  refine hJ [2, 36, 95, 108] 400 _ _ _ _ _ _ ?_
  have L2 : ∀ (m : Nat) (v1 : Int32) (it : Nat → Nat → Int32), j_Sc j_sf h it → 0 ≤ v1.toInt → v1.toInt ≤ (j_it h L0 2).toInt → (∀ g, g < v1.toNatClampNeg → ∀ j, z_bq (it (z_el h x 0 g) 9) j = false) → (j_it h L0 2).toInt - v1.toInt < (m : Int) → J 2 [some (j_r (some x)), some (j_i v1), none] [] (j_wi h it) 0 0 := by
    intro m
    induction m with
    | zero => intro v1 it sc hn hl iv hm; omega
    | succ m ih2 =>
      intro v1 it sc hn hl iv hm
      have cl := j_clamp hn
      refine hJ [2, 36, 95, 108] 400 _ _ _ _ _ _ ?_
      conv => whnf
      refine ⟨_, rfl, kx, fun o2 eo => ?_⟩
      obtain rfl : o2 = some L0 := eo.symm.trans e0
      conv => whnf
      refine ⟨l0.1, rfl, _, _, _, _, _, _, c_AL_size (h := h) l0 sc j_sf_ok, ⟨Nat.le_of_ble_eq_true rfl, Nat.le_of_ble_eq_true rfl, Nat.le_of_ble_eq_true rfl, Nat.le_of_ble_eq_true rfl⟩, fun _ _ z => False.elim z, ?_⟩
      rintro v9 h9 ⟨rfl, rfl⟩
      conv => whnf
      refine ⟨fun c3 => ?_, fun c3 => ?_⟩
      · have c3 : (j_it h L0 2).toInt ≤ v1.toInt := c3
        have iv0 : z_T h x it (z_DT (z_c h x) 0) := by
          intro g hg j
          have hg := (zin0 g).mp hg
          rw [iv g (by omega) j]
          unfold z_DT
          rw [decide_eq_false (Nat.not_lt_zero j), Bool.false_and, Bool.false_and]
        clear iv
        have L36 : ∀ (m : Nat) (v4 : Int32) (it : Nat → Nat → Int32), j_Sc j_sf h it → 0 ≤ v4.toInt → v4.toInt ≤ (j_it h L1 2).toInt → z_T h x it (z_DT (z_c h x) v4.toNatClampNeg) → (∀ k, k < v4.toNatClampNeg → ∀ j, z_bq (it (z_el h x 1 k) 10) j = false) → (j_it h L1 2).toInt - v4.toInt < (m : Int) → J 36 [some (j_r (some x)), some (j_i v4), none] [] (j_wi h it) 0 0 := by
          intro m
          induction m with
          | zero => intro v4 it sc hn hl iT iM hm; omega
          | succ m ih36 =>
            intro v4 it sc hn hl iT iM hm
            have cl4 := j_clamp hn
            refine hJ [2, 36, 95, 108] 400 _ _ _ _ _ _ ?_
            conv => whnf
            refine ⟨_, rfl, kx, fun o5 eo => ?_⟩
            obtain rfl : o5 = some L1 := eo.symm.trans e1
            conv => whnf
            refine ⟨l1.1, rfl, _, _, _, _, _, _, c_AL_size (h := h) l1 sc j_sf_ok, ⟨Nat.le_of_ble_eq_true rfl, Nat.le_of_ble_eq_true rfl, Nat.le_of_ble_eq_true rfl, Nat.le_of_ble_eq_true rfl⟩, fun _ _ z => False.elim z, ?_⟩
            rintro v9 h9 ⟨rfl, rfl⟩
            conv => whnf
            refine ⟨fun c6 => ?_, fun c6 => ?_⟩
            · have c6 : (j_it h L1 2).toInt ≤ v4.toInt := c6
              have ev : v4.toNatClampNeg = (j_sz h x 1).toNatClampNeg := by rw [eR]; omega
              rw [ev] at iT
              have iM0 : z_M h x it (z_DM (z_c h x) 0 0) := by
                intro k hk j
                have hk := (zin1 k).mp hk
                rw [iM k (by omega) j]
                unfold z_DM
                rw [z_pd_0, Bool.false_and]
              have L95 : ∀ (m : Nat) (v7 : Int32) (it : Nat → Nat → Int32), j_Sc j_sf h it → 0 ≤ v7.toInt → v7.toInt ≤ (j_it h L1 2).toInt → z_T h x it (z_DT (z_c h x) (j_sz h x 1).toNatClampNeg) → z_M h x it (z_DM (z_c h x) v7.toNatClampNeg 0) → (j_it h L1 2).toInt - v7.toInt < (m : Int) → J 95 [some (j_r (some x)), some (j_i v7), none] [] (j_wi h it) 0 0 := by
                intro m
                induction m with
                | zero => intro v7 it sc hn hl iT iM hm; omega
                | succ m ih95 =>
                  intro v7 it sc hn hl iT iM hm
                  have cl7 := j_clamp hn
                  refine hJ [2, 36, 95, 108] 400 _ _ _ _ _ _ ?_
                  conv => whnf
                  refine ⟨_, rfl, kx, fun o8 eo => ?_⟩
                  obtain rfl : o8 = some L1 := eo.symm.trans e1
                  conv => whnf
                  refine ⟨l1.1, rfl, _, _, _, _, _, _, c_AL_size (h := h) l1 sc j_sf_ok, ⟨Nat.le_of_ble_eq_true rfl, Nat.le_of_ble_eq_true rfl, Nat.le_of_ble_eq_true rfl, Nat.le_of_ble_eq_true rfl⟩, fun _ _ z => False.elim z, ?_⟩
                  rintro v9 h9 ⟨rfl, rfl⟩
                  conv => whnf
                  refine ⟨fun c9 => ?_, fun c9 => ?_⟩
                  · have c9 : (j_it h L1 2).toInt ≤ v7.toInt := c9
                    have ev7 : v7.toNatClampNeg = (j_sz h x 1).toNatClampNeg := by rw [eR]; omega
                    rw [ev7] at iM
                    conv => whnf
                    exact ⟨rfl, ⟨Nat.le_of_ble_eq_true rfl, Nat.le_of_ble_eq_true rfl⟩, rfl, _, rfl, sc, iT, iM⟩
                  · have c9 : ¬ (j_it h L1 2).toInt ≤ v7.toInt := c9
                    have tv7 : (v7 + Int32.ofInt 1).toInt = v7.toInt + 1 := j_inc1 (by omega)
                    have ctv7 := j_clamp (i := v7 + Int32.ofInt 1) (by omega)
                    have L108 : ∀ (m : Nat) (v10 : Int32) (it : Nat → Nat → Int32), j_Sc j_sf h it → 0 ≤ v10.toInt → v10.toInt ≤ v7.toInt → z_T h x it (z_DT (z_c h x) (j_sz h x 1).toNatClampNeg) → z_M h x it (z_DM (z_c h x) v7.toNatClampNeg v10.toNatClampNeg) → v7.toInt - v10.toInt < (m : Int) → J 108 [some (j_r (some x)), some (j_i v7), some (j_i v10)] [] (j_wi h it) 0 0 := by
                      intro m
                      induction m with
                      | zero => intro v10 it sc hn hl iT iM hm; omega
                      | succ m ih108 =>
                        intro v10 it sc hn hl iT iM hm
                        have cl10 := j_clamp hn
                        refine hJ [2, 36, 95, 108] 400 _ _ _ _ _ _ ?_
                        conv => whnf
                        refine ⟨fun c11 => ?_, fun c11 => ?_⟩
                        · have c11 : v7.toInt ≤ v10.toInt := c11
                          have e10 : v10.toNatClampNeg = v7.toNatClampNeg := by omega
                          refine j_use hF (ih95 _ _ sc (by omega) (by omega) iT (fun k hk j => ?_) (by omega)) (And.intro rfl (And.intro rfl trivial))
                          rw [iM k hk j, e10, show (v7 + Int32.ofInt 1).toNatClampNeg = v7.toNatClampNeg + 1 by omega]
                          unfold z_DM
                          rw [z_pd_s]
                        · have c11 : ¬ v7.toInt ≤ v10.toInt := c11
                          have tv10 : (v10 + Int32.ofInt 1).toInt = v10.toInt + 1 := j_inc1 (by omega)
                          have ctv10 := j_clamp (i := v10 + Int32.ofInt 1) (by omega)
                          have hi7 : z_in h x 1 v7.toNatClampNeg := (zin1 _).mpr (by omega)
                          have hi10 : z_in h x 1 v10.toNatClampNeg := (zin1 _).mpr (by omega)
                          conv => whnf
                          refine ⟨_, rfl, kx, fun o13 eo => ?_⟩
                          obtain rfl : o13 = some L1 := eo.symm.trans e1
                          conv => whnf
                          refine ⟨l1.1, rfl, _, _, _, _, _, _, c_AL_get (h := h) l1 sc j_sf_ok (by omega) (by omega), ⟨Nat.le_of_ble_eq_true rfl, Nat.le_of_ble_eq_true rfl, Nat.le_of_ble_eq_true rfl, Nat.le_of_ble_eq_true rfl⟩, fun _ _ z => False.elim z, ?_⟩
                          rintro v9 h9 ⟨rfl, g14, rfl, kg14, xg14⟩
                          have yg14 := z_el_get e1 xg14
                          conv => whnf
                          refine ⟨Or.inr ⟨_, rfl, kg14⟩, ?_⟩
                          conv => whnf
                          conv => whnf
                          refine ⟨_, rfl, kx, fun o15 eo => ?_⟩
                          obtain rfl : o15 = some L1 := eo.symm.trans e1
                          conv => whnf
                          refine ⟨l1.1, rfl, _, _, _, _, _, _, c_AL_get (h := h) l1 sc j_sf_ok (by omega) (by omega), ⟨Nat.le_of_ble_eq_true rfl, Nat.le_of_ble_eq_true rfl, Nat.le_of_ble_eq_true rfl, Nat.le_of_ble_eq_true rfl⟩, fun _ _ z => False.elim z, ?_⟩
                          rintro v9 h9 ⟨rfl, g16, rfl, kg16, xg16⟩
                          have yg16 := z_el_get e1 xg16
                          conv => whnf
                          refine ⟨Or.inr ⟨_, rfl, kg16⟩, ?_⟩
                          conv => whnf
                          refine ⟨kx, rfl, _, _, _, _, _, _, c_G_markIfMissedx (h := h) hW I sc hi7 hi10 (by omega) (by omega) yg14 yg16 iM kg14 kg16, ⟨Nat.le_of_ble_eq_true rfl, Nat.le_of_ble_eq_true rfl, Nat.le_of_ble_eq_true rfl, Nat.le_of_ble_eq_true rfl⟩, fun _ _ z => False.elim z, ?_⟩
                          rintro v9 h9 ⟨rfl, it18, rfl, sit18, k9, nm18⟩
                          refine j_use hF (ih108 _ _ sit18 (by omega) (by omega) (fun g hg j => by rw [k9]; exact iT g hg j) ?_ (by omega)) (And.intro rfl (And.intro rfl (And.intro rfl trivial)))
                          rw [show (v10 + Int32.ofInt 1).toNatClampNeg = v10.toNatClampNeg + 1 by omega]
                          exact nm18
                    have q20 : (Int32.ofInt (0)).toInt = 0 := by decide
                    have qc20 := j_clamp (i := Int32.ofInt 0) (by omega)
                    exact j_use hF (L108 30 _ _ sc (by omega) (by omega) iT (by rw [show (Int32.ofInt 0).toNatClampNeg = 0 by omega]; exact iM) (by omega)) (And.intro rfl (And.intro rfl (And.intro rfl trivial)))
              have q21 : (Int32.ofInt (0)).toInt = 0 := by decide
              have qc21 := j_clamp (i := Int32.ofInt 0) (by omega)
              exact j_use hF (L95 30 _ _ sc (by omega) (by omega) iT (by rw [show (Int32.ofInt 0).toNatClampNeg = 0 by omega]; exact iM0) (by omega)) (And.intro rfl (And.intro rfl trivial))
            · have c6 : ¬ (j_it h L1 2).toInt ≤ v4.toInt := c6
              have tv4 : (v4 + Int32.ofInt 1).toInt = v4.toInt + 1 := j_inc1 (by omega)
              have ctv4 := j_clamp (i := v4 + Int32.ofInt 1) (by omega)
              have ek4 : (v4 + Int32.ofInt 1).toNatClampNeg = v4.toNatClampNeg + 1 := by omega
              have hin : z_in h x 1 v4.toNatClampNeg := (zin1 _).mpr (by omega)
              conv => whnf
              refine ⟨_, rfl, kx, fun o22 eo => ?_⟩
              obtain rfl : o22 = some L1 := eo.symm.trans e1
              conv => whnf
              refine ⟨l1.1, rfl, _, _, _, _, _, _, c_AL_get (h := h) l1 sc j_sf_ok (by omega) (by omega), ⟨Nat.le_of_ble_eq_true rfl, Nat.le_of_ble_eq_true rfl, Nat.le_of_ble_eq_true rfl, Nat.le_of_ble_eq_true rfl⟩, fun _ _ z => False.elim z, ?_⟩
              rintro v9 h9 ⟨rfl, g23, rfl, kg23, xg23⟩
              have yg23 := z_el_get e1 xg23
              conv => whnf
              refine ⟨Or.inr ⟨_, rfl, kg23⟩, ?_⟩
              conv => whnf
              refine ⟨_, rfl, kg23, ?_⟩
              have s10 := j_Sc.put (x := Int32.ofInt 0) sc kg23 (show j_sf 7 10 = true from rfl)
              have iM1 : ∀ (w : Nat → Nat → Int32), (∀ q, w q 10 = j_u it g23 10 (Int32.ofInt 0) q 10) → ∀ k, k < (v4 + Int32.ofInt 1).toNatClampNeg → ∀ j, z_bq (w (z_el h x 1 k) 10) j = false := by
                intro w hw k hk j
                rw [hw]
                by_cases hv : k = v4.toNatClampNeg
                · subst hv
                  rw [yg23, z_usm]
                  exact z_bq_0
                · rw [z_une (fun q => hv (I.r ((zin1 k).mpr (by omega)) hin (q.trans yg23.symm)))]
                  exact iM k (by omega) j
              conv => whnf
              refine ⟨_, rfl, kg23, fun x25 ex25 => ?_⟩
              obtain rfl : x25 = (z_c h x).2.2.2.1 v4.toNatClampNeg 6 := by
                rw [← ex25]
                show j_u it g23 10 (Int32.ofInt 0) g23 7 = _
                rw [z_unk (show (7 : Nat) ≠ 10 by decide), sc.at kg23 rfl, ← yg23]
                rfl
              conv => whnf
              refine ⟨fun c26 => ?_, fun c26 => ?_⟩
              · have c26 : ((z_c h x).2.2.2.1 v4.toNatClampNeg 6).toInt = 0 := c26
                refine j_use hF (ih36 _ (j_u it g23 10 (Int32.ofInt 0)) s10 (by omega) (by omega) (fun g hg j => ?_) (iM1 _ (fun _ => rfl)) (by omega)) (And.intro rfl (And.intro rfl trivial))
                rw [z_unk (show (9 : Nat) ≠ 10 by decide), ek4, z_DT_n (Or.inl (decide_eq_false (fun q => q c26)))]
                exact iT g hg j
              · have c26 : ¬ ((z_c h x).2.2.2.1 v4.toNatClampNeg 6).toInt = 0 := c26
                obtain ⟨g, hg, rg⟩ := (I.1.2.2.1 _ hin).2
                have lg := (z_lbl I hin hg).mp rg
                conv => whnf
                refine ⟨_, rfl, kg23, fun o28 eo => ?_⟩
                obtain ⟨b29, eb29, kb29⟩ := hG.2.2.1 _ kg23
                obtain rfl : o28 = some b29 := eo.symm.trans eb29
                have hb : z_el h x 0 g = b29 := by
                  rw [yg23, eb29] at rg
                  exact (Option.some.inj rg).symm
                conv => whnf
                refine ⟨_, rfl, kb29, fun x30 ex30 => ?_⟩
                have hx30 : ∀ j, z_bq x30 j = z_DT (z_c h x) v4.toNatClampNeg g j := fun j => by
                  rw [← iT g hg j, ← ex30, hb]
                  show z_bq (j_u it g23 10 (Int32.ofInt 0) b29 9) j = z_bq (it b29 9) j
                  rw [z_unk (show (9 : Nat) ≠ 10 by decide)]
                conv => whnf
                refine ⟨kg23, rfl, _, _, _, _, _, _, c_Run_bitx (h := j_wi h (j_u it g23 10 (Int32.ofInt 0))) (k := v4.toNatClampNeg) kg23 (by show (j_u it g23 10 (Int32.ofInt 0) g23 0).toInt = (v4.toNatClampNeg : Int); rw [z_unk (show (0 : Nat) ≠ 10 by decide), ← yg23, sc.at (z_k1 hW hin) rfl]; exact (I.1.2.2.1 _ hin).1) (by omega), ⟨Nat.le_of_ble_eq_true rfl, Nat.le_of_ble_eq_true rfl, Nat.le_of_ble_eq_true rfl, Nat.le_of_ble_eq_true rfl⟩, fun _ _ z => False.elim z, ?_⟩
                rintro v9 h9 ⟨rfl, r31, rfl, hr31⟩
                conv => whnf
                refine ⟨_, rfl, kb29, ?_⟩
                refine j_use hF (ih36 _ (j_u (j_u it g23 10 (Int32.ofInt 0)) b29 9 (x30 ||| r31)) (j_Sc.put s10 kb29 (show j_sf 4 9 = true from rfl)) (by omega) (by omega) (fun g1 hg1 j => ?_) (iM1 _ (fun _ => z_unk (show (10 : Nat) ≠ 9 by decide))) (by omega)) (And.intro rfl (And.intro rfl trivial))
                rw [ek4]
                by_cases hgg : g1 = g
                · subst hgg
                  rw [hb, z_usm, z_bq_or, hx30, hr31, z_DT_y (decide_eq_true c26) (decide_eq_true lg)]
                · rw [z_une (fun q => hgg (I.g hg1 hg (q.trans hb.symm))), z_unk (show (9 : Nat) ≠ 10 by decide), z_DT_n (Or.inr (decide_eq_false (fun q => hgg (by have : (z_cr h x v4.toNatClampNeg 0).toInt = (g1 : Int) := q; omega))))]
                  exact iT g1 hg1 j
        have q34 : (Int32.ofInt (0)).toInt = 0 := by decide
        have qc34 := j_clamp (i := Int32.ofInt 0) (by omega)
        exact j_use hF (L36 30 _ _ sc (by omega) (by omega) (by rw [show (Int32.ofInt 0).toNatClampNeg = 0 by omega]; exact iv0) (fun k hk => absurd hk (by omega)) (by omega)) (And.intro rfl (And.intro rfl trivial))
      · have c3 : ¬ (j_it h L0 2).toInt ≤ v1.toInt := c3
        have tv1 : (v1 + Int32.ofInt 1).toInt = v1.toInt + 1 := j_inc1 (by omega)
        have ctv1 := j_clamp (i := v1 + Int32.ofInt 1) (by omega)
        have hin : z_in h x 0 v1.toNatClampNeg := (zin0 _).mpr (by omega)
        conv => whnf
        refine ⟨_, rfl, kx, fun o35 eo => ?_⟩
        obtain rfl : o35 = some L0 := eo.symm.trans e0
        conv => whnf
        refine ⟨l0.1, rfl, _, _, _, _, _, _, c_AL_get (h := h) l0 sc j_sf_ok (by omega) (by omega), ⟨Nat.le_of_ble_eq_true rfl, Nat.le_of_ble_eq_true rfl, Nat.le_of_ble_eq_true rfl, Nat.le_of_ble_eq_true rfl⟩, fun _ _ z => False.elim z, ?_⟩
        rintro v9 h9 ⟨rfl, g36, rfl, kg36, xg36⟩
        have yg36 := z_el_get e0 xg36
        conv => whnf
        refine ⟨Or.inr ⟨_, rfl, kg36⟩, ?_⟩
        conv => whnf
        refine ⟨_, rfl, kg36, ?_⟩
        refine j_use hF (ih2 _ (j_u it g36 9 (Int32.ofInt 0)) (j_Sc.put sc kg36 (show j_sf 4 9 = true from rfl)) (by omega) (by omega) (fun g hg j => ?_) (by omega)) (And.intro rfl (And.intro rfl trivial))
        by_cases hv : g = v1.toNatClampNeg
        · subst hv
          rw [yg36, z_usm]
          exact z_bq_0
        · rw [z_une (fun q => hv (I.g ((zin0 g).mpr (by omega)) hin (q.trans yg36.symm)))]
          exact iv g (by omega) j
  have q39 : (Int32.ofInt (0)).toInt = 0 := by decide
  have qc39 := j_clamp (i := Int32.ofInt 0) (by omega)
  exact j_use hF (L2 10 _ _ sc (by omega) (by omega) (fun g hg => absurd hg (by omega)) (by omega)) (And.intro rfl (And.intro rfl trivial))
theorem z_ct_0 {f : Nat → Bool} (h : ∀ k, f k = false) : ∀ n, z_ct f n = 0 := by
  intro n
  induction n with
  | zero => rfl
  | succ n ih =>
    show z_ct f n + (f n).toNat = 0
    rw [ih, h n]
    rfl
theorem z_ct_cut {f : Nat → Bool} {n m : Nat} (h : n ≤ m) : z_ct (fun j => decide (j < n) && f j) m = z_ct f n := by
  have e : m = n + (m - n) := by omega
  rw [e, z_ct_add, z_ct_0 (fun k => show (decide (n + k < n) && f (n + k)) = false by rw [decide_eq_false (show ¬ n + k < n by omega), Bool.false_and])]
  exact z_ct_c n (fun k hk => show (decide (k < n) && f k) = f k by rw [decide_eq_true hk, Bool.true_and])
theorem z_DMT {z : j_Z} {n k g j : Nat} (hk : k < n) (lg : (z.2.2.2.1 k 0).toInt = (g : Int)) : (z_DM z n 0 k j && z_DT z n g j) = (decide (j < n) && (decide (k ≠ j) && z_db z k j)) := by
  unfold z_DM z_DT z_db
  cases hm : z_mt z k j with
  | false => rw [Bool.and_false, Bool.false_and, Bool.false_and, Bool.and_false, Bool.and_false]
  | true =>
    have st : z_dst z j = true := by
      unfold z_mt at hm
      exact ((Bool.and_eq_true _ _).mp ((Bool.and_eq_true _ _).mp hm).1).2
    rw [st, Bool.and_true, Bool.and_true, Bool.true_and]
    unfold z_dlb
    rw [show decide ((z.2.2.2.1 j 0).toInt = (g : Int)) = decide ((z.2.2.2.1 j 0).toInt = (z.2.2.2.1 k 0).toInt) by rw [lg]]
    by_cases hj : j < n
    · rw [decide_eq_true hj, Bool.true_and, Bool.true_and]
      by_cases hkj : k = j
      · rw [show z_pd n 0 k j = false from decide_eq_false (by omega), decide_eq_false (show ¬ k ≠ j from fun q => q hkj)]
      · rw [show z_pd n 0 k j = true from decide_eq_true (by omega), decide_eq_true (show k ≠ j from hkj)]
    · rw [decide_eq_false hj, Bool.false_and, Bool.false_and, Bool.and_false]
set_option maxHeartbeats 4000000 in
set_option maxRecDepth 20000 in
theorem c_Run_countMissedx {h : j_H} {it : Nat → Nat → Int32} {x k y n : Nat} (hW : j_WF h x) (I : z_I h x) (hn : n = (j_sz h x 1).toNatClampNeg) (hn20 : n ≤ 20) (hk : z_in h x 1 k) (hkn : k < n) (hy : z_el h x 1 k = y) (hT : z_T h x it (z_DT (z_c h x) n)) (hM : z_M h x it (z_DM (z_c h x) n 0)) (ky : j_kd h y = some (.inl 7)) : j_Ct 154 1 20 0 0 [j_r (some y)] (j_wi h it) (fun v h' => h' = j_wi h it ∧ ∃ r, v = some (j_i r) ∧ r.toInt = (z_ct (fun j => decide (k ≠ j) && z_db (z_c h x) k j) n : Int)) j_no := by
  refine j_intro km_154 (Nat.le_of_ble_eq_true rfl) ?_
  intro J hJ hF
  have hG : j_G h := hW.2.1
  obtain ⟨g, hg, rg⟩ := (I.1.2.2.1 _ hk).2
  have lg := (z_lbl I hk hg).mp rg
  refine hJ [] 400 _ _ _ _ _ _ ?_
  conv => whnf
  refine ⟨_, rfl, ky, fun x1 ex1 => ?_⟩
  have hx1 : ∀ j, z_bq x1 j = z_DM (z_c h x) n 0 k j := fun j => by
    rw [← hM k hk j, hy]
    exact congrArg (fun r => z_bq r j) ex1.symm
  conv => whnf
  refine ⟨_, rfl, ky, fun o2 eo => ?_⟩
  obtain ⟨b3, eb3, kb3⟩ := hG.2.2.1 _ ky
  obtain rfl : o2 = some b3 := eo.symm.trans eb3
  have hb : z_el h x 0 g = b3 := by
    rw [hy, eb3] at rg
    exact (Option.some.inj rg).symm
  conv => whnf
  refine ⟨_, rfl, kb3, fun x4 ex4 => ?_⟩
  have hx4 : ∀ j, z_bq x4 j = z_DT (z_c h x) n g j := fun j => by
    rw [← hT g hg j, hb]
    exact congrArg (fun r => z_bq r j) ex4.symm
  conv => whnf
  refine ⟨rfl, _, _, _, _, _, _, c_bitCountx, ⟨Nat.le_of_ble_eq_true rfl, Nat.le_of_ble_eq_true rfl, Nat.le_of_ble_eq_true rfl, Nat.le_of_ble_eq_true rfl⟩, fun _ _ z => False.elim z, ?_⟩
  rintro v9 h9 ⟨rfl, rfl⟩
  conv => whnf
  refine ⟨trivial, ⟨Nat.le_of_ble_eq_true rfl, Nat.le_of_ble_eq_true rfl⟩, rfl, _, rfl, ?_⟩
  rw [z_bcI, ← z_ct_cut (show n ≤ 32 by omega)]
  exact congrArg Int.ofNat (z_ct_c 32 (fun j _ => by
    rw [z_bq_and, hx1, hx4]
    exact z_DMT hkn lg))
set_option maxHeartbeats 4000000 in
set_option maxRecDepth 20000 in
theorem c_G_countDoublesx {h : j_H} {it : Nat → Nat → Int32} {x : Nat} (hW : j_WF h x) (I : z_I h x) (sc : j_Sc j_sf h it) : j_Ct 85 4 87 0 0 [j_r (some x)] (j_wi h it) (fun v h' => (∃ it', h' = j_wi h it' ∧ j_Sc j_sf h it') ∧ ∃ r, v = some (j_i r) ∧ r.toInt = (z_dbn (z_c h x) : Int)) j_no := by
  refine j_intro km_85 (Nat.le_of_ble_eq_true rfl) ?_
  intro J hJ hF
  obtain ⟨kx, hG, L0, L1, L2, e0, l0, e1, l1, e2, l2, ap, pn⟩ := id hW
  have b1 := l1.2.1; have d1 := l1.2.2.1
  have eR : j_sz h x 1 = j_it h L1 2 := j_sz_e e1
  have clR := j_clamp b1
  have zin1 : ∀ i : Nat, z_in h x 1 i ↔ (i : Int) < (j_it h L1 2).toInt := by
    intro i
    unfold z_in
    rw [eR]
  obtain ⟨n, hn⟩ : ∃ n, n = (j_sz h x 1).toNatClampNeg := ⟨_, rfl⟩
  have hnI : (n : Int) = (j_it h L1 2).toInt := by rw [hn, eR, clR]
  have bd : ∀ v, z_sm (fun k => z_ct (fun j => decide (k ≠ j) && z_db (z_c h x) k j) n) v ≤ v * 20 := fun v => z_sm_le (fun k => Nat.le_trans (z_ct_le n) (by omega)) v
  refine hJ [8] 400 _ _ _ _ _ _ ?_
  conv => whnf
  refine ⟨kx, rfl, _, _, _, _, _, _, c_G_markRunsx (h := h) hW I sc, ⟨Nat.le_of_ble_eq_true rfl, Nat.le_of_ble_eq_true rfl, Nat.le_of_ble_eq_true rfl, Nat.le_of_ble_eq_true rfl⟩, fun _ _ z => False.elim z, ?_⟩
  rintro v9 h9 ⟨rfl, it2, rfl, sc, hT, hM⟩
  rw [← hn] at hT hM
  have L8 : ∀ (m : Nat) (v3 : Int32) (v4 : Int32), 0 ≤ v4.toInt → v4.toInt ≤ (n : Int) → v3.toInt = (z_sm (fun k => z_ct (fun j => decide (k ≠ j) && z_db (z_c h x) k j) n) v4.toNatClampNeg : Int) → (n : Int) - v4.toInt < (m : Int) → J 8 [some (j_r (some x)), some (j_i v3), some (j_i v4)] [] (j_wi h it2) 0 0 := by
    intro m
    induction m with
    | zero => intro v3 v4 hn hl iv hm; omega
    | succ m ih8 =>
      intro v3 v4 hn0 hl iv hm
      have cl := j_clamp hn0
      refine hJ [8] 400 _ _ _ _ _ _ ?_
      conv => whnf
      refine ⟨_, rfl, kx, fun o5 eo => ?_⟩
      obtain rfl : o5 = some L1 := eo.symm.trans e1
      conv => whnf
      refine ⟨l1.1, rfl, _, _, _, _, _, _, c_AL_size (h := h) l1 sc j_sf_ok, ⟨Nat.le_of_ble_eq_true rfl, Nat.le_of_ble_eq_true rfl, Nat.le_of_ble_eq_true rfl, Nat.le_of_ble_eq_true rfl⟩, fun _ _ z => False.elim z, ?_⟩
      rintro v9 h9 ⟨rfl, rfl⟩
      conv => whnf
      refine ⟨fun c6 => ?_, fun c6 => ?_⟩
      · have c6 : (j_it h L1 2).toInt ≤ v4.toInt := c6
        have ev : v4.toNatClampNeg = n := by omega
        have b := bd n
        have iv2 := iv
        rw [ev, z_twice (fun k j => z_db_s)] at iv2
        rw [ev] at iv
        have tw : z_dbn (z_c h x) = z_sm (fun k => z_ct (z_db (z_c h x) k) k) n := by
          rw [hn]
          rfl
        conv => whnf
        refine ⟨by decide, ?_⟩
        conv => whnf
        refine ⟨trivial, ⟨Nat.le_of_ble_eq_true rfl, Nat.le_of_ble_eq_true rfl⟩, ⟨_, rfl, sc⟩, _, rfl, ?_⟩
        rw [tw]
        have q2 : (Int32.ofInt 2).toInt = 2 := by decide
        have := t_div (l := v3) (p := Int32.ofInt 2) (by omega) (by omega)
        rw [q2, iv2] at this
        show (v3 / Int32.ofInt 2).toInt = _
        rw [this]
        generalize z_sm (fun k => z_ct (z_db (z_c h x) k) k) n = S
        omega
      · have c6 : ¬ (j_it h L1 2).toInt ≤ v4.toInt := c6
        have tv4 : (v4 + Int32.ofInt 1).toInt = v4.toInt + 1 := j_inc1 (by omega)
        have ctv4 := j_clamp (i := v4 + Int32.ofInt 1) (by omega)
        have hin : z_in h x 1 v4.toNatClampNeg := (zin1 _).mpr (by omega)
        conv => whnf
        refine ⟨_, rfl, kx, fun o7 eo => ?_⟩
        obtain rfl : o7 = some L1 := eo.symm.trans e1
        conv => whnf
        refine ⟨l1.1, rfl, _, _, _, _, _, _, c_AL_get (h := h) l1 sc j_sf_ok (by omega) (by omega), ⟨Nat.le_of_ble_eq_true rfl, Nat.le_of_ble_eq_true rfl, Nat.le_of_ble_eq_true rfl, Nat.le_of_ble_eq_true rfl⟩, fun _ _ z => False.elim z, ?_⟩
        rintro v9 h9 ⟨rfl, g8, rfl, kg8, xg8⟩
        have yg8 := z_el_get e1 xg8
        conv => whnf
        refine ⟨Or.inr ⟨_, rfl, kg8⟩, ?_⟩
        conv => whnf
        refine ⟨kg8, rfl, _, _, _, _, _, _, c_Run_countMissedx (h := h) hW I hn (by omega) hin (by omega) yg8 hT hM kg8, ⟨Nat.le_of_ble_eq_true rfl, Nat.le_of_ble_eq_true rfl, Nat.le_of_ble_eq_true rfl, Nat.le_of_ble_eq_true rfl⟩, fun _ _ z => False.elim z, ?_⟩
        rintro v9 h9 ⟨rfl, r9, rfl, hr9⟩
        have b := bd v4.toNatClampNeg
        have b9 := z_ct_le (f := fun j => decide (v4.toNatClampNeg ≠ j) && z_db (z_c h x) v4.toNatClampNeg j) n
        have t3 : (v3 + r9).toInt = v3.toInt + r9.toInt := j_addI (by omega) (by omega)
        refine j_use hF (ih8 _ _ (by omega) (by omega) ?_ (by omega)) (And.intro rfl (And.intro rfl (And.intro rfl trivial)))
        rw [show (v4 + Int32.ofInt 1).toNatClampNeg = v4.toNatClampNeg + 1 by omega, t3, iv, hr9]
        rfl
  have q12 : (Int32.ofInt (0)).toInt = 0 := by decide
  have qc12 := j_clamp (i := Int32.ofInt 0) (by omega)
  exact j_use hF (L8 30 _ _ (by omega) (by omega) (by rw [show (Int32.ofInt 0).toNatClampNeg = 0 by omega]; exact q12) (by omega)) (And.intro rfl (And.intro rfl (And.intro rfl trivial)))
