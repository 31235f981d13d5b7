/-! the model's iterators -/
theorem j_Mf.it {ρ : Nat → Nat} {h : j_H} {m i k : Nat} {x : Int32} (km : j_kd h m = some (.inl 12)) (ki : j_kd h i = some (.inl 2)) : j_Mf ρ m h (j_up h i k (j_i x)) := by
  have nm : m ≠ i := fun z => by rw [z, ki] at km; cases km
  refine ⟨j_On.up (Or.inr (Or.inl ⟨2, ki, by decide⟩)), ⟨fun _ _ => rfl, fun j _ => (j_up_ne h (j_i x) nm j).1⟩, fun _ _ _ _ => rfl, fun e' he r => ?_, fun b hb _ k => ?_, fun b hb _ k => ?_, fun _ _ z _ _ => z⟩
  · have ne : e' ≠ i := fun z => by rw [z, ki] at he; cases he
    unfold j_rA
    rw [(j_up_ne h (j_i x) ne 1).1]; exact r
  · have ne : b ≠ i := fun z => by rw [z, ki] at hb; cases hb
    exact (j_up_ne h (j_i x) ne k).1
  · have ne : b ≠ i := fun z => by rw [z, ki] at hb; cases hb
    exact (j_up_ne h (j_i x) ne k).1
/-- an iterator over L that is at n -/
def j_Ir (h : j_H) (i L : Nat) (n : Int) : Prop := j_kd h i = some (.inl 2) ∧ j_rf h i 3 = some L ∧ j_it h i 2 = j_it h L 0 ∧ (j_it h i 0).toInt = n ∧ 0 ≤ n ∧ n ≤ (j_it h L 2).toInt
theorem j_Ir.new {h h' : j_H} {i L : Nat} {ρ : Nat → Nat} {m : Nat} (km : j_kd h m = some (.inl 12)) (kL : j_kd h' L = some (.inl 3)) (hi : j_kd h i = none) (o : j_On (fun _ => False) h h') (od : ∀ q, q ≠ i → j_kd h' q = j_kd h q) (ki : j_kd h' i = some (.inl 2)) (r3 : j_rf h' i 3 = some L) (m2 : j_it h' i 2 = j_it h' L 0) (c0 : (j_it h' i 0).toInt = 0) (hz : 0 ≤ (j_it h' L 2).toInt) : j_Mf ρ m h h' ∧ j_Ir h' i L 0 := by
  refine ⟨j_Mf.on km o (fun q c z hc _ => ?_), ki, r3, m2, c0, Int.le_refl 0, hz⟩
  by_cases e : q = i
  · rw [e, ki] at z; cases z; omega
  · exact (od q e).symm.trans z
/-- one step on -/
theorem j_Ir.next {h : j_H} {i L : Nat} {n : Int} {ρ : Nat → Nat} {m : Nat} (km : j_kd h m = some (.inl 12)) (r : j_Ir h i L n) (kL : j_kd h L = some (.inl 3)) (hn : n < (j_it h L 2).toInt) (hm : (j_it h L 2).toInt ≤ 100) :
    j_Mf ρ m h (j_up (j_up h i 0 (j_i (j_it h i 0 + Int32.ofInt 1))) i 1 (j_i (j_it h i 0))) ∧ j_Ir (j_up (j_up h i 0 (j_i (j_it h i 0 + Int32.ofInt 1))) i 1 (j_i (j_it h i 0))) i L (n + 1) := by
  obtain ⟨ki, r3, m2, c0, n0, nz⟩ := r
  have nL : L ≠ i := fun z => by rw [z, ki] at kL; cases kL
  have sL : ∀ k, j_it (j_up (j_up h i 0 (j_i (j_it h i 0 + Int32.ofInt 1))) i 1 (j_i (j_it h i 0))) L k = j_it h L k := fun k => ((j_up_ne _ _ nL k).1).trans ((j_up_ne _ _ nL k).1)
  refine ⟨(j_Mf.it km ki).tr (j_Mf.it km ki), ki, r3, ?_, ?_, by omega, by rw [sL]; omega⟩
  · rw [sL, j_upm (by decide), j_upm (by decide)]; exact m2
  · rw [j_upm (by decide), j_upi, j_inc1 (by omega), c0]
set_option maxRecDepth 20000 in
theorem c_Mo_standingRuns {ρ : Nat → Nat} {h : j_H} {m P G R Q : Nat} (w : j_MX ρ h m P G R Q) : j_Ct 216 3 61 1 4 [j_r (some m)] h (fun v h' => j_Mf ρ m h h' ∧ ∃ r, v = some (j_i r)) j_no := by
  refine j_intro km_216 (Nat.le_of_ble_eq_true rfl) ?_
  intro J hJ hF
  have L : ∀ (k i : Nat) (v : Int32) (hh : j_H) (n : Int) (cn sn : Nat), j_Mf ρ m h hh → j_Ir hh i R n → cn ≤ 1 → sn ≤ 4 → ((j_it hh R 2).toInt - n).toNat < k → J 10 [some (j_r (some m)), some (j_i v), some (j_r (some i)), none] [] hh cn sn := by
    intro k
    induction k with
    | zero => intro i v hh n cn sn f r hc hs hk; omega
    | succ k ih =>
      intro i v hh n cn sn f r hc hs hk
      have w1 := w.f f
      have wb := w1.b
      have r0 := r
      obtain ⟨ki, r3, m2, c0, n0, nz⟩ := r0
      refine hJ [10] 400 _ _ _ _ _ _ ?_
      conv => whnf
      refine ⟨ki, rfl, _, _, _, _, _, _, c_IT_hasNext ki r3 w1.lR.1, ⟨Nat.le_of_ble_eq_true rfl, Nat.le_of_ble_eq_true rfl, by (try dsimp only); omega, by (try dsimp only); omega⟩, fun _ _ z => False.elim z, ?_⟩
      rintro v9 h9 ⟨e9, b, rfl, hb⟩
      obtain rfl : hh = h9 := e9.symm
      conv => whnf
      refine ⟨fun c => ?_, fun c => ?_⟩
      · conv => whnf
        exact ⟨trivial, ⟨by (try dsimp only); omega, by (try dsimp only); omega⟩, f, _, rfl⟩
      · have c : ¬ b.toInt = 0 := c
        have hn : n < (j_it hh R 2).toInt := by omega
        conv => whnf
        refine ⟨ki, rfl, _, _, _, _, _, _, c_IT_next ki r3 m2 w1.lR (by omega) (by omega), ⟨Nat.le_of_ble_eq_true rfl, Nat.le_of_ble_eq_true rfl, by (try dsimp only); omega, by (try dsimp only); omega⟩, fun _ _ z => False.elim z, ?_⟩
        rintro v9 h9 ⟨⟨e, arr, rfl, ke, -, -⟩, e9⟩
        obtain ⟨st, rn⟩ := r.next (ρ := ρ) (m := m) w1.km w1.lR.1 hn (by omega)
        rw [← e9] at st rn
        have ke9 := st.kd ke
        have z9 := congrArg Int32.toInt (st.sz w1.lR.1)
        conv => whnf
        refine ⟨Or.inr ⟨_, rfl, ke9⟩, ?_⟩
        conv => whnf
        refine ⟨_, rfl, ke9, fun x _ => ?_⟩
        conv => whnf
        refine ⟨fun c2 => ?_, fun c2 => ?_⟩
        · exact j_use hF (ih i _ h9 (n + 1) _ _ (f.tr st) rn (by (try dsimp only); omega) (by (try dsimp only); omega) (by omega)) (And.intro rfl (And.intro rfl (And.intro rfl trivial)))
        · exact j_use hF (ih i _ h9 (n + 1) _ _ (f.tr st) rn (by (try dsimp only); omega) (by (try dsimp only); omega) (by omega)) (And.intro rfl (And.intro rfl (And.intro rfl trivial)))
  have wb := w.b
  refine hJ [10] 400 _ _ _ _ _ _ ?_
  conv => whnf
  refine ⟨_, rfl, w.km, fun o eo => ?_⟩
  obtain rfl : o = some R := eo.symm.trans w.eR
  conv => whnf
  refine ⟨w.lR.1, rfl, _, _, _, _, _, _, c_AL_iterator w.lR.1, ⟨Nat.le_of_ble_eq_true rfl, Nat.le_of_ble_eq_true rfl, Nat.le_of_ble_eq_true rfl, Nat.le_of_ble_eq_true rfl⟩, fun _ _ z => False.elim z, ?_⟩
  rintro v9 h9 ⟨i, rfl, hi, o, od, ki, r3, m2, c0⟩
  have kR9 : j_kd h9 R = some (.inl 3) := (o.2 R (j_nn w.lR.1)).1.trans w.lR.1
  have zR9 : j_it h9 R 2 = j_it h R 2 := ((o.2 R (j_nn w.lR.1)).2.2 (fun z => z) 2).1
  obtain ⟨st, r0⟩ := j_Ir.new (ρ := ρ) w.km kR9 hi o od ki r3 m2 c0 (by rw [zR9]; omega)
  exact j_use hF (L 100 i _ h9 0 _ _ st r0 (Nat.le_of_ble_eq_true rfl) (Nat.le_of_ble_eq_true rfl) (by rw [zR9]; omega)) (And.intro rfl (And.intro rfl (And.intro rfl trivial)))
set_option maxRecDepth 20000 in
theorem c_Mo_motes {ρ : Nat → Nat} {h : j_H} {m P G R Q : Nat} (w : j_MX ρ h m P G R Q) : j_Ct 196 3 61 1 4 [j_r (some m)] h (fun v h' => j_Mf ρ m h h' ∧ ∃ r, v = some (j_i r)) j_no := by
  refine j_intro km_196 (Nat.le_of_ble_eq_true rfl) ?_
  intro J hJ hF
  have z0 : (Int32.ofInt 0).toInt = 0 := by decide
  have z1 : (Int32.ofInt 1).toInt = 1 := by decide
  have L : ∀ (k i : Nat) (v : Int32) (hh : j_H) (n : Int) (cn sn : Nat), j_Mf ρ m h hh → j_Ir hh i G n → cn ≤ 1 → sn ≤ 4 → ((j_it hh G 2).toInt - n).toNat < k → J 10 [some (j_r (some m)), some (j_i v), some (j_r (some i)), none] [] hh cn sn := by
    intro k
    induction k with
    | zero => intro i v hh n cn sn f r hc hs hk; omega
    | succ k ih =>
      intro i v hh n cn sn f r hc hs hk
      have w1 := w.f f
      have wb := w1.b
      have r0 := r
      obtain ⟨ki, r3, m2, c0, n0, nz⟩ := r0
      refine hJ [10] 400 _ _ _ _ _ _ ?_
      conv => whnf
      refine ⟨ki, rfl, _, _, _, _, _, _, c_IT_hasNext ki r3 w1.lG.1, ⟨Nat.le_of_ble_eq_true rfl, Nat.le_of_ble_eq_true rfl, by (try dsimp only); omega, by (try dsimp only); omega⟩, fun _ _ z => False.elim z, ?_⟩
      rintro v9 h9 ⟨e9, b, rfl, hb⟩
      obtain rfl : hh = h9 := e9.symm
      conv => whnf
      refine ⟨fun c => ?_, fun c => ?_⟩
      · conv => whnf
        exact ⟨trivial, ⟨by (try dsimp only); omega, by (try dsimp only); omega⟩, f, _, rfl⟩
      · have c : ¬ b.toInt = 0 := c
        have hn : n < (j_it hh G 2).toInt := by omega
        conv => whnf
        refine ⟨ki, rfl, _, _, _, _, _, _, c_IT_next ki r3 m2 w1.lG (by omega) (by omega), ⟨Nat.le_of_ble_eq_true rfl, Nat.le_of_ble_eq_true rfl, by (try dsimp only); omega, by (try dsimp only); omega⟩, fun _ _ z => False.elim z, ?_⟩
        rintro v9 h9 ⟨⟨e, arr, rfl, ke, a1, a2⟩, e9⟩
        have fe : j_gA ρ hh e := w1.aG.get (i := j_it hh i 0) (by omega) (by omega) ⟨arr, a1, a2⟩
        obtain ⟨st, rn⟩ := r.next (ρ := ρ) (m := m) w1.km w1.lG.1 hn (by omega)
        rw [← e9] at st rn
        have ke9 := st.kd ke
        obtain ⟨d, ed, kd, nd, -⟩ := st.gA ke fe 3 (by decide)
        have z9 := congrArg Int32.toInt (st.sz w1.lG.1)
        conv => whnf
        refine ⟨Or.inr ⟨_, rfl, ke9⟩, ?_⟩
        conv => whnf
        refine ⟨_, rfl, ke9, fun o eo => ?_⟩
        obtain rfl : o = some d := eo.symm.trans ed
        conv => whnf
        refine ⟨_, _, rfl, kd, rfl, j_vp (by omega) (by omega), fun x _ => ?_⟩
        conv => whnf
        refine ⟨_, rfl, ke9, fun o eo => ?_⟩
        obtain rfl : o = some d := eo.symm.trans ed
        conv => whnf
        refine ⟨_, _, rfl, kd, rfl, j_vp (by omega) (by omega), fun y _ => ?_⟩
        exact j_use hF (ih i _ h9 (n + 1) _ _ (f.tr st) rn (by (try dsimp only); omega) (by (try dsimp only); omega) (by omega)) (And.intro rfl (And.intro rfl (And.intro rfl trivial)))
  have wb := w.b
  refine hJ [10] 400 _ _ _ _ _ _ ?_
  conv => whnf
  refine ⟨_, rfl, w.km, fun o eo => ?_⟩
  obtain rfl : o = some G := eo.symm.trans w.eG
  conv => whnf
  refine ⟨w.lG.1, rfl, _, _, _, _, _, _, c_AL_iterator w.lG.1, ⟨Nat.le_of_ble_eq_true rfl, Nat.le_of_ble_eq_true rfl, Nat.le_of_ble_eq_true rfl, Nat.le_of_ble_eq_true rfl⟩, fun _ _ z => False.elim z, ?_⟩
  rintro v9 h9 ⟨i, rfl, hi, o, od, ki, r3, m2, c0⟩
  have kR9 : j_kd h9 G = some (.inl 3) := (o.2 G (j_nn w.lG.1)).1.trans w.lG.1
  have zR9 : j_it h9 G 2 = j_it h G 2 := ((o.2 G (j_nn w.lG.1)).2.2 (fun z => z) 2).1
  obtain ⟨st, r0⟩ := j_Ir.new (ρ := ρ) w.km kR9 hi o od ki r3 m2 c0 (by rw [zR9]; omega)
  exact j_use hF (L 100 i _ h9 0 _ _ st r0 (Nat.le_of_ble_eq_true rfl) (Nat.le_of_ble_eq_true rfl) (by rw [zR9]; omega)) (And.intro rfl (And.intro rfl (And.intro rfl trivial)))
