/-! the model: iterators that write, text, slip word for word -/
theorem j_Ir.ui {h : j_H} {i L a k : Nat} {x : Int32} {n : Int} (r : j_Ir h i L n) (ka : j_kd h a = some (.inr 0)) (kL : j_kd h L = some (.inl 3)) : j_Ir (j_ui h a k x) i L n := by
  obtain ⟨ki, r3, m2, c0, n0, nz⟩ := r
  have ni : i ≠ a := fun z => by rw [z, ka] at ki; cases ki
  have nL : L ≠ a := fun z => by rw [z, ka] at kL; cases kL
  have si : ∀ j, j_it (j_ui h a k x) i j = j_it h i j := fun j => (j_up_ne h (j_i x) ni j).1
  have sL : ∀ j, j_it (j_ui h a k x) L j = j_it h L j := fun j => (j_up_ne h (j_i x) nL j).1
  exact ⟨ki, r3, by rw [si, sL]; exact m2, by rw [si]; exact c0, n0, by rw [sL]; exact nz⟩
set_option maxRecDepth 20000 in
theorem c_Mo_isx {h : j_H} {a b c : Int32} : j_Ct 182 0 0 0 0 [j_i a, j_i b, j_i c] h (fun v h' => h' = h ∧ ∃ r, v = some (j_i r) ∧ ((b.toInt ≤ a.toInt ∧ a.toInt ≤ c.toInt ∧ r = Int32.ofInt 1) ∨ (¬ (b.toInt ≤ a.toInt ∧ a.toInt ≤ c.toInt) ∧ r = Int32.ofInt 0))) j_no := by
  refine j_intro km_182 (Nat.le_of_ble_eq_true rfl) ?_
  intro J hJ hF
  refine hJ [] 400 _ _ _ _ _ _ ?_
  conv => whnf
  refine ⟨fun c1 => ?_, fun c1 => ?_⟩
  · have c1 : a.toInt < b.toInt := c1
    conv => whnf
    exact ⟨Or.inl rfl, ⟨Nat.le_of_ble_eq_true rfl, Nat.le_of_ble_eq_true rfl⟩, rfl, _, rfl, Or.inr ⟨by omega, rfl⟩⟩
  · have c1 : ¬ a.toInt < b.toInt := c1
    conv => whnf
    refine ⟨fun c2 => ?_, fun c2 => ?_⟩
    · have c2 : c.toInt < a.toInt := c2
      conv => whnf
      exact ⟨Or.inl rfl, ⟨Nat.le_of_ble_eq_true rfl, Nat.le_of_ble_eq_true rfl⟩, rfl, _, rfl, Or.inr ⟨by omega, rfl⟩⟩
    · have c2 : ¬ c.toInt < a.toInt := c2
      conv => whnf
      exact ⟨Or.inr rfl, ⟨Nat.le_of_ble_eq_true rfl, Nat.le_of_ble_eq_true rfl⟩, rfl, _, rfl, Or.inl ⟨by omega, by omega, rfl⟩⟩
set_option maxRecDepth 20000 in
theorem c_Mo_refusex {h : j_H} {m : Nat} {a : Int32} (km : j_kd h m = some (.inl 12)) : j_Ct 210 0 0 0 0 [j_r (some m), j_i a] h (fun v h' => v = some (j_i (Int32.ofInt 0)) ∧ h' = j_up h m 0 (j_i a)) j_no := by
  refine j_intro km_210 (Nat.le_of_ble_eq_true rfl) ?_
  intro J hJ hF
  refine hJ [] 400 _ _ _ _ _ _ ?_
  conv => whnf
  refine ⟨_, rfl, km, ?_⟩
  conv => whnf
  exact ⟨trivial, ⟨Nat.le_of_ble_eq_true rfl, Nat.le_of_ble_eq_true rfl⟩, rfl, rfl⟩
set_option maxRecDepth 20000 in
theorem c_Mo_slipx {h : j_H} {m : Nat} {a : Int32} (km : j_kd h m = some (.inl 12)) : j_Ct 212 1 22 0 0 [j_r (some m), j_i a] h (fun v h' => ((0 ≤ a.toInt ∧ a.toInt ≤ 9) ∧ v = some (j_i (j_it h m 3)) ∧ h' = j_up (j_up h m 0 (j_i (Int32.ofInt 0))) m 3 (j_i a)) ∨ (¬ (0 ≤ a.toInt ∧ a.toInt ≤ 9) ∧ v = some (j_i (Int32.ofInt 0)) ∧ h' = j_up (j_up h m 0 (j_i (Int32.ofInt 0))) m 0 (j_i (Int32.ofInt 1)))) j_no := by
  refine j_intro km_212 (Nat.le_of_ble_eq_true rfl) ?_
  intro J hJ hF
  have z0 : (Int32.ofInt 0).toInt = 0 := by decide
  have z1 : (Int32.ofInt 1).toInt = 1 := by decide
  have z9 : ((Int8.ofInt 9).toInt32).toInt = 9 := by decide
  refine hJ [] 400 _ _ _ _ _ _ ?_
  conv => whnf
  refine ⟨_, rfl, km, ?_⟩
  conv => whnf
  refine ⟨rfl, _, _, _, _, _, _, c_Mo_isx, ⟨Nat.le_of_ble_eq_true rfl, Nat.le_of_ble_eq_true rfl, Nat.le_of_ble_eq_true rfl, Nat.le_of_ble_eq_true rfl⟩, fun _ _ z => False.elim z, ?_⟩
  rintro v9 h9 ⟨e9, r, rfl, hr⟩
  conv => whnf
  refine ⟨fun c1 => ?_, fun c1 => ?_⟩
  · have c1 : ¬ r.toInt = 0 := c1
    have hv : 0 ≤ a.toInt ∧ a.toInt ≤ 9 := by
      rcases hr with ⟨q1, q2, q3⟩ | ⟨q1, q2⟩
      · exact ⟨by omega, by omega⟩
      · rw [q2, z0] at c1; exact absurd rfl c1
    subst e9
    conv => whnf
    refine ⟨_, rfl, km, fun y ey => ?_⟩
    obtain rfl : y = j_it h m 3 := ey.symm.trans (j_upm (by decide))
    conv => whnf
    refine ⟨_, rfl, km, ?_⟩
    conv => whnf
    exact ⟨trivial, ⟨Nat.le_of_ble_eq_true rfl, Nat.le_of_ble_eq_true rfl⟩, Or.inl ⟨hv, rfl, rfl⟩⟩
  · have c1 : ¬ ¬ r.toInt = 0 := c1
    have hv : ¬ (0 ≤ a.toInt ∧ a.toInt ≤ 9) := by
      rcases hr with ⟨q1, q2, q3⟩ | ⟨q1, q2⟩
      · rw [q3, z1] at c1; exact absurd (by decide) c1
      · intro z; exact q1 ⟨by omega, by omega⟩
    subst e9
    conv => whnf
    refine ⟨km, rfl, _, _, _, _, _, _, c_Mo_refusex km, ⟨Nat.le_of_ble_eq_true rfl, Nat.le_of_ble_eq_true rfl, Nat.le_of_ble_eq_true rfl, Nat.le_of_ble_eq_true rfl⟩, fun _ _ z => False.elim z, ?_⟩
    rintro v8 h8 ⟨rfl, e8⟩
    conv => whnf
    exact ⟨trivial, ⟨Nat.le_of_ble_eq_true rfl, Nat.le_of_ble_eq_true rfl⟩, Or.inr ⟨hv, rfl, e8⟩⟩
set_option maxHeartbeats 4000000 in
set_option maxRecDepth 20000 in
theorem c_Mo_changed {ρ : Nat → Nat} {h : j_H} {m P G R Q : Nat} {a b : Int32} (w : j_MX ρ h m P G R Q) : j_Ct 170 3 61 1 4 [j_r (some m), j_i a, j_i b] h (fun v h' => j_Mf ρ m h h' ∧ ∃ r, v = some (j_i r)) j_no := by
  refine j_intro km_170 (Nat.le_of_ble_eq_true rfl) ?_
  intro J hJ hF
  have q0 : (Int32.ofInt 0).toInt = 0 := by decide
  have q1 : (Int32.ofInt 1).toInt = 1 := by decide
  have q2 : (Int32.ofInt 2).toInt = 2 := by decide
  have q200 : ((Int16.ofInt 200).toInt32).toInt = 200 := by decide
  have L : (0 ≤ a.toInt ∧ a.toInt ≤ 1) → 2 ≤ b.toInt → ∀ (k i : Nat) (v : Int32) (hh : j_H) (n : Int) (cn sn : Nat), j_Mf ρ m h hh → j_Ir hh i R n → cn ≤ 1 → sn ≤ 4 → ((j_it hh R 2).toInt - n).toNat < k → J 48 [some (j_r (some m)), some (j_i a), some (j_i b), some (j_i v), some (j_r (some i)), none] [] hh cn sn := by
    intro ha hb k
    induction k with
    | zero => intro i v hh n cn sn f r hc hs hk; omega
    | succ k ih =>
      intro i v hh n cn sn f r hc hs hk
      have w1 := w.f f
      have wb := w1.b
      have r0 := r
      obtain ⟨ki, r3, m2, c0, n0, nz⟩ := r0
      refine hJ [48, 113] 400 _ _ _ _ _ _ ?_
      conv => whnf
      refine ⟨ki, rfl, _, _, _, _, _, _, c_IT_hasNext ki r3 w1.lR.1, ⟨Nat.le_of_ble_eq_true rfl, Nat.le_of_ble_eq_true rfl, by (try dsimp only); omega, by (try dsimp only); omega⟩, fun _ _ z => False.elim z, ?_⟩
      rintro v9 h9 ⟨e9, b9, rfl, hb9⟩
      obtain rfl : hh = h9 := e9.symm
      conv => whnf
      refine ⟨fun c => ?_, fun c => ?_⟩
      · conv => whnf
        exact ⟨trivial, ⟨by (try dsimp only); omega, by (try dsimp only); omega⟩, f, _, rfl⟩
      · have c : ¬ b9.toInt = 0 := c
        have hn : n < (j_it hh R 2).toInt := by omega
        conv => whnf
        refine ⟨ki, rfl, _, _, _, _, _, _, c_IT_next ki r3 m2 w1.lR (by omega) (by omega), ⟨Nat.le_of_ble_eq_true rfl, Nat.le_of_ble_eq_true rfl, by (try dsimp only); omega, by (try dsimp only); omega⟩, fun _ _ z => False.elim z, ?_⟩
        rintro v9 h9 ⟨⟨e, arr, rfl, ke, -, -⟩, e9⟩
        obtain ⟨st, rn⟩ := r.next (ρ := ρ) (m := m) w1.km w1.lR.1 hn (by omega)
        rw [← e9] at st rn
        have ke9 := st.kd ke
        have z9 := congrArg Int32.toInt (st.sz w1.lR.1)
        have f9 := f.tr st
        have w9 := w.f f9
        have nP := w9.nP
        have back : ∀ (v : Int32) (cn sn : Nat), cn ≤ 1 → sn ≤ 4 → J 48 [some (j_r (some m)), some (j_i a), some (j_i b), some (j_i v), some (j_r (some i)), none] [] h9 cn sn := fun v cn sn hc hs => ih i v h9 (n + 1) cn sn f9 rn hc hs (by omega)
        clear ih
        conv => whnf
        refine ⟨Or.inr ⟨_, rfl, ke9⟩, ?_⟩
        conv => whnf
        refine ⟨_, rfl, ke9, fun x _ => ?_⟩
        conv => whnf
        refine ⟨fun c2 => ?_, fun c2 => ?_⟩
        · exact j_use hF (back _ _ _ (by (try dsimp only); omega) (by (try dsimp only); omega)) (And.intro rfl (And.intro rfl (And.intro rfl (And.intro rfl (And.intro rfl trivial)))))
        conv => whnf
        refine ⟨_, rfl, ke9, fun x2 _ => ?_⟩
        conv => whnf
        refine ⟨fun c3 => ?_, fun c3 => ?_⟩
        rotate_left
        · exact j_use hF (back _ _ _ (by (try dsimp only); omega) (by (try dsimp only); omega)) (And.intro rfl (And.intro rfl (And.intro rfl (And.intro rfl (And.intro rfl trivial)))))
        have mid : J 113 [some (j_r (some m)), some (j_i a), some (j_i b), some (j_i v), some (j_r (some i)), some (j_r (some e))] [j_i v] h9 cn sn := by
          refine hJ [48] 400 _ _ _ _ _ _ ?_
          conv => whnf
          refine ⟨_, rfl, w9.km, fun o eo => ?_⟩
          obtain rfl : o = some P := eo.symm.trans w9.eP
          conv => whnf
          refine ⟨_, _, rfl, w9.kP, rfl, j_vp (by omega) (by omega), fun p ep => ?_⟩
          have hp : p.toInt ≠ 0 := j_nzP w9 ep (by omega) (by omega)
          conv => whnf
          refine ⟨w9.km, rfl, _, _, _, _, _, _, c_Mo_early w9 ke9 hp, ⟨Nat.le_of_ble_eq_true rfl, Nat.le_of_ble_eq_true rfl, by (try dsimp only); omega, by (try dsimp only); omega⟩, fun _ _ z => False.elim z, ?_⟩
          rintro v8 h8 ⟨e8, x3, rfl⟩
          obtain rfl : h9 = h8 := e8.symm
          conv => whnf
          refine ⟨w9.km, rfl, _, _, _, _, _, _, c_Mo_late w9 ke9 (by omega), ⟨Nat.le_of_ble_eq_true rfl, Nat.le_of_ble_eq_true rfl, by (try dsimp only); omega, by (try dsimp only); omega⟩, fun _ _ z => False.elim z, ?_⟩
          rintro v8 h8 ⟨e8, x4, rfl⟩
          obtain rfl : h9 = h8 := e8.symm
          conv => whnf
          refine ⟨fun c4 => ?_, fun c4 => ?_⟩
          · exact j_use hF (back _ _ _ (by (try dsimp only); omega) (by (try dsimp only); omega)) (And.intro rfl (And.intro rfl (And.intro rfl (And.intro rfl (And.intro rfl trivial)))))
          · exact j_use hF (back _ _ _ (by (try dsimp only); omega) (by (try dsimp only); omega)) (And.intro rfl (And.intro rfl (And.intro rfl (And.intro rfl (And.intro rfl trivial)))))
        conv => whnf
        refine ⟨w9.km, rfl, _, _, _, _, _, _, c_Mo_early w9 ke9 (by omega), ⟨Nat.le_of_ble_eq_true rfl, Nat.le_of_ble_eq_true rfl, by (try dsimp only); omega, by (try dsimp only); omega⟩, fun _ _ z => False.elim z, ?_⟩
        rintro v8 h8 ⟨e8, x3, rfl⟩
        obtain rfl : h9 = h8 := e8.symm
        conv => whnf
        refine ⟨_, rfl, w9.km, fun o eo => ?_⟩
        obtain rfl : o = some P := eo.symm.trans w9.eP
        conv => whnf
        refine ⟨_, _, rfl, w9.kP, rfl, j_vp (by omega) (by omega), fun p ep => ?_⟩
        have hp : p.toInt ≠ 0 := j_nzP w9 ep (by omega) (by omega)
        conv => whnf
        refine ⟨w9.km, rfl, _, _, _, _, _, _, c_Mo_late w9 ke9 hp, ⟨Nat.le_of_ble_eq_true rfl, Nat.le_of_ble_eq_true rfl, by (try dsimp only); omega, by (try dsimp only); omega⟩, fun _ _ z => False.elim z, ?_⟩
        rintro v8 h8 ⟨e8, x4, rfl⟩
        obtain rfl : h9 = h8 := e8.symm
        conv => whnf
        refine ⟨fun c4 => ?_, fun c4 => ?_⟩
        · exact j_use hF (back _ _ _ (by (try dsimp only); omega) (by (try dsimp only); omega)) (And.intro rfl (And.intro rfl (And.intro rfl (And.intro rfl (And.intro rfl trivial)))))
        · exact mid
  have wb := w.b
  refine hJ [48] 400 _ _ _ _ _ _ ?_
  conv => whnf
  refine ⟨_, rfl, w.km, ?_⟩
  show j_go _ _ _ _ _ _ _ _ _ _ (j_up h m 0 (j_i (Int32.ofInt (0)))) _ _
  have st1 : j_Mf ρ m h (j_up h m 0 (j_i (Int32.ofInt (0)))) := j_Mf.fi w.km (by decide)
  generalize j_up h m 0 (j_i (Int32.ofInt (0))) = h1 at st1 ⊢
  have w1 := w.f st1
  have wb1 := w1.b
  conv => whnf
  refine ⟨rfl, _, _, _, _, _, _, c_Mo_is, ⟨Nat.le_of_ble_eq_true rfl, Nat.le_of_ble_eq_true rfl, Nat.le_of_ble_eq_true rfl, Nat.le_of_ble_eq_true rfl⟩, fun _ _ z => False.elim z, ?_⟩
  rintro v9 h9 ⟨e9, r, rfl, zr, mr⟩
  obtain rfl : h1 = h9 := e9.symm
  conv => whnf
  refine ⟨fun c => ?_, fun c => ?_⟩
  rotate_left
  · conv => whnf
    refine ⟨w1.km, rfl, _, _, _, _, _, _, c_Mo_refuse w1, ⟨Nat.le_of_ble_eq_true rfl, Nat.le_of_ble_eq_true rfl, Nat.le_of_ble_eq_true rfl, Nat.le_of_ble_eq_true rfl⟩, fun _ _ z => False.elim z, ?_⟩
    rintro v8 h8 ⟨st8, x8, rfl⟩
    conv => whnf
    exact ⟨trivial, ⟨Nat.le_of_ble_eq_true rfl, Nat.le_of_ble_eq_true rfl⟩, st1.tr st8, _, rfl⟩
  have c : ¬ r.toInt = 0 := c
  conv => whnf
  refine ⟨rfl, _, _, _, _, _, _, c_Mo_is, ⟨Nat.le_of_ble_eq_true rfl, Nat.le_of_ble_eq_true rfl, Nat.le_of_ble_eq_true rfl, Nat.le_of_ble_eq_true rfl⟩, fun _ _ z => False.elim z, ?_⟩
  rintro v9 h9 ⟨e9, r2, rfl, zr2, mr2⟩
  obtain rfl : h1 = h9 := e9.symm
  conv => whnf
  refine ⟨fun c2 => ?_, fun c2 => ?_⟩
  rotate_left
  · conv => whnf
    refine ⟨w1.km, rfl, _, _, _, _, _, _, c_Mo_refuse w1, ⟨Nat.le_of_ble_eq_true rfl, Nat.le_of_ble_eq_true rfl, Nat.le_of_ble_eq_true rfl, Nat.le_of_ble_eq_true rfl⟩, fun _ _ z => False.elim z, ?_⟩
    rintro v8 h8 ⟨st8, x8, rfl⟩
    conv => whnf
    exact ⟨trivial, ⟨Nat.le_of_ble_eq_true rfl, Nat.le_of_ble_eq_true rfl⟩, st1.tr st8, _, rfl⟩
  have c2 : ¬ r2.toInt = 0 := c2
  conv => whnf
  refine ⟨_, rfl, w1.km, fun o eo => ?_⟩
  obtain rfl : o = some R := eo.symm.trans w1.eR
  conv => whnf
  refine ⟨w1.lR.1, rfl, _, _, _, _, _, _, c_AL_iterator w1.lR.1, ⟨Nat.le_of_ble_eq_true rfl, Nat.le_of_ble_eq_true rfl, Nat.le_of_ble_eq_true rfl, Nat.le_of_ble_eq_true rfl⟩, fun _ _ z => False.elim z, ?_⟩
  rintro v9 h9 ⟨i, rfl, hi, o, od, ki, r3, m2, c0⟩
  have kR9 : j_kd h9 R = some (.inl 3) := (o.2 R (j_nn w1.lR.1)).1.trans w1.lR.1
  have zR9 : j_it h9 R 2 = j_it h1 R 2 := ((o.2 R (j_nn w1.lR.1)).2.2 (fun z => z) 2).1
  obtain ⟨st, r0⟩ := j_Ir.new (ρ := ρ) w1.km kR9 hi o od ki r3 m2 c0 (by rw [zR9]; omega)
  exact j_use hF (L ⟨by omega, by omega⟩ (by omega) 100 i _ h9 0 _ _ (st1.tr st) r0 (Nat.le_of_ble_eq_true rfl) (Nat.le_of_ble_eq_true rfl) (by rw [zR9]; omega)) (And.intro rfl (And.intro rfl (And.intro rfl (And.intro rfl (And.intro rfl trivial)))))
set_option maxHeartbeats 4000000 in
set_option maxRecDepth 20000 in
theorem c_Mo_text {ρ : Nat → Nat} {h : j_H} {m P G R Q : Nat} {a : Int32} (w : j_MX ρ h m P G R Q) (sa : j_SA h) : j_Ct 222 8 183 11 750 [j_r (some m), j_i a] h (fun v h' => j_Mf ρ m h h' ∧ ∃ s, v = some (j_r s)) j_no := by
  refine j_intro km_222 (Nat.le_of_ble_eq_true rfl) ?_
  intro J hJ hF
  have E : ∀ (h0 h1 : j_H) (s : Nat) (n : Int) (cn sn : Nat), j_Mf ρ m h h0 → j_Bx (fun q => j_kd h0 q = none) h0 h1 → j_SB (fun q => j_kd h0 q = none) h1 s n 0 → cn ≤ 9 → sn ≤ 636 → J 108 [none, none, none, some (j_r (some s))] [] h1 cn sn := by
    intro h0 h1 s n cn sn f b sb hc hs
    refine hJ [] 400 _ _ _ _ _ _ ?_
    conv => whnf
    refine ⟨sb.2.1, rfl, _, _, _, _, _, _, c_SB_toString sb (b.1 (fun _ z => z)), ⟨Nat.le_of_ble_eq_true rfl, Nat.le_of_ble_eq_true rfl, by (try dsimp only); omega, by (try dsimp only); omega⟩, fun _ _ z => False.elim z, ?_⟩
    rintro v9 h9 ⟨⟨q, rfl⟩, x9⟩
    conv => whnf
    exact ⟨trivial, ⟨by (try dsimp only); omega, by (try dsimp only); omega⟩, f.tr (j_Mf.bx (w.f f).km (b.trans x9) (fun _ z => z)), _, rfl⟩
  have D : ∀ (h0 h1 : j_H) (s : Nat) (n : Int) (cn sn : Nat), j_Mf ρ m h h0 → j_Bx (fun q => j_kd h0 q = none) h0 h1 → j_SB (fun q => j_kd h0 q = none) h1 s n 0 → (0 ≤ a.toInt ∧ a.toInt < (j_it h1 G 2).toInt) → n ≤ 39 → cn ≤ 8 → sn ≤ 536 → J 84 [some (j_r (some m)), some (j_i a), none, some (j_r (some s))] [] h1 cn sn := by
    intro h0 h1 s n cn sn f b sb ha hn hc hs
    have w1 := w.f (f.tr (j_Mf.bx (w.f f).km b (fun _ z => z)))
    refine hJ [108] 400 _ _ _ _ _ _ ?_
    conv => whnf
    refine ⟨_, rfl, w1.km, fun o eo => ?_⟩
    obtain rfl : o = some G := eo.symm.trans w1.eG
    conv => whnf
    refine ⟨w1.lG.1, rfl, _, _, _, _, _, _, c_AL_get (h := h1) w1.lG j_Sc.rf j_sf_ok ha.1 ha.2, ⟨Nat.le_of_ble_eq_true rfl, Nat.le_of_ble_eq_true rfl, by (try dsimp only); omega, by (try dsimp only); omega⟩, fun _ _ z => False.elim z, ?_⟩
    rintro v9 h9 ⟨e9, z, rfl, kz, -⟩
    obtain rfl : h1 = h9 := e9.symm
    conv => whnf
    refine ⟨Or.inr ⟨_, rfl, kz⟩, ?_⟩
    conv => whnf
    refine ⟨_, rfl, kz, fun y _ => ?_⟩
    conv => whnf
    refine ⟨fun c => ?_, fun c => ?_⟩
    · exact j_use hF (E h0 h1 s n _ _ f b sb (by (try dsimp only); omega) (by (try dsimp only); omega)) (And.intro rfl trivial)
    · conv => whnf
      refine ⟨sb.2.1, rfl, _, _, _, _, _, _, c_SB_appendC sb (b.1 (fun _ z => z)) (by decide) hn, ⟨Nat.le_of_ble_eq_true rfl, Nat.le_of_ble_eq_true rfl, by (try dsimp only); omega, by (try dsimp only); omega⟩, fun _ _ z => False.elim z, ?_⟩
      rintro v9 h9 ⟨rfl, x9, sb9⟩
      conv => whnf
      exact j_use hF (E h0 h9 s (n + 1) _ _ f (b.trans x9) sb9 (by (try dsimp only); omega) (by (try dsimp only); omega)) (And.intro rfl trivial)
  -- behind the note of what was thrown
  have T : ∀ (h1 : j_H), j_Mf ρ m h h1 → (j_it h1 m 0).toInt = 0 → (0 ≤ a.toInt ∧ a.toInt < (j_it h1 G 2).toInt) → J 17 [some (j_r (some m)), some (j_i a), none, none] [] h1 0 0 := by
    intro h1 f1 t0 ha
    have w1 := w.f f1
    refine hJ [84] 400 _ _ _ _ _ _ ?_
    conv => whnf
    refine ⟨_, rfl, w1.km, fun y ey => ?_⟩
    have y0 : y.toInt = 0 := by rw [← ey]; exact t0
    conv => whnf
    refine ⟨fun _ => ?_, fun c => absurd (show y.toInt ≤ 0 by omega) (show ¬ y.toInt ≤ 0 from c)⟩
    conv => whnf
    refine ⟨w1.km, rfl, _, _, _, _, _, _, c_Mo_spans w1, ⟨Nat.le_of_ble_eq_true rfl, Nat.le_of_ble_eq_true rfl, Nat.le_of_ble_eq_true rfl, Nat.le_of_ble_eq_true rfl⟩, fun _ _ z => False.elim z, ?_⟩
    rintro v9 h0 ⟨st, sp, rfl, ksp, nsp⟩
    have f0 := f1.tr st
    have w0 := w.f f0
    have zG := congrArg Int32.toInt (st.sz w1.lG.1)
    have sa0 : j_SA h0 := sa.on f0.1
    conv => whnf
    refine ⟨⟨Nat.le_of_ble_eq_true rfl, Nat.le_of_ble_eq_true rfl⟩, fun s hs => ?_⟩
    have x0 : j_Bx (fun q => j_kd h0 q = none) h0 (j_nw h0 s (.inl 1) 0) := j_Bx.nw hs (fun c z => by cases z; decide)
    conv => whnf
    refine ⟨trivial, rfl, _, _, _, _, _, _, c_SB_init (N := fun q => j_kd h0 q = none) (if_pos rfl) hs (x0.1 (fun _ z => z)) ?_, ⟨Nat.le_of_ble_eq_true rfl, Nat.le_of_ble_eq_true rfl, Nat.le_of_ble_eq_true rfl, Nat.le_of_ble_eq_true rfl⟩, fun _ _ z => False.elim z, ?_⟩
    · show (if s = s then (0 : Int32) else _).toInt = 0
      rw [if_pos rfl]; decide
    rintro v9 h2 ⟨rfl, sb2, x2⟩
    have x2 := x0.trans x2
    have st2 : j_Mf ρ m h0 h2 := j_Mf.bx w0.km x2 (fun _ z => z)
    have w2 := w0.f st2
    have zR2 := congrArg Int32.toInt (st2.sz w0.lR.1)
    have nsp2 := st2.ln ksp
    conv => whnf
    refine ⟨w2.km, rfl, _, _, _, _, _, _, c_Mo_earlyOf w2 (st2.kd ksp) (by omega), ⟨Nat.le_of_ble_eq_true rfl, Nat.le_of_ble_eq_true rfl, Nat.le_of_ble_eq_true rfl, Nat.le_of_ble_eq_true rfl⟩, fun _ _ z => False.elim z, ?_⟩
    rintro v9 h9 ⟨e9, xa, rfl⟩
    obtain rfl : h2 = h9 := e9.symm
    conv => whnf
    refine ⟨sb2.2.1, rfl, _, _, _, _, _, _, c_SB_appendI sb2 (x2.1 (fun _ z => z)) (sa0.on x2.2.1) (by omega), ⟨Nat.le_of_ble_eq_true rfl, Nat.le_of_ble_eq_true rfl, Nat.le_of_ble_eq_true rfl, Nat.le_of_ble_eq_true rfl⟩, fun _ _ z => False.elim z, ?_⟩
    rintro v9 h3 ⟨rfl, x3, n3, q3, sb3⟩
    have x3 := x2.trans x3
    conv => whnf
    refine ⟨sb3.2.1, rfl, _, _, _, _, _, _, c_SB_appendC sb3 (x3.1 (fun _ z => z)) (by decide) (by omega), ⟨Nat.le_of_ble_eq_true rfl, Nat.le_of_ble_eq_true rfl, Nat.le_of_ble_eq_true rfl, Nat.le_of_ble_eq_true rfl⟩, fun _ _ z => False.elim z, ?_⟩
    rintro v9 h4 ⟨rfl, x4, sb4⟩
    have x4 := x3.trans x4
    have st4 : j_Mf ρ m h0 h4 := j_Mf.bx w0.km x4 (fun _ z => z)
    have w4 := w0.f st4
    have zR4 := congrArg Int32.toInt (st4.sz w0.lR.1)
    have nsp4 := st4.ln ksp
    conv => whnf
    refine ⟨w4.km, rfl, _, _, _, _, _, _, c_Mo_lateOf w4 (st4.kd ksp) (by omega), ⟨Nat.le_of_ble_eq_true rfl, Nat.le_of_ble_eq_true rfl, Nat.le_of_ble_eq_true rfl, Nat.le_of_ble_eq_true rfl⟩, fun _ _ z => False.elim z, ?_⟩
    rintro v9 h9 ⟨e9, xb, rfl⟩
    obtain rfl : h4 = h9 := e9.symm
    conv => whnf
    refine ⟨sb4.2.1, rfl, _, _, _, _, _, _, c_SB_appendI sb4 (x4.1 (fun _ z => z)) (sa0.on x4.2.1) (by omega), ⟨Nat.le_of_ble_eq_true rfl, Nat.le_of_ble_eq_true rfl, Nat.le_of_ble_eq_true rfl, Nat.le_of_ble_eq_true rfl⟩, fun _ _ z => False.elim z, ?_⟩
    rintro v9 h5 ⟨rfl, x5, n5, q5, sb5⟩
    have x5 := x4.trans x5
    have st5 : j_Mf ρ m h0 h5 := j_Mf.bx w0.km x5 (fun _ z => z)
    have w5 := w0.f st5
    have zR5 := congrArg Int32.toInt (st5.sz w0.lR.1)
    have zG5 := congrArg Int32.toInt (st5.sz w0.lG.1)
    have nsp5 := st5.ln ksp
    conv => whnf
    refine ⟨w5.km, rfl, _, _, _, _, _, _, c_Mo_quarrels w5 (st5.kd ksp) (by omega), ⟨Nat.le_of_ble_eq_true rfl, Nat.le_of_ble_eq_true rfl, Nat.le_of_ble_eq_true rfl, Nat.le_of_ble_eq_true rfl⟩, fun _ _ z => False.elim z, ?_⟩
    rintro v9 h9 ⟨e9, xc, rfl, zc⟩
    obtain rfl : h5 = h9 := e9.symm
    conv => whnf
    refine ⟨fun c => ?_, fun c => ?_⟩
    · exact j_use hF (D h0 h5 s n5 _ _ f0 x5 sb5 ⟨ha.1, by omega⟩ (by omega) (Nat.le_of_ble_eq_true rfl) (Nat.le_of_ble_eq_true rfl)) (And.intro rfl (And.intro rfl (And.intro rfl trivial)))
    · conv => whnf
      refine ⟨sb5.2.1, rfl, _, _, _, _, _, _, c_SB_appendC sb5 (x5.1 (fun _ z => z)) (by decide) (by omega), ⟨Nat.le_of_ble_eq_true rfl, Nat.le_of_ble_eq_true rfl, Nat.le_of_ble_eq_true rfl, Nat.le_of_ble_eq_true rfl⟩, fun _ _ z => False.elim z, ?_⟩
      rintro v9 h6 ⟨rfl, x6, sb6⟩
      have x6 := x5.trans x6
      have st6 : j_Mf ρ m h0 h6 := j_Mf.bx w0.km x6 (fun _ z => z)
      have zG6 := congrArg Int32.toInt (st6.sz w0.lG.1)
      conv => whnf
      exact j_use hF (D h0 h6 s (n5 + 1) _ _ f0 x6 sb6 ⟨ha.1, by omega⟩ (by omega) (Nat.le_of_ble_eq_true rfl) (Nat.le_of_ble_eq_true rfl)) (And.intro rfl (And.intro rfl (And.intro rfl trivial)))
  refine hJ [17] 400 _ _ _ _ _ _ ?_
  conv => whnf
  refine ⟨w.km, rfl, _, _, _, _, _, _, c_Mo_isGrain w, ⟨Nat.le_of_ble_eq_true rfl, Nat.le_of_ble_eq_true rfl, Nat.le_of_ble_eq_true rfl, Nat.le_of_ble_eq_true rfl⟩, fun _ _ z => False.elim z, ?_⟩
  rintro v9 h9 ⟨e9, r, rfl, zr, mr⟩
  obtain rfl : h = h9 := e9.symm
  conv => whnf
  refine ⟨fun c => ?_, fun c => ?_⟩
  · conv => whnf
    refine ⟨_, rfl, w.km, ?_⟩
    show J 17 _ _ (j_up h m 0 (j_i (Int32.ofInt (1)))) _ _
    have st1 : j_Mf ρ m h (j_up h m 0 (j_i (Int32.ofInt (1)))) := j_Mf.fi w.km (by decide)
    have t1 : j_it (j_up h m 0 (j_i (Int32.ofInt (1)))) m 0 = Int32.ofInt 1 := j_upi
    generalize j_up h m 0 (j_i (Int32.ofInt (1))) = h1 at st1 t1 ⊢
    have w1 := w.f st1
    refine hJ [] 400 _ _ _ _ _ _ ?_
    conv => whnf
    refine ⟨_, rfl, w1.km, fun y ey => ?_⟩
    obtain rfl : y = Int32.ofInt 1 := ey.symm.trans t1
    conv => whnf
    refine ⟨fun c => absurd (show (Int32.ofInt 1).toInt ≤ 0 from c) (by decide), fun _ => ?_⟩
    conv => whnf
    intro sa1
    conv => whnf
    exact ⟨trivial, ⟨Nat.le_of_ble_eq_true rfl, Nat.le_of_ble_eq_true rfl⟩, st1, _, rfl⟩
  · have c : ¬ r.toInt = 0 := c
    have ha : 0 ≤ a.toInt ∧ a.toInt < (j_it h G 2).toInt := by omega
    conv => whnf
    refine ⟨_, rfl, w.km, ?_⟩
    show J 17 _ _ (j_up h m 0 (j_i (Int32.ofInt (0)))) _ _
    have st1 : j_Mf ρ m h (j_up h m 0 (j_i (Int32.ofInt (0)))) := j_Mf.fi w.km (by decide)
    have t1 : j_it (j_up h m 0 (j_i (Int32.ofInt (0)))) m 0 = Int32.ofInt 0 := j_upi
    have z1 := congrArg Int32.toInt (st1.sz w.lG.1)
    exact j_use hF (T _ st1 (by rw [t1]; decide) ⟨ha.1, by omega⟩) (And.intro rfl (And.intro rfl trivial))
