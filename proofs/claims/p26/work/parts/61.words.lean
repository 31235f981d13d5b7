/-! words put together: what is added, and what comes of it -/
theorem j_Gc.bx {N : Nat → Prop} {a : Nat} {h h' : j_H} (g : j_Gc a h h') (na : N a) : j_Bx N h h' := ⟨fun n q hq => n q ((g.2.2 q).symm.trans hq), g.1.mono (fun q _ e => by rw [e]; exact na), fun q c z _ => (g.2.2 q).symm.trans z⟩
theorem j_Bx.kd {N : Nat → Prop} {h h' : j_H} {q : Nat} {s : Nat ⊕ Nat} (b : j_Bx N h h') (k : j_kd h q = some s) : j_kd h' q = some s := (b.2.1.2 q (fun z => by rw [k] at z; cases z)).1.trans k
set_option maxRecDepth 20000 in
theorem c_ASB_appendI {N : Nat → Prop} {h : j_H} {s : Nat} {n m : Int} {x : Int32} (b : j_SB N h s n m) (hN : j_Nn N h) (sa : j_SA h) (hn : n ≤ 29) : j_Ct 2 4 92 1 100 [j_r (some s), j_i x] h (fun v h' => v = some (j_r (some s)) ∧ j_Bx N h h' ∧ ∃ n', n' ≤ n + 11 ∧ j_SB N h' s n' 0) j_no := by
  have b0 := b
  obtain ⟨ns, ks, c0, c3, n0, -⟩ := b0
  refine j_intro km_2 (Nat.le_of_ble_eq_true rfl) ?_
  intro J hJ hF
  refine hJ [48] 400 _ _ _ _ _ _ ?_
  conv => whnf
  refine ⟨_, rfl, ks, fun y ey => ?_⟩
  obtain rfl : y = j_it h s 3 := ey.symm
  conv => whnf
  refine ⟨rfl, _, _, _, _, _, _, c_stringSize, ⟨Nat.le_of_ble_eq_true rfl, Nat.le_of_ble_eq_true rfl, Nat.le_of_ble_eq_true rfl, Nat.le_of_ble_eq_true rfl⟩, fun _ _ z => False.elim z, ?_⟩
  rintro v9 h9 ⟨rfl, r, rfl, r1, r2, r3⟩
  have ek : (j_it h9 s 3 + r).toInt = n + r.toInt := by rw [j_addI (by omega) (by omega), c3]
  obtain ⟨k, hk⟩ : ∃ k, j_it h9 s 3 + r = k := ⟨_, rfl⟩
  rw [hk] at ek
  conv => whnf
  rw [hk]
  refine ⟨ks, rfl, _, _, _, _, _, _, c_ASB_ensure b hN (by omega) (by omega), ⟨Nat.le_of_ble_eq_true rfl, Nat.le_of_ble_eq_true rfl, Nat.le_of_ble_eq_true rfl, Nat.le_of_ble_eq_true rfl⟩, fun _ _ z => False.elim z, ?_⟩
  rintro v8 h8 ⟨rfl, b8, x8⟩
  obtain ⟨-, ks8, c08, c38, -, a, e8, ⟨na, ka, la, fa⟩, l1, l2⟩ := b8
  conv => whnf
  refine ⟨ks8, rfl, _, _, _, _, _, _, c_ASB_isLatin1 ks8 c08, ⟨Nat.le_of_ble_eq_true rfl, Nat.le_of_ble_eq_true rfl, Nat.le_of_ble_eq_true rfl, Nat.le_of_ble_eq_true rfl⟩, fun _ _ z => False.elim z, ?_⟩
  rintro v7 h7 ⟨rfl, rfl⟩
  conv => whnf
  refine ⟨fun c => absurd (show (Int32.ofInt 1).toInt = 0 from c) (by decide), fun _ => ?_⟩
  conv => whnf
  refine ⟨_, rfl, ks8, fun o eo => ?_⟩
  obtain rfl : o = some a := eo.symm.trans e8
  conv => whnf
  refine ⟨rfl, _, _, _, _, _, _, c_getChars ka la (sa.on x8.2.1) (by omega) (by have := r3 6; omega), ⟨Nat.le_of_ble_eq_true rfl, Nat.le_of_ble_eq_true rfl, Nat.le_of_ble_eq_true rfl, Nat.le_of_ble_eq_true rfl⟩, fun _ _ z => False.elim z, ?_⟩
  rintro v6 h6 ⟨g, r6, rfl⟩
  have nsa : s ≠ a := fun z => by rw [z, ka] at ks8; cases ks8
  have gs := (g.1.2 s (fun z => by rw [ks8] at z; cases z)).2.2 nsa
  have ks6 : j_kd h6 s = some (.inl 1) := (g.2.2 s).trans ks8
  have La : J 48 [some (j_r (some s)), none, none, some (j_i k), none] [] h6 (0 + 0 + 1 + 0 + 0) (0 + 0 + 100 + 0 + 0) := by
    refine hJ [] 400 _ _ _ _ _ _ ?_
    conv => whnf
    refine ⟨_, rfl, ks6, ?_⟩
    conv => whnf
    refine ⟨trivial, ⟨Nat.le_of_ble_eq_true rfl, Nat.le_of_ble_eq_true rfl⟩, rfl, (x8.trans (g.bx na)).trans (j_Bx.up ns), k.toInt, by omega, ns, ks6, (j_upm (by decide)).trans ((gs 1).1.trans c08), congrArg Int32.toInt j_upi, by omega, a, (gs 0).2.2.trans e8, ⟨na, (g.2.2 a).trans ka, ?_, fun j => ?_⟩, ?_, by omega⟩
    · show j_ln h6 a ≤ 100
      rw [(g.1.2 a (fun z => by rw [ka] at z; cases z)).2.1]; exact la
    · rw [(j_up_ne _ _ (fun z => nsa z.symm) j).1]
      exact g.2.1 fa j
    · show k.toInt ≤ (j_ln h6 a : Int)
      rw [(g.1.2 a (fun z => by rw [ka] at z; cases z)).2.1]; exact l2
  conv => whnf
  exact j_use hF La (And.intro rfl (And.intro rfl trivial))
set_option maxRecDepth 20000 in
theorem c_SB_appendI {N : Nat → Prop} {h : j_H} {s : Nat} {n m : Int} {x : Int32} (b : j_SB N h s n m) (hN : j_Nn N h) (sa : j_SA h) (hn : n ≤ 29) : j_Ct 28 5 115 1 100 [j_r (some s), j_i x] h (fun v h' => v = some (j_r (some s)) ∧ j_Bx N h h' ∧ ∃ n', n' ≤ n + 11 ∧ j_SB N h' s n' 0) j_no := by
  refine j_intro km_28 (Nat.le_of_ble_eq_true rfl) ?_
  intro J hJ hF
  refine hJ [] 400 _ _ _ _ _ _ ?_
  conv => whnf
  refine ⟨b.2.1, rfl, _, _, _, _, _, _, c_ASB_appendI b hN sa hn, ⟨Nat.le_of_ble_eq_true rfl, Nat.le_of_ble_eq_true rfl, Nat.le_of_ble_eq_true rfl, Nat.le_of_ble_eq_true rfl⟩, fun _ _ z => False.elim z, ?_⟩
  rintro v9 h9 ⟨rfl, x9, n', q1, b9⟩
  conv => whnf
  exact ⟨trivial, ⟨Nat.le_of_ble_eq_true rfl, Nat.le_of_ble_eq_true rfl⟩, rfl, x9, n', q1, b9⟩
set_option maxRecDepth 20000 in
theorem c_ASB_appendC {N : Nat → Prop} {h : j_H} {s : Nat} {n m : Int} {x : Int32} (b : j_SB N h s n m) (hN : j_Nn N h) (hx : x.toInt ≤ 255) (hn : n ≤ 39) : j_Ct 1 6 137 1 100 [j_r (some s), j_i x] h (fun v h' => v = some (j_r (some s)) ∧ j_Bx N h h' ∧ j_SB N h' s (n + 1) 0) j_no := by
  have b0 := b
  obtain ⟨ns, ks, c0, c3, n0, -⟩ := b0
  refine j_intro km_1 (Nat.le_of_ble_eq_true rfl) ?_
  intro J hJ hF
  refine hJ [] 400 _ _ _ _ _ _ ?_
  conv => whnf
  refine ⟨_, rfl, ks, fun y ey => ?_⟩
  obtain rfl : y = j_it h s 3 := ey.symm
  have ek : (j_it h s 3 + Int32.ofInt 1).toInt = n + 1 := by rw [j_inc1 (by omega), c3]
  obtain ⟨k, hk⟩ : ∃ k, j_it h s 3 + Int32.ofInt 1 = k := ⟨_, rfl⟩
  rw [hk] at ek
  conv => whnf
  rw [hk]
  refine ⟨ks, rfl, _, _, _, _, _, _, c_ASB_ensure b hN (by omega) (by omega), ⟨Nat.le_of_ble_eq_true rfl, Nat.le_of_ble_eq_true rfl, Nat.le_of_ble_eq_true rfl, Nat.le_of_ble_eq_true rfl⟩, fun _ _ z => False.elim z, ?_⟩
  rintro v8 h8 ⟨rfl, b8, x8⟩
  obtain ⟨-, ks8, c08, c38, -, a, e8, ⟨na, ka, la, fa⟩, l1, l2⟩ := b8
  conv => whnf
  refine ⟨ks8, rfl, _, _, _, _, _, _, c_ASB_isLatin1 ks8 c08, ⟨Nat.le_of_ble_eq_true rfl, Nat.le_of_ble_eq_true rfl, Nat.le_of_ble_eq_true rfl, Nat.le_of_ble_eq_true rfl⟩, fun _ _ z => False.elim z, ?_⟩
  rintro v7 h7 ⟨rfl, rfl⟩
  conv => whnf
  refine ⟨fun c => absurd (show (Int32.ofInt 1).toInt = 0 from c) (by decide), fun _ => ?_⟩
  conv => whnf
  refine ⟨rfl, _, _, _, _, _, _, c_canEncode hx, ⟨Nat.le_of_ble_eq_true rfl, Nat.le_of_ble_eq_true rfl, Nat.le_of_ble_eq_true rfl, Nat.le_of_ble_eq_true rfl⟩, fun _ _ z => False.elim z, ?_⟩
  rintro v6 h6 ⟨rfl, rfl⟩
  conv => whnf
  refine ⟨fun c => absurd (show (Int32.ofInt 1).toInt = 0 from c) (by decide), fun _ => ?_⟩
  conv => whnf
  refine ⟨_, rfl, ks8, fun o eo => ?_⟩
  obtain rfl : o = some a := eo.symm.trans e8
  conv => whnf
  refine ⟨_, rfl, ks8, fun y ey => ?_⟩
  have ey : j_it h6 s 3 = y := ey
  have yn : y.toInt = n := by rw [← ey]; exact c38
  have ek2 : (y + Int32.ofInt 1).toInt = n + 1 := by rw [j_inc1 (by omega), yn]
  have nsa : a ≠ s := fun z => by rw [z, ks8] at ka; cases ka
  conv => whnf
  refine ⟨_, rfl, ks8, ?_⟩
  conv => whnf
  refine ⟨_, rfl, ka, j_vp (by omega) (by show y.toInt < (j_ln h6 a : Int); omega), ?_⟩
  conv => whnf
  refine ⟨trivial, ⟨Nat.le_of_ble_eq_true rfl, Nat.le_of_ble_eq_true rfl⟩, rfl, (x8.trans (j_Bx.up ns)).trans (j_Bx.ui na), ns, ks8, ?_, ?_, by omega, a, e8, ⟨na, ka, la, ?_⟩, by show n + 1 ≤ (j_ln h6 a : Int); omega, by omega⟩
  · exact (j_u_ne (fun z => nsa z.symm)).trans ((j_upm (by decide)).trans c08)
  · exact (congrArg Int32.toInt ((j_u_ne (fun z => nsa z.symm)).trans j_upi)).trans ek2
  · refine j_Bf.ui (fun j => ?_)
    rw [(j_up_ne _ _ nsa j).1]
    exact fa j
set_option maxRecDepth 20000 in
theorem c_SB_appendC {N : Nat → Prop} {h : j_H} {s : Nat} {n m : Int} {x : Int32} (b : j_SB N h s n m) (hN : j_Nn N h) (hx : x.toInt ≤ 255) (hn : n ≤ 39) : j_Ct 27 7 158 1 100 [j_r (some s), j_i x] h (fun v h' => v = some (j_r (some s)) ∧ j_Bx N h h' ∧ j_SB N h' s (n + 1) 0) j_no := by
  refine j_intro km_27 (Nat.le_of_ble_eq_true rfl) ?_
  intro J hJ hF
  refine hJ [] 400 _ _ _ _ _ _ ?_
  conv => whnf
  refine ⟨b.2.1, rfl, _, _, _, _, _, _, c_ASB_appendC b hN hx hn, ⟨Nat.le_of_ble_eq_true rfl, Nat.le_of_ble_eq_true rfl, Nat.le_of_ble_eq_true rfl, Nat.le_of_ble_eq_true rfl⟩, fun _ _ z => False.elim z, ?_⟩
  rintro v9 h9 ⟨rfl, x9, b9⟩
  conv => whnf
  exact ⟨trivial, ⟨Nat.le_of_ble_eq_true rfl, Nat.le_of_ble_eq_true rfl⟩, rfl, x9, b9⟩
set_option maxRecDepth 20000 in
theorem c_checkLength {h : j_H} {f t : Int32} (hft : f.toInt ≤ t.toInt) : j_Ct 65 0 0 0 0 [j_i f, j_i t] h (fun v h' => v = none ∧ h' = h) j_no := by
  refine j_intro km_65 (Nat.le_of_ble_eq_true rfl) ?_
  intro J hJ hF
  refine hJ [] 400 _ _ _ _ _ _ ?_
  conv => whnf
  refine ⟨fun _ => ?_, fun c => absurd hft (show ¬ f.toInt ≤ t.toInt from c)⟩
  conv => whnf
  exact ⟨rfl, ⟨Nat.le_of_ble_eq_true rfl, Nat.le_of_ble_eq_true rfl⟩, rfl, rfl⟩
set_option maxRecDepth 20000 in
theorem c_copyRangeB {N : Nat → Prop} {h : j_H} {a : Nat} {f t : Int32} (ba : j_Ba N h a) (hN : j_Nn N h) (hf : f.toInt = 0) (t0 : 0 ≤ t.toInt) (ht : t.toInt ≤ (j_ln h a : Int)) : j_Ct 70 1 26 1 100 [j_r (some a), j_i f, j_i t] h (fun v h' => ∃ b, v = some (j_r (some b)) ∧ j_Bx N h h') j_no := by
  obtain ⟨na, ka, la, fa⟩ := ba
  have li : (nI (j_ln h a)).toInt = (j_ln h a : Int) := nI_toInt (by omega)
  refine j_intro km_70 (Nat.le_of_ble_eq_true rfl) ?_
  intro J hJ hF
  refine hJ [] 400 _ _ _ _ _ _ ?_
  conv => whnf
  refine ⟨rfl, _, _, _, _, _, _, c_checkLength (by omega), ⟨Nat.le_of_ble_eq_true rfl, Nat.le_of_ble_eq_true rfl, Nat.le_of_ble_eq_true rfl, Nat.le_of_ble_eq_true rfl⟩, fun _ _ z => False.elim z, ?_⟩
  rintro v9 h9 ⟨rfl, rfl⟩
  have en : (t - f).toInt = t.toInt := by rw [j_subI (by omega) (by omega)]; omega
  obtain ⟨n, hn⟩ : ∃ n, t - f = n := ⟨_, rfl⟩
  rw [hn] at en
  have cl := j_clamp (i := n) (by omega)
  conv => whnf
  rw [hn]
  refine ⟨⟨fun z => absurd (j_l0.mp z) (by omega), by omega⟩, ⟨Nat.le_of_ble_eq_true rfl, by show 0 + 0 + n.toNatClampNeg ≤ 100; omega⟩, fun b hb => ?_⟩
  have nb : a ≠ b := fun z => by rw [z, hb] at ka; cases ka
  have k1 : j_kd (j_nw h9 b (.inr 1) n.toNatClampNeg) a = some (.inr 1) := (if_neg nb).trans ka
  have l1 : j_ln (j_nw h9 b (.inr 1) n.toNatClampNeg) a = j_ln h9 a := if_neg nb
  have l2 : j_ln (j_nw h9 b (.inr 1) n.toNatClampNeg) b = n.toNatClampNeg := if_pos rfl
  have fa1 : ∀ k, j_it (j_nw h9 b (.inr 1) n.toNatClampNeg) a k = j_it h9 a k := fun k => if_neg nb
  conv => whnf
  refine ⟨_, _, rfl, k1, ?_⟩
  conv => whnf
  refine ⟨⟨Nat.le_of_ble_eq_true rfl, Nat.le_of_ble_eq_true rfl, Nat.le_of_ble_eq_true rfl, by show 0 + 0 + n.toNatClampNeg ≤ 100; omega⟩, ?_⟩
  rw [l1]
  have em : (nI (j_ln h9 a) - f).toInt = (j_ln h9 a : Int) := by rw [j_subI (by omega) (by omega)]; omega
  have hm : ∃ m : Int32, (if n < nI (j_ln h9 a) - f then n else nI (j_ln h9 a) - f) = m ∧ 0 ≤ m.toInt ∧ m.toInt ≤ n.toInt ∧ m.toInt ≤ (j_ln h9 a : Int) := by
    by_cases z : n < nI (j_ln h9 a) - f
    · exact ⟨n, if_pos z, by omega, by omega, by omega⟩
    · have z1 : ¬ n.toInt < (nI (j_ln h9 a) - f).toInt := fun q => z (j_ll.mpr q)
      exact ⟨_, if_neg z, by omega, by omega, by omega⟩
  obtain ⟨m, hm, m0, m1, m2⟩ := hm
  rw [hm]
  have z0 : (Int32.ofInt 0).toInt = 0 := by decide
  conv => whnf
  refine ⟨_, _, _, rfl, rfl, k1, rfl, if_pos rfl, ⟨by omega, by omega, by omega, by rw [l1]; omega, by rw [l2]; omega⟩, fun k => by rw [fa1]; exact fa k, ⟨Nat.le_of_ble_eq_true rfl, Nat.le_of_ble_eq_true rfl⟩, ?_⟩
  conv => whnf
  exact ⟨trivial, ⟨Nat.le_of_ble_eq_true rfl, by show 0 + 0 + n.toNatClampNeg ≤ 100; omega⟩, b, rfl, (j_Bx.nw hb (fun c z => by cases z)).trans (j_Bx.cpi (hN b hb))⟩
set_option maxRecDepth 20000 in
theorem c_copyRange {N : Nat → Prop} {h : j_H} {a : Nat} {f t : Int32} (ba : j_Ba N h a) (hN : j_Nn N h) (hf : f.toInt = 0) (t0 : 0 ≤ t.toInt) (ht : t.toInt ≤ (j_ln h a : Int)) : j_Ct 69 2 50 1 100 [j_r (some a), j_i f, j_i t] h (fun v h' => ∃ b, v = some (j_r (some b)) ∧ j_Bx N h h') j_no := by
  have ba9 := ba
  obtain ⟨na, ka, la, fa⟩ := ba9
  refine j_intro km_69 (Nat.le_of_ble_eq_true rfl) ?_
  intro J hJ hF
  refine hJ [] 400 _ _ _ _ _ _ ?_
  conv => whnf
  refine ⟨fun c => absurd hf (show ¬ f.toInt = 0 from c), fun _ => ?_⟩
  conv => whnf
  refine ⟨_, _, rfl, ka, ?_⟩
  conv => whnf
  refine ⟨fun c => ?_, fun c => ?_⟩
  · conv => whnf
    refine ⟨_, _, rfl, ka, rfl, fa, ⟨Nat.le_of_ble_eq_true rfl, Nat.le_of_ble_eq_true rfl⟩, ⟨Nat.le_of_ble_eq_true rfl, by show 0 + j_ln h a ≤ 100; omega⟩, fun b hb => ?_⟩
    conv => whnf
    refine ⟨Or.inr ⟨b, rfl, if_pos rfl⟩, ?_⟩
    conv => whnf
    exact ⟨trivial, ⟨Nat.le_of_ble_eq_true rfl, by show 0 + j_ln h a ≤ 100; omega⟩, b, rfl, (j_Bx.nw hb (fun c z => by cases z)).trans (j_Bx.cpi (hN b hb))⟩
  · conv => whnf
    refine ⟨rfl, _, _, _, _, _, _, c_copyRangeB ba hN hf t0 ht, ⟨Nat.le_of_ble_eq_true rfl, Nat.le_of_ble_eq_true rfl, Nat.le_of_ble_eq_true rfl, Nat.le_of_ble_eq_true rfl⟩, fun _ _ z => False.elim z, ?_⟩
    rintro v9 h9 ⟨b, rfl, bx⟩
    conv => whnf
    exact ⟨trivial, ⟨Nat.le_of_ble_eq_true rfl, Nat.le_of_ble_eq_true rfl⟩, b, rfl, bx⟩
set_option maxRecDepth 20000 in
theorem c_ASB_getValue {h : j_H} {s a : Nat} (ks : j_kd h s = some (.inl 1)) (e0 : j_rf h s 0 = some a) : j_Ct 6 0 0 0 0 [j_r (some s)] h (fun v h' => h' = h ∧ v = some (j_r (some a))) j_no := by
  refine j_intro km_6 (Nat.le_of_ble_eq_true rfl) ?_
  intro J hJ hF
  refine hJ [] 400 _ _ _ _ _ _ ?_
  conv => whnf
  refine ⟨_, rfl, ks, fun o eo => ?_⟩
  obtain rfl : o = some a := eo.symm.trans e0
  conv => whnf
  exact ⟨trivial, ⟨Nat.le_of_ble_eq_true rfl, Nat.le_of_ble_eq_true rfl⟩, rfl, rfl⟩
set_option maxRecDepth 20000 in
theorem c_ASB_length {h : j_H} {s : Nat} (ks : j_kd h s = some (.inl 1)) : j_Ct 10 0 0 0 0 [j_r (some s)] h (fun v h' => h' = h ∧ v = some (j_i (j_it h s 3))) j_no := by
  refine j_intro km_10 (Nat.le_of_ble_eq_true rfl) ?_
  intro J hJ hF
  refine hJ [] 400 _ _ _ _ _ _ ?_
  conv => whnf
  refine ⟨_, rfl, ks, fun y ey => ?_⟩
  obtain rfl : y = j_it h s 3 := ey.symm
  conv => whnf
  exact ⟨trivial, ⟨Nat.le_of_ble_eq_true rfl, Nat.le_of_ble_eq_true rfl⟩, rfl, rfl⟩
set_option maxRecDepth 20000 in
theorem c_SB_length {h : j_H} {s : Nat} (ks : j_kd h s = some (.inl 1)) : j_Ct 30 1 20 0 0 [j_r (some s)] h (fun v h' => h' = h ∧ v = some (j_i (j_it h s 3))) j_no := by
  refine j_intro km_30 (Nat.le_of_ble_eq_true rfl) ?_
  intro J hJ hF
  refine hJ [] 400 _ _ _ _ _ _ ?_
  conv => whnf
  refine ⟨ks, rfl, _, _, _, _, _, _, c_ASB_length ks, ⟨Nat.le_of_ble_eq_true rfl, Nat.le_of_ble_eq_true rfl, Nat.le_of_ble_eq_true rfl, Nat.le_of_ble_eq_true rfl⟩, fun _ _ z => False.elim z, ?_⟩
  rintro v9 h9 ⟨rfl, rfl⟩
  conv => whnf
  exact ⟨trivial, ⟨Nat.le_of_ble_eq_true rfl, Nat.le_of_ble_eq_true rfl⟩, rfl, rfl⟩
set_option maxRecDepth 20000 in
theorem c_Str_init18 {N : Nat → Prop} {h : j_H} {q s : Nat} {n m : Int} (kq : j_kd h q = some (.inl 0)) (nq : N q) (b : j_SB N h s n m) (hN : j_Nn N h) : j_Ct 18 5 118 1 100 [j_r (some q), j_r (some s), j_r none] h (fun v h' => v = none ∧ j_Bx N h h') j_no := by
  obtain ⟨ns, ks, c0, c3, n0, a, e0, ba, l1, l2⟩ := b
  refine j_intro km_18 (Nat.le_of_ble_eq_true rfl) ?_
  intro J hJ hF
  refine hJ [] 400 _ _ _ _ _ _ ?_
  conv => whnf
  refine ⟨_, rfl, ⟨Nat.le_of_ble_eq_true rfl, Nat.le_of_ble_eq_true rfl⟩, ?_⟩
  conv => whnf
  refine ⟨ks, rfl, _, _, _, _, _, _, c_ASB_getValue ks e0, ⟨Nat.le_of_ble_eq_true rfl, Nat.le_of_ble_eq_true rfl, Nat.le_of_ble_eq_true rfl, Nat.le_of_ble_eq_true rfl⟩, fun _ _ z => False.elim z, ?_⟩
  rintro v9 h9 ⟨rfl, rfl⟩
  conv => whnf
  refine ⟨ks, rfl, _, _, _, _, _, _, c_SB_length ks, ⟨Nat.le_of_ble_eq_true rfl, Nat.le_of_ble_eq_true rfl, Nat.le_of_ble_eq_true rfl, Nat.le_of_ble_eq_true rfl⟩, fun _ _ z => False.elim z, ?_⟩
  rintro v8 h8 ⟨rfl, rfl⟩
  conv => whnf
  refine ⟨ks, rfl, _, _, _, _, _, _, c_ASB_isLatin1 ks c0, ⟨Nat.le_of_ble_eq_true rfl, Nat.le_of_ble_eq_true rfl, Nat.le_of_ble_eq_true rfl, Nat.le_of_ble_eq_true rfl⟩, fun _ _ z => False.elim z, ?_⟩
  rintro v7 h7 ⟨rfl, rfl⟩
  conv => whnf
  refine ⟨fun c => absurd (show (Int32.ofInt 1).toInt = 0 from c) (by decide), fun _ => ?_⟩
  conv => whnf
  refine ⟨by decide, ?_⟩
  conv => whnf
  refine ⟨_, rfl, kq, ?_⟩
  have naq : a ≠ q := fun z => by have := ba.2.1; rw [z, kq] at this; cases this
  have ba2 : j_Ba N (j_up h7 q 1 (j_i (Int32.ofInt 0))) a := ⟨ba.1, ba.2.1, ba.2.2.1, fun j => by rw [(j_up_ne _ _ naq j).1]; exact ba.2.2.2 j⟩
  have x1 : j_Bx N h7 (j_up h7 q 1 (j_i (Int32.ofInt 0))) := j_Bx.up nq
  conv => whnf
  refine ⟨rfl, _, _, _, _, _, _, c_copyRange ba2 (x1.1 hN) (by decide) (by omega) (by show (j_it h7 s 3).toInt ≤ (j_ln h7 a : Int); omega), ⟨Nat.le_of_ble_eq_true rfl, Nat.le_of_ble_eq_true rfl, Nat.le_of_ble_eq_true rfl, Nat.le_of_ble_eq_true rfl⟩, fun _ _ z => False.elim z, ?_⟩
  rintro v6 h6 ⟨b, rfl, x6⟩
  conv => whnf
  refine ⟨_, rfl, x6.kd kq, ?_⟩
  conv => whnf
  exact ⟨rfl, ⟨Nat.le_of_ble_eq_true rfl, Nat.le_of_ble_eq_true rfl⟩, rfl, (x1.trans x6).trans (j_Bx.up nq)⟩
set_option maxRecDepth 20000 in
theorem c_Str_init19 {N : Nat → Prop} {h : j_H} {q s : Nat} {n m : Int} (kq : j_kd h q = some (.inl 0)) (nq : N q) (b : j_SB N h s n m) (hN : j_Nn N h) : j_Ct 19 6 142 1 100 [j_r (some q), j_r (some s)] h (fun v h' => v = none ∧ j_Bx N h h') j_no := by
  refine j_intro km_19 (Nat.le_of_ble_eq_true rfl) ?_
  intro J hJ hF
  refine hJ [] 400 _ _ _ _ _ _ ?_
  conv => whnf
  refine ⟨trivial, rfl, _, _, _, _, _, _, c_Str_init18 kq nq b hN, ⟨Nat.le_of_ble_eq_true rfl, Nat.le_of_ble_eq_true rfl, Nat.le_of_ble_eq_true rfl, Nat.le_of_ble_eq_true rfl⟩, fun _ _ z => False.elim z, ?_⟩
  rintro v9 h9 ⟨rfl, x9⟩
  conv => whnf
  exact ⟨rfl, ⟨Nat.le_of_ble_eq_true rfl, Nat.le_of_ble_eq_true rfl⟩, rfl, x9⟩
theorem j_SB.nw {N : Nat → Prop} {h : j_H} {s b k : Nat} {kd : Nat ⊕ Nat} {n m : Int} (sb : j_SB N h s n m) (hb : j_kd h b = none) : j_SB N (j_nw h b kd k) s n m := sb.bx ((j_On.nw (S := fun _ => False) hb))
set_option maxRecDepth 20000 in
theorem c_SB_toString {N : Nat → Prop} {h : j_H} {s : Nat} {n m : Int} (b : j_SB N h s n m) (hN : j_Nn N h) : j_Ct 31 7 163 2 104 [j_r (some s)] h (fun v h' => (∃ q, v = some (j_r (some q))) ∧ j_Bx N h h') j_no := by
  refine j_intro km_31 (Nat.le_of_ble_eq_true rfl) ?_
  intro J hJ hF
  refine hJ [] 400 _ _ _ _ _ _ ?_
  conv => whnf
  refine ⟨⟨Nat.le_of_ble_eq_true rfl, Nat.le_of_ble_eq_true rfl⟩, fun q hq => ?_⟩
  have x1 : j_Bx N h (j_nw h q (.inl 0) 0) := j_Bx.nw hq (fun c z => by cases z; decide)
  conv => whnf
  refine ⟨trivial, rfl, _, _, _, _, _, _, c_Str_init19 (if_pos rfl) (hN q hq) (b.nw hq) (x1.1 hN), ⟨Nat.le_of_ble_eq_true rfl, Nat.le_of_ble_eq_true rfl, Nat.le_of_ble_eq_true rfl, Nat.le_of_ble_eq_true rfl⟩, fun _ _ z => False.elim z, ?_⟩
  rintro v9 h9 ⟨rfl, x9⟩
  conv => whnf
  exact ⟨trivial, ⟨Nat.le_of_ble_eq_true rfl, Nat.le_of_ble_eq_true rfl⟩, ⟨q, rfl⟩, x1.trans x9⟩
