/-! things made and changed: how lists grow -/
def j_On (S : Nat → Prop) (h h' : j_H) : Prop := j_st h' = j_st h ∧ ∀ q, j_kd h q ≠ none → j_kd h' q = j_kd h q ∧ j_ln h' q = j_ln h q ∧ (¬ S q → ∀ k, j_it h' q k = j_it h q k ∧ j_lg h' q k = j_lg h q k ∧ j_rf h' q k = j_rf h q k)
theorem j_On.rf {S : Nat → Prop} {h : j_H} : j_On S h h := ⟨rfl, fun _ _ => ⟨rfl, rfl, fun _ _ => ⟨rfl, rfl, rfl⟩⟩⟩
theorem j_On.trans {S : Nat → Prop} {h h1 h2 : j_H} (a : j_On S h h1) (b : j_On S h1 h2) : j_On S h h2 := ⟨b.1.trans a.1, fun q hq => by
  obtain ⟨a1, a2, a3⟩ := a.2 q hq
  obtain ⟨b1, b2, b3⟩ := b.2 q (by rw [a1]; exact hq)
  exact ⟨b1.trans a1, b2.trans a2, fun hs k => ⟨(b3 hs k).1.trans (a3 hs k).1, (b3 hs k).2.1.trans (a3 hs k).2.1, (b3 hs k).2.2.trans (a3 hs k).2.2⟩⟩⟩
theorem j_On.mono {S S' : Nat → Prop} {h h' : j_H} (a : j_On S h h') (hs : ∀ q, j_kd h q ≠ none → S q → S' q) : j_On S' h h' := ⟨a.1, fun q hq => ⟨(a.2 q hq).1, (a.2 q hq).2.1, fun n => (a.2 q hq).2.2 (fun z => n (hs q hq z))⟩⟩
theorem j_On.up {S : Nat → Prop} {h : j_H} {q k : Nat} {v : j_V} (hq : S q) : j_On S h (j_up h q k v) :=
  ⟨(j_up_kd h q k v).2.2, fun b _ => ⟨congrFun (j_up_kd h q k v).1 b, congrFun (j_up_kd h q k v).2.1 b, fun n j => j_up_ne h v (fun e => n (by rw [e]; exact hq)) j⟩⟩
theorem j_On.nw {S : Nat → Prop} {h : j_H} {a n : Nat} {kd : Nat ⊕ Nat} (ha : j_kd h a = none) : j_On S h (j_nw h a kd n) :=
  ⟨rfl, fun q hq => by
    have hn : q ≠ a := fun e => hq (by rw [e]; exact ha)
    exact ⟨if_neg hn, if_neg hn, fun _ k => ⟨if_neg hn, if_neg hn, if_neg hn⟩⟩⟩
theorem j_On.cp {S : Nat → Prop} {h : j_H} {a : Nat} {r : Nat → Option Nat} (ha : S a) : j_On S h (j_cp h a r) :=
  ⟨rfl, fun q hq => ⟨rfl, rfl, fun n k => ⟨rfl, rfl, if_neg (fun e => n (by rw [e]; exact ha))⟩⟩⟩
theorem j_z1 (n : Nat) : 0 + n ≤ n := Nat.le_of_eq (Nat.zero_add n)
/-- b is a longer or shorter copy of a -/
def j_Cp (h h' : j_H) (a b n : Nat) : Prop := j_kd h b = none ∧ j_On (fun _ => False) h h' ∧ j_kd h' b = some (.inr 2) ∧ j_ln h' b = n ∧ (∀ k, k < j_ln h a → k < n → j_rf h' b k = j_rf h a k) ∧ ∀ q, q ≠ b → j_kd h' q = j_kd h q
set_option maxRecDepth 20000 in
theorem c_Arrays_copyOf_68 {h : j_H} {a t : Nat} {n : Int32} (ka : j_kd h a = some (.inr t)) (ht : t = 2) (h0 : 0 ≤ n.toInt) (h1 : n.toInt < 1000) (hl : j_ln h a < 1000) (he : ∀ j y, j_rf h a j = some y → j < j_ln h a → j_ok h y) : j_Ct 68 1 26 1 n.toNatClampNeg [j_r (some a), j_i n, j_r (j_st h 9)] h (fun v h' => ∃ b, v = some (j_r (some b)) ∧ j_Cp h h' a b n.toNatClampNeg) j_no := by
  have hc := j_clamp h0
  refine j_intro km_68 (Nat.le_of_ble_eq_true rfl) ?_
  intro J hJ hF
  refine hJ [] 400 _ _ _ _ _ _ ?_
  conv => whnf
  refine ⟨fun _ => ?_, fun z => absurd rfl z⟩
  conv => whnf
  refine ⟨⟨fun z => absurd (j_l0.mp z) (by omega), by omega⟩, ⟨Nat.le_of_ble_eq_true rfl, j_z1 _⟩, fun b hb => ?_⟩
  have hab : a ≠ b := fun e => by rw [e, hb] at ka; cases ka
  have k1 : j_kd (j_nw h b (.inr 2) n.toNatClampNeg) a = some (.inr t) := (if_neg hab).trans ka
  have l1 : j_ln (j_nw h b (.inr 2) n.toNatClampNeg) a = j_ln h a := if_neg hab
  have l2 : j_ln (j_nw h b (.inr 2) n.toNatClampNeg) b = n.toNatClampNeg := if_pos rfl
  conv => whnf
  refine ⟨_, _, rfl, k1, ?_⟩
  conv => whnf
  refine ⟨⟨Nat.le_of_ble_eq_true rfl, Nat.le_of_ble_eq_true rfl, Nat.le_of_ble_eq_true rfl, j_z1 _⟩, ?_⟩
  rw [l1]
  have hi : (nI (j_ln h a)).toInt = (j_ln h a : Int) := nI_toInt (by omega)
  have hm : ∃ m : Int32, (if n < nI (j_ln h a) then n else nI (j_ln h a)) = m ∧ 0 ≤ m.toInt ∧ m.toInt ≤ n.toInt ∧ m.toInt ≤ (j_ln h a : Int) ∧ (m.toInt = n.toInt ∨ m.toInt = (j_ln h a : Int)) := by
    by_cases q : n < nI (j_ln h a)
    · have q1 := j_ll.mp q
      exact ⟨n, if_pos q, by omega, by omega, by omega, Or.inl rfl⟩
    · have q1 : ¬ n.toInt < (nI (j_ln h a)).toInt := fun z => q (j_ll.mpr z)
      exact ⟨_, if_neg q, by omega, by omega, by omega, Or.inr hi⟩
  obtain ⟨m, em, m0, m1, m2, m3⟩ := hm
  rw [em]
  conv => whnf
  have z0 : (Int32.ofInt 0).toInt = 0 := by decide
  refine ⟨_, _, _, rfl, rfl, k1, ht, if_pos rfl, ⟨by omega, by omega, m0, by rw [l1]; omega, by rw [l2]; omega⟩, ?_, ⟨Nat.le_of_ble_eq_true rfl, Nat.le_of_ble_eq_true rfl⟩, ?_⟩
  · intro k y e hk
    have e : (if a = b then none else j_rf h a k) = some y := e
    rw [if_neg hab] at e
    have kc := he k y e (by omega)
    exact kc.mv (if_neg (fun z => kc.nn (by rw [z]; exact hb)))
  conv => whnf
  refine ⟨trivial, ⟨Nat.le_of_ble_eq_true rfl, j_z1 _⟩, b, rfl, hb, ?_, if_pos rfl, if_pos rfl, ?_, fun q hq => if_neg hq⟩
  · exact ((j_On.nw (S := fun q => q = b) hb).trans (j_On.cp rfl)).mono (fun q hq e => hq (by rw [e]; exact hb))
  · intro k k1 k2
    show (if b = b then va_cpy _ _ _ _ _ k else _) = _
    rw [if_pos rfl]
    unfold va_cpy
    have mc := j_clamp m0
    have c0 : (Int32.ofInt 0).toNatClampNeg = 0 := by decide
    rw [c0, if_pos ⟨Nat.zero_le _, by omega⟩]
    show (if a = b then none else j_rf h a (0 + (k - 0))) = _
    rw [if_neg hab, Nat.zero_add, Nat.sub_zero]
set_option maxRecDepth 20000 in
theorem c_Arrays_copyOf_67 {h : j_H} {a t : Nat} {n : Int32} (ka : j_kd h a = some (.inr t)) (ht : t = 2) (h0 : 0 ≤ n.toInt) (h1 : n.toInt < 1000) (hl : j_ln h a < 1000) (he : ∀ j y, j_rf h a j = some y → j < j_ln h a → j_ok h y) : j_Ct 67 2 49 1 n.toNatClampNeg [j_r (some a), j_i n] h (fun v h' => ∃ b, v = some (j_r (some b)) ∧ j_Cp h h' a b n.toNatClampNeg) j_no := by
  refine j_intro km_67 (Nat.le_of_ble_eq_true rfl) ?_
  intro J hJ hF
  refine hJ [] 400 _ _ _ _ _ _ ?_
  conv => whnf
  refine ⟨_, _, rfl, ka, ht, ⟨Nat.le_of_ble_eq_true rfl, Nat.le_of_ble_eq_true rfl⟩, ?_⟩
  conv => whnf
  refine ⟨rfl, _, _, _, _, _, _, c_Arrays_copyOf_68 ka ht h0 h1 hl he, ⟨Nat.le_of_ble_eq_true rfl, Nat.le_of_ble_eq_true rfl, Nat.le_of_ble_eq_true rfl, j_z1 _⟩, fun _ _ z => False.elim z, ?_⟩
  rintro v9 h9 ⟨b, rfl, cb⟩
  conv => whnf
  exact ⟨trivial, ⟨Nat.le_of_ble_eq_true rfl, j_z1 _⟩, b, rfl, cb⟩
theorem j_addI {x y : Int32} (h0 : -2147483648 ≤ x.toInt + y.toInt) (h1 : x.toInt + y.toInt ≤ 2147483647) : (x + y).toInt = x.toInt + y.toInt := by
  rw [Int32.toInt_add, Int.bmod_def]
  omega
theorem j_subI {x y : Int32} (h0 : -2147483648 ≤ x.toInt - y.toInt) (h1 : x.toInt - y.toInt ≤ 2147483647) : (x - y).toInt = x.toInt - y.toInt := by
  rw [Int32.toInt_sub, Int.bmod_def]
  omega
theorem j_shr1 : ∀ k, k < 100 → 0 ≤ (nI k >>> (Int32.ofInt 1 &&& 31)).toInt ∧ (nI k >>> (Int32.ofInt 1 &&& 31)).toInt * 2 ≤ (k : Int) := by decide +kernel
set_option maxRecDepth 20000 in
theorem c_AS_newLength {h : j_H} {o m p : Int32} (h0 : 0 ≤ o.toInt) (h1 : o.toInt < 1000) (m1 : m.toInt = 1) (p0 : 0 ≤ p.toInt) (p1 : p.toInt < 1000) : j_Ct 73 1 22 0 0 [j_i o, j_i m, j_i p] h (fun v h' => h' = h ∧ ∃ r, v = some (j_i r) ∧ o.toInt + 1 ≤ r.toInt ∧ r.toInt ≤ o.toInt + 1 + p.toInt) j_no := by
  refine j_intro km_73 (Nat.le_of_ble_eq_true rfl) ?_
  intro J hJ hF
  refine hJ [] 400 _ _ _ _ _ _ ?_
  conv => whnf
  refine ⟨⟨Nat.le_of_ble_eq_true rfl, Nat.le_of_ble_eq_true rfl, Nat.le_of_ble_eq_true rfl, Nat.le_of_ble_eq_true rfl⟩, ?_⟩
  have hm : ∃ q : Int32, (if m < p then p else m) = q ∧ 1 ≤ q.toInt ∧ q.toInt ≤ 1 + p.toInt := by
    by_cases z : m < p
    · have z1 := j_ll.mp z
      exact ⟨p, if_pos z, by omega, by omega⟩
    · exact ⟨m, if_neg z, by omega, by omega⟩
  obtain ⟨q, eq, q0, q1⟩ := hm
  rw [eq]
  have er : (o + q).toInt = o.toInt + q.toInt := j_addI (by omega) (by omega)
  have z0 : (Int32.ofInt 0).toInt = 0 := by decide
  have z9 : (Int32.ofNat 2147483639).toInt = 2147483639 := by decide
  conv => whnf
  refine ⟨fun c => ?_, fun c => ?_⟩
  · exact absurd (show (o + q).toInt ≤ (Int32.ofInt 0).toInt from c) (by omega)
  conv => whnf
  refine ⟨fun c => ?_, fun c => ?_⟩
  · exact absurd (show (Int32.ofNat 2147483639).toInt < (o + q).toInt from c) (by omega)
  conv => whnf
  exact ⟨trivial, ⟨Nat.le_of_ble_eq_true rfl, Nat.le_of_ble_eq_true rfl⟩, rfl, _, rfl, by omega, by omega⟩
/-- the list L has a new, longer array b -/
def j_Gr (h h' : j_H) (L arr b : Nat) : Prop := j_kd h b = none ∧ j_On (fun q => q = L) h h' ∧ j_kd h' b = some (.inr 2) ∧ j_ln h arr < j_ln h' b ∧ j_ln h' b < 1000 ∧ (∀ k, k < j_ln h arr → j_rf h' b k = j_rf h arr k) ∧ (∀ q, q ≠ b → j_kd h' q = j_kd h q) ∧ j_rf h' L 1 = some b ∧ ∀ k, j_it h' L k = j_it h L k
set_option maxRecDepth 20000 in
theorem c_AL_grow_58 {h : j_H} {L arr t : Nat} {n : Int32} (k : j_kd h L = some (.inl 3)) (e1 : j_rf h L 1 = some arr) (e2 : j_kd h arr = some (.inr t)) (e3 : t % 10 = 2) (hw : t = 2 ∨ (j_ln h arr = 0 ∧ j_st h 0 = some arr)) (hn : n.toInt = (j_ln h arr : Int) + 1) (hl : j_ln h arr ≤ 26) (he : ∀ j y, j_rf h arr j = some y → j < j_ln h arr → j_ok h y) : j_Ct 58 3 70 1 40 [j_r (some L), j_i n] h (fun v h' => ∃ b, v = some (j_r (some b)) ∧ j_Gr h h' L arr b) j_no := by
  have hi : (nI (j_ln h arr)).toInt = (j_ln h arr : Int) := nI_toInt (by omega)
  refine j_intro km_58 (Nat.le_of_ble_eq_true rfl) ?_
  intro J hJ hF
  have Lm : t = 2 → J 20 [some (j_r (some L)), some (j_i n), some (j_i (nI (j_ln h arr))), none] [] h 0 0 := by
    intro ht2
    refine hJ [] 400 _ _ _ _ _ _ ?_
    conv => whnf
    have sh := j_shr1 (j_ln h arr) (by omega)
    have em : (n - nI (j_ln h arr)).toInt = 1 := by rw [j_subI (by omega) (by omega)]; omega
    refine ⟨rfl, _, _, _, _, _, _, c_AS_newLength (by omega) (by omega) em sh.1 (by omega), ⟨Nat.le_of_ble_eq_true rfl, Nat.le_of_ble_eq_true rfl, Nat.le_of_ble_eq_true rfl, Nat.le_of_ble_eq_true rfl⟩, fun _ _ z => False.elim z, ?_⟩
    rintro v9 h9 ⟨rfl, r, rfl, r1, r2⟩
    have rc : (r.toNatClampNeg : Int) = r.toInt := j_clamp (by omega)
    conv => whnf
    refine ⟨_, rfl, k, fun o eo => ?_⟩
    obtain rfl : o = some arr := eo.symm.trans e1
    conv => whnf
    refine ⟨rfl, _, _, _, _, _, _, c_Arrays_copyOf_67 e2 ht2 (by omega) (by omega) (by omega) he, ⟨Nat.le_of_ble_eq_true rfl, Nat.le_of_ble_eq_true rfl, Nat.le_of_ble_eq_true rfl, by show 0 + _ ≤ 40; omega⟩, fun _ _ z => False.elim z, ?_⟩
    rintro v9 h9 ⟨b, rfl, c1, c2, c3, c4, c5, c6⟩
    have hLb : L ≠ b := fun z => by rw [z, c1] at k; cases k
    conv => whnf
    refine ⟨_, rfl, (c6 L hLb).trans k, ?_⟩
    conv => whnf
    refine ⟨trivial, ⟨Nat.le_of_ble_eq_true rfl, by show 0 + _ ≤ 40; omega⟩, b, rfl, c1, ?_, c3, ?_, ?_, ?_, c6, ?_, ?_⟩
    · exact (c2.mono (fun _ _ z => z.elim)).trans (j_On.up rfl)
    · show _ < j_ln h9 b; rw [c4]; omega
    · show j_ln h9 b < 1000; rw [c4]; omega
    · intro j hj
      show j_u (j_rf h9) L 1 (some b) b j = _
      rw [j_u_ne (fun z => hLb z.symm)]
      exact c5 j hj (by omega)
    · show j_u _ L 1 (some b) L 1 = _
      exact j_u_at
    · intro j
      exact ((c2.2 L (by rw [k]; exact fun z => nomatch z)).2.2 (fun z => z) j).1
  refine hJ [20] 400 _ _ _ _ _ _ ?_
  conv => whnf
  refine ⟨_, rfl, k, fun o eo => ?_⟩
  obtain rfl : o = some arr := eo.symm.trans e1
  conv => whnf
  refine ⟨_, _, rfl, e2, ?_⟩
  conv => whnf
  refine ⟨fun c => ?_, fun c => ?_⟩
  · have c : 0 < (nI (j_ln h arr)).toInt := c
    exact j_use hF (Lm (hw.elim id fun z => by have := z.1; omega)) (And.intro rfl (And.intro rfl (And.intro rfl trivial)))
  have c : ¬ 0 < (nI (j_ln h arr)).toInt := c
  conv => whnf
  refine ⟨_, rfl, k, fun o eo => ?_⟩
  obtain rfl : o = some arr := eo.symm.trans e1
  conv => whnf
  refine ⟨fun c => ?_, fun c => ?_⟩
  rotate_left
  · exact j_use hF (Lm (hw.elim id fun z => by first | exact absurd z.2.symm c | exact absurd z.2 c | exact (c z.2.symm).elim | exact (c (by rw [z.2])).elim)) (And.intro rfl (And.intro rfl (And.intro rfl trivial)))
  conv => whnf
  refine ⟨⟨Nat.le_of_ble_eq_true rfl, Nat.le_of_ble_eq_true rfl, Nat.le_of_ble_eq_true rfl, Nat.le_of_ble_eq_true rfl⟩, ?_⟩
  have z10 : ((Int8.ofInt 10).toInt32).toInt = 10 := by decide
  have hm : ∃ q : Int32, (if (Int8.ofInt 10).toInt32 < n then n else (Int8.ofInt 10).toInt32) = q ∧ q.toInt = 10 := by
    refine ⟨_, if_neg (fun z => ?_), z10⟩
    have := j_ll.mp z
    omega
  obtain ⟨q, eq, q1⟩ := hm
  rw [eq]
  have qc : (q.toNatClampNeg : Int) = q.toInt := j_clamp (by omega)
  conv => whnf
  refine ⟨⟨fun z => absurd (j_l0.mp z) (by omega), by omega⟩, ⟨Nat.le_of_ble_eq_true rfl, by show 0 + _ ≤ 40; omega⟩, fun b hb => ?_⟩
  have hLb : L ≠ b := fun z => by rw [z, hb] at k; cases k
  conv => whnf
  refine ⟨_, rfl, (if_neg hLb).trans k, ?_⟩
  conv => whnf
  refine ⟨trivial, ⟨Nat.le_of_ble_eq_true rfl, by show 0 + _ ≤ 40; omega⟩, b, rfl, hb, (j_On.nw hb).trans (j_On.up rfl), if_pos rfl, ?_, ?_, ?_, fun q hq => if_neg hq, (by show j_u _ L 1 (some b) L 1 = _; exact j_u_at), fun j => if_neg hLb⟩
  · show _ < (if b = b then _ else _); rw [if_pos rfl]; omega
  · show (if b = b then _ else _) < 1000; rw [if_pos rfl]; omega
  · intro j hj; omega
set_option maxRecDepth 20000 in
theorem c_AL_grow_57 {h : j_H} {L arr t : Nat} (k : j_kd h L = some (.inl 3)) (e1 : j_rf h L 1 = some arr) (e2 : j_kd h arr = some (.inr t)) (e3 : t % 10 = 2) (hw : t = 2 ∨ (j_ln h arr = 0 ∧ j_st h 0 = some arr)) (hn : (j_it h L 2).toInt = (j_ln h arr : Int)) (hl : j_ln h arr ≤ 26) (he : ∀ j y, j_rf h arr j = some y → j < j_ln h arr → j_ok h y) : j_Ct 57 4 93 1 40 [j_r (some L)] h (fun v h' => ∃ b, v = some (j_r (some b)) ∧ j_Gr h h' L arr b) j_no := by
  refine j_intro km_57 (Nat.le_of_ble_eq_true rfl) ?_
  intro J hJ hF
  refine hJ [] 400 _ _ _ _ _ _ ?_
  conv => whnf
  refine ⟨_, rfl, k, fun y ey => ?_⟩
  obtain rfl : y = j_it h L 2 := ey.symm
  conv => whnf
  refine ⟨k, rfl, _, _, _, _, _, _, c_AL_grow_58 k e1 e2 e3 hw (by rw [j_inc1 (by omega)]; omega) hl he, ⟨Nat.le_of_ble_eq_true rfl, Nat.le_of_ble_eq_true rfl, Nat.le_of_ble_eq_true rfl, Nat.le_of_ble_eq_true rfl⟩, fun _ _ z => False.elim z, ?_⟩
  rintro v9 h9 ⟨b, rfl, g⟩
  conv => whnf
  exact ⟨trivial, ⟨Nat.le_of_ble_eq_true rfl, Nat.le_of_ble_eq_true rfl⟩, b, rfl, g⟩
/-- e has been added to the list L, that had n things -/
def j_Ad (h h' : j_H) (L arr n e : Nat) : Prop := ∃ b, j_rf h' L 1 = some b ∧ (b = arr ∨ j_kd h b = none) ∧ j_On (fun q => q = L ∨ q = arr) h h' ∧ (∀ q, q ≠ b → j_kd h' q = j_kd h q) ∧ j_it h' L 2 = j_it h L 2 + Int32.ofInt 1 ∧ j_kd h' b = some (.inr 2) ∧ n < j_ln h' b ∧ j_ln h' b < 1000 ∧ (∀ k, k < n → j_rf h' b k = j_rf h arr k) ∧ j_rf h' b n = some e
set_option maxRecDepth 20000 in
theorem c_AL_add_54 {h : j_H} {L arr t e : Nat} (k : j_kd h L = some (.inl 3)) (e1 : j_rf h L 1 = some arr) (e2 : j_kd h arr = some (.inr t)) (e3 : t % 10 = 2) (hw : t = 2 ∨ (j_ln h arr = 0 ∧ j_st h 0 = some arr)) (h0 : 0 ≤ (j_it h L 2).toInt) (hn : (j_it h L 2).toInt ≤ (j_ln h arr : Int)) (hl : (j_it h L 2).toInt ≤ 26) (hl' : j_ln h arr < 1000) (he : ∀ j : Nat, (j : Int) < (j_it h L 2).toInt → ∃ y, j_rf h arr j = some y ∧ j_ok h y) (ke : j_ok h e) : j_Ct 54 5 113 1 40 [j_r (some L), j_r (some e), j_r (some arr), j_i (j_it h L 2)] h (fun v h' => v = none ∧ j_Ad h h' L arr (j_it h L 2).toNatClampNeg e) j_no := by
  have hi : (nI (j_ln h arr)).toInt = (j_ln h arr : Int) := nI_toInt (by omega)
  have hc := j_clamp h0
  refine j_intro km_54 (Nat.le_of_ble_eq_true rfl) ?_
  intro J hJ hF
  have Lm : ∀ (h1 : j_H) (b cn sn : Nat), cn ≤ 1 → sn ≤ 40 → j_kd h1 b = some (.inr 2) → (j_it h L 2).toInt < (j_ln h1 b : Int) → j_ln h1 b < 1000 → j_kd h1 L = some (.inl 3) → j_ok h1 e → j_rf h1 L 1 = some b → (b = arr ∨ j_kd h b = none) → j_On (fun q => q = L ∨ q = arr) h h1 → (∀ q, q ≠ b → j_kd h1 q = j_kd h q) → (∀ k, k < (j_it h L 2).toNatClampNeg → j_rf h1 b k = j_rf h arr k) → J 11 [some (j_r (some L)), some (j_r (some e)), some (j_r (some b)), some (j_i (j_it h L 2))] [] h1 cn sn := by
    intro h1 b cn sn x1 x2 x3 x4 x5 x6 x7 x8 x9 y1 y2 y3
    have hbL : L ≠ b := fun z => by rw [z, x3] at x6; cases x6
    refine hJ [] 400 _ _ _ _ _ _ ?_
    conv => whnf
    refine ⟨_, _, rfl, rfl, x7, x3, j_vp h0 x4, ?_⟩
    conv => whnf
    refine ⟨_, rfl, x6, ?_⟩
    conv => whnf
    refine ⟨rfl, ⟨x1, x2⟩, rfl, b, ?_, x9, ?_, y2, ?_, x3, ?_, x5, ?_, ?_⟩
    · show j_u (j_rf h1) b _ (some e) L 1 = _
      rw [j_u_ne hbL]
      exact x8
    · have w1 : j_On (fun q => (q = L ∨ q = arr) ∨ q = b) h h1 := y1.mono fun _ _ z => Or.inl z
      have w2 : j_On (fun q => (q = L ∨ q = arr) ∨ q = b) h1 (j_up h1 b (j_it h L 2).toNatClampNeg (j_r (some e))) := j_On.up (Or.inr rfl)
      refine ((w1.trans w2).trans (j_On.up (Or.inl (Or.inl rfl)))).mono ?_
      intro q hq hz
      rcases hz with hz | rfl
      · exact hz
      · rcases x9 with x9 | x9
        · exact Or.inr x9
        · exact absurd x9 hq
    · show j_u _ L 2 _ L 2 = _
      exact j_u_at
    · show _ < j_ln h1 b
      omega
    · intro j hj
      show j_u (j_rf h1) b _ (some e) b j = _
      rw [j_u_nk (by omega)]
      exact y3 j hj
    · show j_u (j_rf h1) b _ (some e) b _ = _
      exact j_u_at
  refine hJ [11] 400 _ _ _ _ _ _ ?_
  conv => whnf
  refine ⟨_, _, rfl, e2, ?_⟩
  conv => whnf
  refine ⟨fun z => ?_, fun z => ?_⟩
  · have z : ¬ (j_it h L 2).toInt = (nI (j_ln h arr)).toInt := z
    refine Lm h arr 0 0 (Nat.zero_le _) (Nat.zero_le _) ?_ (by omega) hl' k ke e1 (Or.inl rfl) j_On.rf (fun _ _ => rfl) (fun _ _ => rfl)
    rcases hw with rfl | ⟨hw, -⟩
    · exact e2
    · omega
  · have z : ¬ ¬ (j_it h L 2).toInt = (nI (j_ln h arr)).toInt := z
    have z : (j_it h L 2).toInt = (nI (j_ln h arr)).toInt := Decidable.not_not.mp z
    conv => whnf
    refine ⟨k, rfl, _, _, _, _, _, _, c_AL_grow_57 k e1 e2 e3 hw (by omega) (by omega) (fun j y e9 hj => by
      obtain ⟨y', f1, f2⟩ := he j (by omega)
      rw [f1] at e9
      cases e9
      exact f2), ⟨Nat.le_of_ble_eq_true rfl, Nat.le_of_ble_eq_true rfl, Nat.le_of_ble_eq_true rfl, Nat.le_of_ble_eq_true rfl⟩, fun _ _ z => False.elim z, ?_⟩
    rintro v9 h9 ⟨b, rfl, g1, g2, g3, g4, g5, g6, g7, g8, g9⟩
    have q1 : L ≠ b := fun z => by rw [z, g1] at k; cases k
    have q2 : e ≠ b := fun z => ke.nn (by rw [z]; exact g1)
    exact Lm h9 b 1 40 (Nat.le_refl _) (Nat.le_refl _) g3 (by omega) g5 ((g7 L q1).trans k) (ke.mv (g7 e q2)) g8 (Or.inr g1) (g2.mono fun _ _ z => Or.inl z) g7 (fun j hj => g6 j (by omega))
theorem j_Ad.up {h h' : j_H} {L arr n e : Nat} {v : j_V} (k : j_kd h L = some (.inl 3)) (e2 : ∃ t, j_kd h arr = some (.inr t)) (g : j_Ad (j_up h L 0 v) h' L arr n e) : j_Ad h h' L arr n e := by
  obtain ⟨t, e2⟩ := e2
  obtain ⟨b, g1, g2, g3, g4, g5, g6, g7, g8, g9, g10⟩ := g
  have ha : arr ≠ L := fun z => by rw [z, k] at e2; cases e2
  have kk := (j_up_kd h L 0 v).1
  refine ⟨b, g1, ?_, (j_On.up (Or.inl rfl)).trans g3, fun q hq => (g4 q hq).trans (congrFun kk q), ?_, g6, g7, g8, fun j hj => (g9 j hj).trans (j_up_ne h v ha j).2.2, g10⟩
  · rcases g2 with g2 | g2
    · exact Or.inl g2
    · exact Or.inr ((congrFun kk b).symm.trans g2)
  · rw [g5]
    have : j_it (j_up h L 0 v) L 2 = j_it h L 2 := by
      rcases v with x | x | o
      · show j_u (j_it h) L 0 x L 2 = _
        exact j_u_nk (by decide)
      · rfl
      · rfl
    rw [this]
set_option maxRecDepth 20000 in
theorem c_AL_add_53 {h : j_H} {L arr t e : Nat} (k : j_kd h L = some (.inl 3)) (e1 : j_rf h L 1 = some arr) (e2 : j_kd h arr = some (.inr t)) (e3 : t % 10 = 2) (hw : t = 2 ∨ (j_ln h arr = 0 ∧ j_st h 0 = some arr)) (h0 : 0 ≤ (j_it h L 2).toInt) (hn : (j_it h L 2).toInt ≤ (j_ln h arr : Int)) (hl : (j_it h L 2).toInt ≤ 26) (hl' : j_ln h arr < 1000) (he : ∀ j : Nat, (j : Int) < (j_it h L 2).toInt → ∃ y, j_rf h arr j = some y ∧ j_ok h y) (ke : j_ok h e) : j_Ct 53 6 136 1 40 [j_r (some L), j_r (some e)] h (fun v h' => (∃ r, v = some (j_i r)) ∧ j_Ad h h' L arr (j_it h L 2).toNatClampNeg e) j_no := by
  refine j_intro km_53 (Nat.le_of_ble_eq_true rfl) ?_
  intro J hJ hF
  refine hJ [] 400 _ _ _ _ _ _ ?_
  conv => whnf
  refine ⟨_, rfl, k, fun m em => ?_⟩
  conv => whnf
  refine ⟨_, rfl, k, ?_⟩
  have it2 : j_it (j_up h L 0 (j_i (m + Int32.ofInt 1))) L 2 = j_it h L 2 := by
    show j_u (j_it h) L 0 (m + Int32.ofInt 1) L 2 = _
    exact j_u_nk (by decide)
  conv => whnf
  refine ⟨_, rfl, k, fun o eo => ?_⟩
  obtain rfl : o = some arr := eo.symm.trans e1
  conv => whnf
  refine ⟨_, rfl, k, fun y ey => ?_⟩
  obtain rfl : y = j_it (j_up h L 0 (j_i (m + Int32.ofInt 1))) L 2 := ey.symm
  conv => whnf
  refine ⟨k, rfl, _, _, _, _, _, _, c_AL_add_54 (h := j_up h L 0 (j_i (m + Int32.ofInt 1))) k e1 e2 e3 hw (by rw [it2]; exact h0) (by rw [it2]; exact hn) (by rw [it2]; exact hl) hl' (by rw [it2]; exact he) ke, ⟨Nat.le_of_ble_eq_true rfl, Nat.le_of_ble_eq_true rfl, Nat.le_of_ble_eq_true rfl, Nat.le_of_ble_eq_true rfl⟩, fun _ _ z => False.elim z, ?_⟩
  rintro v9 h9 ⟨rfl, g⟩
  rw [it2] at g
  conv => whnf
  exact ⟨Or.inr rfl, ⟨Nat.le_of_ble_eq_true rfl, Nat.le_of_ble_eq_true rfl⟩, ⟨_, rfl⟩, g.up k ⟨t, e2⟩⟩
set_option maxRecDepth 20000 in
theorem c_AC_init {h : j_H} {L : Nat} : j_Ct 50 1 20 0 0 [j_r (some L)] h (fun v h' => v = none ∧ h' = h) j_no := by
  refine j_intro km_50 (Nat.le_of_ble_eq_true rfl) ?_
  intro J hJ hF
  refine hJ [] 400 _ _ _ _ _ _ ?_
  conv => whnf
  refine ⟨_, rfl, ⟨Nat.le_of_ble_eq_true rfl, Nat.le_of_ble_eq_true rfl⟩, ?_⟩
  conv => whnf
  exact ⟨rfl, ⟨Nat.le_of_ble_eq_true rfl, Nat.le_of_ble_eq_true rfl⟩, rfl, rfl⟩
set_option maxRecDepth 20000 in
theorem c_AbL_init {h : j_H} {L : Nat} (k : j_kd h L = some (.inl 3)) : j_Ct 51 2 40 0 0 [j_r (some L)] h (fun v h' => v = none ∧ h' = j_up h L 0 (j_i (Int32.ofInt 0))) j_no := by
  refine j_intro km_51 (Nat.le_of_ble_eq_true rfl) ?_
  intro J hJ hF
  refine hJ [] 400 _ _ _ _ _ _ ?_
  conv => whnf
  refine ⟨trivial, rfl, _, _, _, _, _, _, c_AC_init, ⟨Nat.le_of_ble_eq_true rfl, Nat.le_of_ble_eq_true rfl, Nat.le_of_ble_eq_true rfl, Nat.le_of_ble_eq_true rfl⟩, fun _ _ z => False.elim z, ?_⟩
  rintro v9 h9 ⟨rfl, rfl⟩
  conv => whnf
  refine ⟨_, rfl, k, ?_⟩
  conv => whnf
  exact ⟨rfl, ⟨Nat.le_of_ble_eq_true rfl, Nat.le_of_ble_eq_true rfl⟩, rfl, rfl⟩
set_option maxRecDepth 20000 in
theorem c_AL_init {h : j_H} {L : Nat} (k : j_kd h L = some (.inl 3)) : j_Ct 52 3 60 0 0 [j_r (some L)] h (fun v h' => v = none ∧ h' = j_up (j_up h L 0 (j_i (Int32.ofInt 0))) L 1 (j_r (j_st h 0))) j_no := by
  refine j_intro km_52 (Nat.le_of_ble_eq_true rfl) ?_
  intro J hJ hF
  refine hJ [] 400 _ _ _ _ _ _ ?_
  conv => whnf
  refine ⟨trivial, rfl, _, _, _, _, _, _, c_AbL_init k, ⟨Nat.le_of_ble_eq_true rfl, Nat.le_of_ble_eq_true rfl, Nat.le_of_ble_eq_true rfl, Nat.le_of_ble_eq_true rfl⟩, fun _ _ z => False.elim z, ?_⟩
  rintro v9 h9 ⟨rfl, rfl⟩
  conv => whnf
  refine ⟨_, rfl, k, ?_⟩
  conv => whnf
  exact ⟨rfl, ⟨Nat.le_of_ble_eq_true rfl, Nat.le_of_ble_eq_true rfl⟩, rfl, rfl⟩
