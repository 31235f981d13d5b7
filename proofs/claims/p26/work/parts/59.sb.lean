/-! words put together: StringBuilder, String -/
def j_Bf (h : j_H) (a : Nat) : Prop := ∀ k : Nat, (j_it h a k).toInt8.toInt32 = j_it h a k
theorem j_bb (x : Int32) : x.toInt8.toInt32.toInt8.toInt32 = x.toInt8.toInt32 := by simp
theorem j_Bf.ui {h : j_H} {a i : Nat} {x : Int32} {b : Nat} (f : j_Bf h b) : j_Bf (j_ui h a i x.toInt8.toInt32) b := fun k => by
  show (j_u (j_it h) a i x.toInt8.toInt32 b k).toInt8.toInt32 = j_u (j_it h) a i x.toInt8.toInt32 b k
  by_cases e : b = a
  · by_cases e2 : k = i
    · subst e; subst e2; rw [j_u_at]; exact j_bb x
    · rw [j_u_nk e2]; exact f k
  · rw [j_u_ne e]; exact f k
/-- all that is new -/
def j_Nn (N : Nat → Prop) (h : j_H) : Prop := ∀ q, j_kd h q = none → N q
def j_Ba (N : Nat → Prop) (h : j_H) (a : Nat) : Prop := N a ∧ j_kd h a = some (.inr 1) ∧ j_ln h a ≤ 100 ∧ j_Bf h a
/-- a builder of n bytes, with room for m -/
def j_SB (N : Nat → Prop) (h : j_H) (s : Nat) (n m : Int) : Prop := N s ∧ j_kd h s = some (.inl 1) ∧ j_it h s 1 = 0 ∧ (j_it h s 3).toInt = n ∧ 0 ≤ n ∧ ∃ a, j_rf h s 0 = some a ∧ j_Ba N h a ∧ n ≤ (j_ln h a : Int) ∧ m ≤ (j_ln h a : Int)
def j_Bx (N : Nat → Prop) (h h' : j_H) : Prop := (j_Nn N h → j_Nn N h') ∧ j_On N h h' ∧ ∀ q c, j_kd h' q = some (.inl c) → 2 ≤ c → j_kd h q = some (.inl c)
theorem j_Bx.rf {N : Nat → Prop} {h : j_H} : j_Bx N h h := ⟨id, j_On.rf, fun _ _ z _ => z⟩
theorem j_Bx.trans {N : Nat → Prop} {h h1 h2 : j_H} (a : j_Bx N h h1) (b : j_Bx N h1 h2) : j_Bx N h h2 := ⟨fun n => b.1 (a.1 n), a.2.1.trans b.2.1, fun q c z hc => a.2.2 q c (b.2.2 q c z hc) hc⟩
theorem j_Bx.up {N : Nat → Prop} {h : j_H} {s k : Nat} {v : j_V} (ns : N s) : j_Bx N h (j_up h s k v) :=
  ⟨fun n q hq => n q ((congrFun (j_up_kd h s k v).1 q).symm.trans hq), j_On.up ns, fun q c z _ => (congrFun (j_up_kd h s k v).1 q).symm.trans z⟩
theorem j_Bx.nw {N : Nat → Prop} {h : j_H} {b n : Nat} {kd : Nat ⊕ Nat} (hb : j_kd h b = none) (hk : ∀ c, kd = .inl c → c < 2) : j_Bx N h (j_nw h b kd n) := by
  refine ⟨fun hn q hq => hn q ?_, j_On.nw hb, fun q c z hc => ?_⟩
  · by_cases e : q = b
    · rw [e]; exact hb
    · exact (if_neg e).symm.trans hq
  · by_cases e : q = b
    · have z : (if q = b then some kd else j_kd h q) = some (.inl c) := z
      rw [if_pos e] at z
      have := hk c (Option.some.inj z)
      omega
    · exact (if_neg e).symm.trans z
theorem j_Bx.ui {N : Nat → Prop} {h : j_H} {a k : Nat} {x : Int32} (na : N a) : j_Bx N h (j_ui h a k x) := ⟨fun n q hq => n q hq, j_On.up (v := j_i x) na, fun _ _ z _ => z⟩
theorem j_On.cpi {S : Nat → Prop} {h : j_H} {a : Nat} {f : Nat → Int32} (na : S a) : j_On S h (j_cpi h a f) := ⟨rfl, fun q _ => ⟨rfl, rfl, fun nn k => ⟨if_neg (fun e => nn (by rw [e]; exact na)), rfl, rfl⟩⟩⟩
theorem j_Bx.cpi {N : Nat → Prop} {h : j_H} {a : Nat} {f : Nat → Int32} (na : N a) : j_Bx N h (j_cpi h a f) := ⟨fun n q hq => n q hq, ⟨rfl, fun q _ => ⟨rfl, rfl, fun nn k => ⟨if_neg (fun e => nn (by rw [e]; exact na)), rfl, rfl⟩⟩⟩, fun _ _ z _ => z⟩
/-- the tables of digits -/
def j_SA (h : j_H) : Prop := ∀ k, k = 1 ∨ k = 2 → ∃ a, j_st h k = some a ∧ j_kd h a = some (.inr 11) ∧ j_ln h a = 100
theorem j_SA.on {S : Nat → Prop} {h h' : j_H} (s : j_SA h) (o : j_On S h h') : j_SA h' := fun k hk => by
  obtain ⟨a, e1, e2, e3⟩ := s k hk
  have := o.2 a (fun z => by rw [e2] at z; cases z)
  exact ⟨a, by rw [o.1]; exact e1, this.1.trans e2, this.2.1.trans e3⟩
set_option maxRecDepth 20000 in
theorem c_ASB_isLatin1 {h : j_H} {s : Nat} (ks : j_kd h s = some (.inl 1)) (c0 : j_it h s 1 = 0) : j_Ct 9 0 0 0 0 [j_r (some s)] h (fun v h' => h' = h ∧ v = some (j_i (Int32.ofInt 1))) j_no := by
  refine j_intro km_9 (Nat.le_of_ble_eq_true rfl) ?_
  intro J hJ hF
  refine hJ [] 400 _ _ _ _ _ _ ?_
  conv => whnf
  refine ⟨_, rfl, ?_⟩
  conv => whnf
  refine ⟨fun c => absurd (show (1 : Int32).toInt = 0 from c) (by decide), fun _ => ?_⟩
  conv => whnf
  refine ⟨_, rfl, ks, fun y ey => ?_⟩
  obtain rfl : y = 0 := ey.symm.trans c0
  conv => whnf
  refine ⟨fun c => absurd (show (0 : Int32).toInt = 0 by decide) (show ¬ (0 : Int32).toInt = 0 from c), fun _ => ?_⟩
  conv => whnf
  exact ⟨Or.inr rfl, ⟨Nat.le_of_ble_eq_true rfl, Nat.le_of_ble_eq_true rfl⟩, rfl, rfl⟩
set_option maxRecDepth 20000 in
theorem c_canEncode {h : j_H} {c : Int32} (hc : c.toInt ≤ 255) : j_Ct 32 0 0 0 0 [j_i c] h (fun v h' => h' = h ∧ v = some (j_i (Int32.ofInt 1))) j_no := by
  refine j_intro km_32 (Nat.le_of_ble_eq_true rfl) ?_
  intro J hJ hF
  have z : ((Int16.ofInt 255).toInt32).toInt = 255 := by decide
  refine hJ [] 400 _ _ _ _ _ _ ?_
  conv => whnf
  refine ⟨fun q => absurd (show ((Int16.ofInt 255).toInt32).toInt < c.toInt from q) (by omega), fun _ => ?_⟩
  conv => whnf
  exact ⟨Or.inr rfl, ⟨Nat.le_of_ble_eq_true rfl, Nat.le_of_ble_eq_true rfl⟩, rfl, rfl⟩
set_option maxRecDepth 20000 in
theorem c_ASB_init {N : Nat → Prop} {h : j_H} {s : Nat} {n : Int32} (ks : j_kd h s = some (.inl 1)) (ns : N s) (hN : j_Nn N h) (hc : (j_it h s 3).toInt = 0) (hn : n.toInt = 16) : j_Ct 0 2 40 1 16 [j_r (some s), j_i n] h (fun v h' => v = none ∧ j_SB N h' s 0 0 ∧ j_Bx N h h') j_no := by
  have cl : n.toNatClampNeg = 16 := by have := j_clamp (i := n) (by omega); omega
  refine j_intro km_0 (Nat.le_of_ble_eq_true rfl) ?_
  intro J hJ hF
  refine hJ [] 400 _ _ _ _ _ _ ?_
  conv => whnf
  refine ⟨_, rfl, ⟨Nat.le_of_ble_eq_true rfl, Nat.le_of_ble_eq_true rfl⟩, ?_⟩
  conv => whnf
  refine ⟨_, rfl, ?_⟩
  conv => whnf
  refine ⟨fun c => absurd (show (1 : Int32).toInt = 0 from c) (by decide), fun _ => ?_⟩
  conv => whnf
  refine ⟨⟨fun z => absurd (j_l0.mp z) (by omega), by rw [cl]; decide⟩, ⟨Nat.le_of_ble_eq_true rfl, by show 0 + n.toNatClampNeg ≤ 16; omega⟩, fun b hb => ?_⟩
  have nb : s ≠ b := fun z => by rw [z, hb] at ks; cases ks
  have ks1 : j_kd (j_nw h b (.inr 1) n.toNatClampNeg) s = some (.inl 1) := (if_neg nb).trans ks
  conv => whnf
  refine ⟨_, rfl, ks1, ?_⟩
  conv => whnf
  refine ⟨by decide, ?_⟩
  conv => whnf
  refine ⟨_, rfl, ks1, ?_⟩
  conv => whnf
  have nb' : b ≠ s := fun z => nb z.symm
  refine ⟨rfl, ⟨Nat.le_of_ble_eq_true rfl, by show 0 + n.toNatClampNeg ≤ 16; omega⟩, rfl, ⟨ns, ks1, j_upi, ?_, Int.le_refl 0, b, (j_upn (by decide)).trans j_upr, ⟨hN b hb, if_pos rfl, ?_, fun k => ?_⟩, ?_, ?_⟩, ((j_Bx.nw hb (fun c z => by cases z)).trans (j_Bx.up ns)).trans (j_Bx.up ns)⟩
  · rw [j_upm (by decide), j_upm (by decide)]
    show (if s = b then 0 else j_it h s 3).toInt = 0
    rw [if_neg nb]
    exact hc
  · show (if b = b then n.toNatClampNeg else _) ≤ 100
    rw [if_pos rfl, cl]; decide
  · have e : j_it (j_up (j_up (j_nw h b (.inr 1) n.toNatClampNeg) s 0 (j_r (some b))) s 1 (j_i (Int32.ofInt 0))) b k = 0 := by
      rw [(j_up_ne _ _ nb' k).1, (j_up_ne _ _ nb' k).1]
      exact if_pos rfl
    rw [show j_it _ b k = 0 from e]
    decide
  · show (0 : Int) ≤ ((if b = b then n.toNatClampNeg else _ : Nat) : Int)
    omega
  · show (0 : Int) ≤ ((if b = b then n.toNatClampNeg else _ : Nat) : Int)
    omega
set_option maxRecDepth 20000 in
theorem c_SB_init {N : Nat → Prop} {h : j_H} {s : Nat} (ks : j_kd h s = some (.inl 1)) (ns : N s) (hN : j_Nn N h) (hc : (j_it h s 3).toInt = 0) : j_Ct 26 3 61 1 16 [j_r (some s)] h (fun v h' => v = none ∧ j_SB N h' s 0 0 ∧ j_Bx N h h') j_no := by
  refine j_intro km_26 (Nat.le_of_ble_eq_true rfl) ?_
  intro J hJ hF
  refine hJ [] 400 _ _ _ _ _ _ ?_
  conv => whnf
  refine ⟨trivial, rfl, _, _, _, _, _, _, c_ASB_init ks ns hN hc (by decide), ⟨Nat.le_of_ble_eq_true rfl, Nat.le_of_ble_eq_true rfl, Nat.le_of_ble_eq_true rfl, Nat.le_of_ble_eq_true rfl⟩, fun _ _ z => False.elim z, ?_⟩
  rintro v9 h9 ⟨rfl, s9, b9⟩
  conv => whnf
  exact ⟨rfl, ⟨Nat.le_of_ble_eq_true rfl, Nat.le_of_ble_eq_true rfl⟩, rfl, s9, b9⟩
set_option maxRecDepth 20000 in
theorem c_AS_newLen2 {h : j_H} {o m p : Int32} (h0 : 0 ≤ o.toInt) (h1 : o.toInt < 1000) (m0 : 0 < m.toInt) (m1 : m.toInt < 1000) (p0 : 0 < p.toInt) (p1 : p.toInt < 1000) : j_Ct 73 1 22 0 0 [j_i o, j_i m, j_i p] h (fun v h' => h' = h ∧ ∃ r, v = some (j_i r) ∧ o.toInt + m.toInt ≤ r.toInt ∧ (r.toInt = o.toInt + m.toInt ∨ r.toInt = o.toInt + p.toInt)) j_no := by
  refine j_intro km_73 (Nat.le_of_ble_eq_true rfl) ?_
  intro J hJ hF
  refine hJ [] 400 _ _ _ _ _ _ ?_
  conv => whnf
  refine ⟨⟨Nat.le_of_ble_eq_true rfl, Nat.le_of_ble_eq_true rfl, Nat.le_of_ble_eq_true rfl, Nat.le_of_ble_eq_true rfl⟩, ?_⟩
  have hm : ∃ q : Int32, (if m < p then p else m) = q ∧ m.toInt ≤ q.toInt ∧ (q.toInt = m.toInt ∨ q.toInt = p.toInt) := by
    by_cases z : m < p
    · have z1 := j_ll.mp z
      exact ⟨p, if_pos z, by omega, Or.inr rfl⟩
    · exact ⟨m, if_neg z, by omega, Or.inl rfl⟩
  obtain ⟨q, eq, q0, q1⟩ := hm
  rw [eq]
  have er : (o + q).toInt = o.toInt + q.toInt := j_addI (by omega) (by omega)
  have z0 : (Int32.ofInt 0).toInt = 0 := by decide
  have z9 : (Int32.ofNat 2147483639).toInt = 2147483639 := by decide
  conv => whnf
  refine ⟨fun c => ?_, fun c => ?_⟩
  · exact absurd (show (o + q).toInt ≤ (Int32.ofInt 0).toInt from c) (by omega)
  conv => whnf
  refine ⟨fun c => ?_, fun c => ?_⟩
  · exact absurd (show (Int32.ofNat 2147483639).toInt < (o + q).toInt from c) (by omega)
  conv => whnf
  exact ⟨trivial, ⟨Nat.le_of_ble_eq_true rfl, Nat.le_of_ble_eq_true rfl⟩, rfl, _, rfl, by omega, by omega⟩
set_option maxRecDepth 20000 in
theorem c_ASB_newCapacity {h : j_H} {s a : Nat} {n : Int32} (ks : j_kd h s = some (.inl 1)) (c0 : j_it h s 1 = 0) (e0 : j_rf h s 0 = some a) (ka : j_kd h a = some (.inr 1)) (hl : (j_ln h a : Int) < n.toInt) (hn : n.toInt ≤ 40) : j_Ct 11 2 45 0 0 [j_r (some s), j_i n] h (fun v h' => h' = h ∧ ∃ r, v = some (j_i r) ∧ n.toInt ≤ r.toInt ∧ r.toInt ≤ 100) j_no := by
  have li : (nI (j_ln h a)).toInt = (j_ln h a : Int) := nI_toInt (by omega)
  have c31 : (Int32.ofInt 2).toInt = 2 := by decide
  have zM : (Int32.ofNat 2147483647).toInt = 2147483647 := by decide
  refine j_intro km_11 (Nat.le_of_ble_eq_true rfl) ?_
  intro J hJ hF
  refine hJ [] 400 _ _ _ _ _ _ ?_
  conv => whnf
  refine ⟨_, rfl, ks, fun o eo => ?_⟩
  obtain rfl : o = some a := eo.symm.trans e0
  conv => whnf
  refine ⟨_, _, rfl, ka, ?_⟩
  conv => whnf
  refine ⟨_, rfl, ks, fun y ey => ?_⟩
  obtain rfl : y = 0 := ey.symm.trans c0
  conv => whnf
  rw [sb_shl0]
  refine ⟨_, rfl, ks, fun y ey => ?_⟩
  obtain rfl : y = 0 := ey.symm.trans c0
  conv => whnf
  rw [sb_shl0]
  have g1 : (n - nI (j_ln h a)).toInt = n.toInt - (j_ln h a : Int) := by rw [j_subI (by omega) (by omega)]; omega
  have g2 : (nI (j_ln h a) + Int32.ofInt 2).toInt = (j_ln h a : Int) + 2 := by rw [j_addI (by omega) (by omega)]; omega
  refine ⟨rfl, _, _, _, _, _, _, c_AS_newLen2 (by omega) (by omega) (by omega) (by omega) (by omega) (by omega), ⟨Nat.le_of_ble_eq_true rfl, Nat.le_of_ble_eq_true rfl, Nat.le_of_ble_eq_true rfl, Nat.le_of_ble_eq_true rfl⟩, fun _ _ z => False.elim z, ?_⟩
  rintro v9 h9 ⟨rfl, r, rfl, r1, r2⟩
  conv => whnf
  refine ⟨fun c => ?_, fun c => ?_⟩
  rotate_left
  · have c : ¬ ¬ r.toInt = (Int32.ofNat 2147483647).toInt := c
    exact absurd (fun z => by omega) c
  conv => whnf
  refine ⟨_, rfl, ks, fun y ey => ?_⟩
  obtain rfl : y = 0 := ey.symm.trans c0
  conv => whnf
  rw [sb_shr0]
  exact ⟨trivial, ⟨Nat.le_of_ble_eq_true rfl, Nat.le_of_ble_eq_true rfl⟩, rfl, r, rfl, by omega, by omega⟩
set_option maxRecDepth 20000 in
theorem c_Arrays_copyOfB {N : Nat → Prop} {h : j_H} {a : Nat} {n : Int32} (ba : j_Ba N h a) (hN : j_Nn N h) (hl : (j_ln h a : Int) < n.toInt) (hn : n.toInt ≤ 100) : j_Ct 66 1 26 1 100 [j_r (some a), j_i n] h (fun v h' => ∃ b, v = some (j_r (some b)) ∧ j_Ba N h' b ∧ (j_ln h' b : Int) = n.toInt ∧ j_Bx N h h' ∧ j_On (fun _ => False) h h') j_no := by
  obtain ⟨na, ka, la, fa⟩ := ba
  have li : (nI (j_ln h a)).toInt = (j_ln h a : Int) := nI_toInt (by omega)
  have cl := j_clamp (i := n) (by omega)
  have z0 : (Int32.ofInt 0).toInt = 0 := by decide
  refine j_intro km_66 (Nat.le_of_ble_eq_true rfl) ?_
  intro J hJ hF
  refine hJ [] 400 _ _ _ _ _ _ ?_
  conv => whnf
  refine ⟨_, _, rfl, ka, ?_⟩
  conv => whnf
  refine ⟨fun c => ?_, fun c => ?_⟩
  rotate_left
  · have c : ¬ ¬ n.toInt = (nI (j_ln h a)).toInt := c
    exact absurd (fun z => by omega) c
  conv => whnf
  refine ⟨⟨fun z => absurd (j_l0.mp z) (by omega), by omega⟩, ⟨Nat.le_of_ble_eq_true rfl, by show 0 + n.toNatClampNeg ≤ 100; omega⟩, fun b hb => ?_⟩
  have nb : a ≠ b := fun z => by rw [z, hb] at ka; cases ka
  have k1 : j_kd (j_nw h b (.inr 1) n.toNatClampNeg) a = some (.inr 1) := (if_neg nb).trans ka
  have l1 : j_ln (j_nw h b (.inr 1) n.toNatClampNeg) a = j_ln h a := if_neg nb
  have l2 : j_ln (j_nw h b (.inr 1) n.toNatClampNeg) b = n.toNatClampNeg := if_pos rfl
  have fa1 : ∀ k, j_it (j_nw h b (.inr 1) n.toNatClampNeg) a k = j_it h a k := fun k => if_neg nb
  conv => whnf
  refine ⟨_, _, rfl, k1, ?_⟩
  conv => whnf
  refine ⟨⟨Nat.le_of_ble_eq_true rfl, Nat.le_of_ble_eq_true rfl, Nat.le_of_ble_eq_true rfl, by show 0 + n.toNatClampNeg ≤ 100; omega⟩, ?_⟩
  rw [l1]
  have hm : (if n < nI (j_ln h a) then n else nI (j_ln h a)) = nI (j_ln h a) := if_neg (fun z => absurd (j_ll.mp z) (by omega))
  rw [hm]
  conv => whnf
  refine ⟨_, _, _, rfl, rfl, k1, rfl, if_pos rfl, ⟨by omega, by omega, by omega, by rw [l1]; omega, by rw [l2]; omega⟩, fun k => by rw [fa1]; exact fa k, ⟨Nat.le_of_ble_eq_true rfl, Nat.le_of_ble_eq_true rfl⟩, ?_⟩
  conv => whnf
  refine ⟨trivial, ⟨Nat.le_of_ble_eq_true rfl, by show 0 + n.toNatClampNeg ≤ 100; omega⟩, b, rfl, ⟨hN b hb, if_pos rfl, ?_, fun k => ?_⟩, ?_, (j_Bx.nw hb (fun c z => by cases z)).trans (j_Bx.cpi (hN b hb)), ?_⟩
  · show (if b = b then n.toNatClampNeg else _) ≤ 100
    rw [if_pos rfl]; omega
  · show (if b = b then va_cpy _ _ _ _ _ k else _ : Int32).toInt8.toInt32 = (if b = b then va_cpy _ _ _ _ _ k else _)
    rw [if_pos rfl]
    unfold va_cpy
    split
    · rw [fa1]; exact fa _
    · show (if b = b then (0 : Int32) else _).toInt8.toInt32 = (if b = b then (0 : Int32) else _)
      rw [if_pos rfl]; decide
  · show ((if b = b then n.toNatClampNeg else _ : Nat) : Int) = _
    rw [if_pos rfl]; exact cl
  · exact ((j_On.nw (S := fun q => q = b) hb).trans (j_On.cpi rfl)).mono (fun q hq e => hq (by rw [e]; exact hb))
theorem j_SB.bx {N : Nat → Prop} {h h' : j_H} {s : Nat} {n m : Int} (b : j_SB N h s n m) (o : j_On (fun _ => False) h h') : j_SB N h' s n m := by
  obtain ⟨ns, ks, c0, c3, n0, a, e0, ⟨na, ka, la, fa⟩, l1, l2⟩ := b
  obtain ⟨p1, p2, p3⟩ := o.2 s (fun z => by rw [ks] at z; cases z)
  obtain ⟨r1, r2, r3⟩ := o.2 a (fun z => by rw [ka] at z; cases z)
  exact ⟨ns, p1.trans ks, ((p3 id 1).1).trans c0, by rw [(p3 id 3).1]; exact c3, n0, a, ((p3 id 0).2.2).trans e0, ⟨na, r1.trans ka, by rw [r2]; exact la, fun k => by rw [(r3 id k).1]; exact fa k⟩, by rw [r2]; exact l1, by rw [r2]; exact l2⟩
set_option maxRecDepth 20000 in
theorem c_ASB_ensure {N : Nat → Prop} {h : j_H} {s : Nat} {n m : Int} {k : Int32} (b : j_SB N h s n m) (hN : j_Nn N h) (k0 : 0 ≤ k.toInt) (hk : k.toInt ≤ 40) : j_Ct 5 3 70 1 100 [j_r (some s), j_i k] h (fun v h' => v = none ∧ j_SB N h' s n k.toInt ∧ j_Bx N h h') j_no := by
  obtain ⟨ns, ks, c0, c3, n0, a, e0, ba, l1, l2⟩ := b
  have ba9 := ba
  obtain ⟨na, ka, la, fa⟩ := ba9
  have li : (nI (j_ln h a)).toInt = (j_ln h a : Int) := nI_toInt (by omega)
  refine j_intro km_5 (Nat.le_of_ble_eq_true rfl) ?_
  intro J hJ hF
  refine hJ [] 400 _ _ _ _ _ _ ?_
  conv => whnf
  refine ⟨_, rfl, ks, fun o eo => ?_⟩
  obtain rfl : o = some a := eo.symm.trans e0
  conv => whnf
  refine ⟨_, _, rfl, ka, ?_⟩
  conv => whnf
  refine ⟨_, rfl, ks, fun y ey => ?_⟩
  obtain rfl : y = 0 := ey.symm.trans c0
  conv => whnf
  rw [sb_shr0]
  have g1 : (k - nI (j_ln h a)).toInt = k.toInt - (j_ln h a : Int) := by rw [j_subI (by omega) (by omega)]; omega
  refine ⟨fun c => ?_, fun c => ?_⟩
  · have c : (k - nI (j_ln h a)).toInt ≤ 0 := c
    conv => whnf
    exact ⟨rfl, ⟨Nat.le_of_ble_eq_true rfl, Nat.le_of_ble_eq_true rfl⟩, rfl, ⟨ns, ks, c0, c3, n0, a, e0, ba, l1, by omega⟩, j_Bx.rf⟩
  · have c : ¬ (k - nI (j_ln h a)).toInt ≤ 0 := c
    conv => whnf
    refine ⟨_, rfl, ks, fun o eo => ?_⟩
    obtain rfl : o = some a := eo.symm.trans e0
    conv => whnf
    refine ⟨ks, rfl, _, _, _, _, _, _, c_ASB_newCapacity ks c0 e0 ka (by omega) hk, ⟨Nat.le_of_ble_eq_true rfl, Nat.le_of_ble_eq_true rfl, Nat.le_of_ble_eq_true rfl, Nat.le_of_ble_eq_true rfl⟩, fun _ _ z => False.elim z, ?_⟩
    rintro v9 h9 ⟨rfl, r, rfl, r1, r2⟩
    conv => whnf
    refine ⟨_, rfl, ks, fun y ey => ?_⟩
    obtain rfl : y = 0 := ey.symm.trans c0
    conv => whnf
    rw [sb_shl0]
    refine ⟨rfl, _, _, _, _, _, _, c_Arrays_copyOfB ba hN (by omega) r2, ⟨Nat.le_of_ble_eq_true rfl, Nat.le_of_ble_eq_true rfl, Nat.le_of_ble_eq_true rfl, Nat.le_of_ble_eq_true rfl⟩, fun _ _ z => False.elim z, ?_⟩
    rintro v8 h8 ⟨b, rfl, bb, lb, bx, on⟩
    obtain ⟨p1, p2, p3⟩ := on.2 s (fun z => by rw [ks] at z; cases z)
    conv => whnf
    refine ⟨_, rfl, p1.trans ks, ?_⟩
    have nsb : b ≠ s := fun z => by have := bb.2.1; rw [z, p1, ks] at this; cases this
    conv => whnf
    refine ⟨rfl, ⟨Nat.le_of_ble_eq_true rfl, Nat.le_of_ble_eq_true rfl⟩, rfl, ⟨ns, p1.trans ks, ((p3 id 1).1).trans c0, ?_, n0, b, j_upr, ⟨bb.1, bb.2.1, bb.2.2.1, bb.2.2.2⟩, ?_, ?_⟩, bx.trans (j_Bx.up ns)⟩
    · exact (congrArg Int32.toInt (p3 id 3).1).trans c3
    · show n ≤ (j_ln h8 b : Int)
      omega
    · show k.toInt ≤ (j_ln h8 b : Int)
      omega
