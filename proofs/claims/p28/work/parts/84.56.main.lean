abbrev j_lF : j_F := (13, some .boolean, 12, 462, 600104, 7301314)
def j_lP : Option j_V → j_H → Prop := fun v _ => v = some (j_i (Int32.ofInt 1))
theorem j_cmp0 (x : Int64) : (lg_cmp x x).toInt = 0 := by
  have e : lg_cmp x x = 0 := by
    unfold lg_cmp
    simp
  rw [e]
  decide
/-- the world at the head of a turn: the laboratory, the script, the years in which paces were told, were labels swapped -/
def y_X (x s p L : Nat) (sw : Int32) (h : j_H) : Prop := y_W h x ∧ (j_kd h s = some (.inr 10) ∧ j_ln h s = L) ∧ (j_kd h p = some (.inr 0) ∧ j_ln h p = 2) ∧ (sw = Int32.ofInt 0 ∨ sw = Int32.ofInt 1) ∧ (sw.toInt = 0 → y_J (z_c h x) (fun c => (j_it h p c).toInt))
section YX
variable {h h' : j_H} {x s p L : Nat} {sw : Int32}
theorem y_X.mv (v : y_X x s p L sw h) (w : y_W h' x) (e : z_eq (z_c h' x) (z_c h x)) (a : y_A h h') : y_X x s p L sw h' := by
  obtain ⟨w0, ⟨a1, a2⟩, ⟨b1, b2⟩, c, J⟩ := v
  obtain ⟨s1, s2, -⟩ := a s 10 a1 rfl
  obtain ⟨p1, p2, p3⟩ := a p 0 b1 rfl
  refine ⟨w, ⟨s1, s2.trans a2⟩, ⟨p1, p2.trans b2⟩, c, fun z => ?_⟩
  rw [show (fun c => (j_it h' p c).toInt) = (fun c => (j_it h p c).toInt) from funext (fun c => by rw [p3])]
  exact (J z).eq e
theorem y_X.q (v : y_X x s p L sw h) (q : y_Q x h h') : y_X x s p L sw h' := v.mv q.1 q.2.1 q.2.2
end YX
section YS
variable {h h' : j_H} {x f g : Nat} {m : Nat}
/-- the first k spans of the grains lie in f and g -/
def y_sp (Z : j_Z) (h : j_H) (f g : Nat) (k : Nat) : Prop := ∀ j, j < k → j_it h f j = z_eO Z j (Int32.ofInt (-1)) (Int32.ofInt (-1)) ∧ j_it h g j = z_lO Z j (Int32.ofInt (-1)) (Int32.ofInt (-1))
end YS
theorem y_dg {h h' : j_H} {x : Nat} (q : y_Q x h h') : z_dig (z_c h' x) = z_dig (z_c h x) := by
  have b9 := y_bd q.1.1
  exact z_dig_c q.2.1 b9.1.1 b9.2.1 b9.2.2.1 (z_cP q.1.1 q.1.2.1)
/-- from here the law ends well -/
def y_B14 (J : j_J) (x s p L : Nat) (t : Int32) : Prop := ∀ (sw : Int32) (H : j_H) (cn sn : Nat), y_X x s p L sw H → cn ≤ 200 + 450 * t.toInt.toNat + 450 → sn ≤ 2000 + 3000 * t.toInt.toNat + 3000 → J 14 [some (j_r (some s)), some (j_r (some x)), some (j_r (some p)), some (j_i sw), some (j_i (t + Int32.ofInt 1)), none, none, none, none, none, none, none, none] [] H cn sn
def y_B249 (J : j_J) (x s p L : Nat) (t : Int32) : Prop := ∀ (sw2 : Int32) (H9 : j_H) (cn sn : Nat), y_X x s p L sw2 H9 → cn ≤ 200 + 450 * t.toInt.toNat + 70 → sn ≤ 2000 + 3000 * t.toInt.toNat + 500 → J 249 [some (j_r (some s)), some (j_r (some x)), some (j_r (some p)), some (j_i sw2), some (j_i t), none, none, none, none, none, none, none, none] [] H9 cn sn
def y_B268 (J : j_J) (x s p L : Nat) (t : Int32) : Prop := ∀ (sw2 : Int32) (H9 : j_H) (cn sn : Nat), y_X x s p L sw2 H9 → cn ≤ 200 + 450 * t.toInt.toNat + 350 → sn ≤ 2000 + 3000 * t.toInt.toNat + 2180 → J 268 [some (j_r (some s)), some (j_r (some x)), some (j_r (some p)), some (j_i sw2), some (j_i t), none, none, none, none, none, none, none, none] [] H9 cn sn
def y_B182 (J : j_J) (x s p L : Nat) (t : Int32) (Z : j_Z) (a : Int32) (d : Int64) (nn : Int32) (f g : Nat) : Prop := ∀ (sw2 r : Int32) (H9 : j_H) (cn sn : Nat), y_X x s p L sw2 H9 → (j_kd H9 f = some (.inr 0) ∧ j_ln H9 f = nn.toNatClampNeg) → (j_kd H9 g = some (.inr 0) ∧ j_ln H9 g = nn.toNatClampNeg) → y_sp Z H9 f g nn.toNatClampNeg → (¬ r.toInt = 0 → nn.toInt ≤ (j_sz H9 x 0).toInt ∧ ((y_bl a ((Int8.ofInt 14).toInt32)).toInt = 7 → ∃ w, z_eq (z_c H9 x) (n_withdraw Z w))) → cn ≤ 200 + 450 * t.toInt.toNat + 54 → sn ≤ 2000 + 3000 * t.toInt.toNat + 400 → J 182 [some (j_r (some s)), some (j_r (some x)), some (j_r (some p)), some (j_i sw2), some (j_i t), some (j_i a), some (j_l d), none, some (j_i nn), some (j_r (some f)), some (j_r (some g)), some (j_i r), none] [] H9 cn sn
def y_B157 (J : j_J) (x s p L : Nat) (t : Int32) (Z : j_Z) (a : Int32) (d : Int64) (nn : Int32) (f g : Nat) (sw : Int32) : Prop := ∀ (r : Int32) (H9 : j_H) (cn sn : Nat), (r = Int32.ofInt 0 ∨ r = Int32.ofInt 1) → (∀ sw2, (sw2 = Int32.ofInt 0 ∨ sw2 = Int32.ofInt 1) → (sw2.toInt = 0 → sw.toInt = 0 ∧ (¬ r.toInt = 0 → ¬ (y_bl a ((Int8.ofInt 14).toInt32)).toInt = 8)) → y_X x s p L sw2 H9) → (j_kd H9 f = some (.inr 0) ∧ j_ln H9 f = nn.toNatClampNeg) → (j_kd H9 g = some (.inr 0) ∧ j_ln H9 g = nn.toNatClampNeg) → y_sp Z H9 f g nn.toNatClampNeg → (¬ r.toInt = 0 → nn.toInt ≤ (j_sz H9 x 0).toInt ∧ ((y_bl a ((Int8.ofInt 14).toInt32)).toInt = 7 → ∃ w, z_eq (z_c H9 x) (n_withdraw Z w))) → cn ≤ 200 + 450 * t.toInt.toNat + 54 → sn ≤ 2000 + 3000 * t.toInt.toNat + 400 → J 157 [some (j_r (some s)), some (j_r (some x)), some (j_r (some p)), some (j_i sw), some (j_i t), some (j_i a), some (j_l d), none, some (j_i nn), some (j_r (some f)), some (j_r (some g)), some (j_i r), none] [] H9 cn sn
def y_B107 (J : j_J) (x s p L : Nat) (t : Int32) (Z : j_Z) (a : Int32) (d : Int64) (nn : Int32) (f g : Nat) (sw : Int32) : Prop := ∀ (r : Int32) (H9 H8 : j_H) (cn sn : Nat), y_X x s p L sw H9 → z_eq (z_c H9 x) Z → (j_kd H9 f = some (.inr 0) ∧ j_ln H9 f = nn.toNatClampNeg) → (j_kd H9 g = some (.inr 0) ∧ j_ln H9 g = nn.toNatClampNeg) → y_sp Z H9 f g nn.toNatClampNeg → ((r = Int32.ofInt 0 ∧ y_Q x H9 H8) ∨ (r = Int32.ofInt 1 ∧ ∃ h1 N, y_Q x H9 h1 ∧ y_D x h1 H8 N ∧ y_sD (z_c h1 x) N (y_bl a ((Int8.ofInt 14).toInt32)) (y_bl (a >>> (Int32.ofInt 4 &&& 31)) (Int32.ofInt 2)))) → cn ≤ 200 + 450 * t.toInt.toNat + 49 → sn ≤ 2000 + 3000 * t.toInt.toNat + 358 → J 107 [some (j_r (some s)), some (j_r (some x)), some (j_r (some p)), some (j_i sw), some (j_i t), some (j_i a), some (j_l d), none, some (j_i nn), some (j_r (some f)), some (j_r (some g)), some (j_i r), none] [] H8 cn sn
set_option maxHeartbeats 20000000 in
set_option maxRecDepth 20000 in
theorem y_t268 {J : j_J} {x s p L : Nat} {t : Int32} {Z : j_Z} {a : Int32} {d : Int64} {nn : Int32} {f g : Nat} (hJ : j_Cl k_law j_lF j_lP j_no J) (hF : j_Fg J) (hL : L ≤ 2560) (t0 : 0 ≤ t.toInt) (t1 : t.toInt < 16) (n0 : 0 ≤ nn.toInt) (n8 : nn.toInt ≤ 8) (b14 : y_B14 J x s p L t) : y_B268 J x s p L t := by
  unfold y_B268
  intro sw2 H8 cn sn X8 hc hs
  refine hJ [14, 60, 107, 124, 157, 180, 182, 202, 249, 268] 400 _ _ _ _ _ _ ?_
  conv => whnf
  refine ⟨rfl, _, _, _, _, _, _, c_y_arePrints X8.1, ⟨Nat.le_of_ble_eq_true rfl, Nat.le_of_ble_eq_true rfl, by (try dsimp only); omega, by (try dsimp only); omega⟩, fun _ _ z => False.elim z, ?_⟩
  rintro v9 h9 ⟨q9, rfl⟩
  conv => whnf
  refine ⟨fun _ => ?_, fun c => absurd (show ¬ (Int32.ofInt 1).toInt = 0 by decide) c⟩
  conv => whnf
  exact j_use hF (b14 sw2 h9 _ _ (X8.q q9) (by (try dsimp only); omega) (by (try dsimp only); omega)) (And.intro rfl (And.intro rfl (And.intro rfl (And.intro rfl (And.intro rfl trivial)))))
set_option maxHeartbeats 20000000 in
set_option maxRecDepth 20000 in
theorem y_t249 {J : j_J} {x s p L : Nat} {t : Int32} {Z : j_Z} {a : Int32} {d : Int64} {nn : Int32} {f g : Nat} (hJ : j_Cl k_law j_lF j_lP j_no J) (hF : j_Fg J) (hL : L ≤ 2560) (t0 : 0 ≤ t.toInt) (t1 : t.toInt < 16) (n0 : 0 ≤ nn.toInt) (n8 : nn.toInt ≤ 8) (b268 : y_B268 J x s p L t) : y_B249 J x s p L t := by
  unfold y_B249
  intro sw2 H9 cn sn X9 hc hs
  have w9 := X9.1
  refine hJ [14, 60, 107, 124, 157, 180, 182, 202, 249, 268] 400 _ _ _ _ _ _ ?_
  conv => whnf
  refine ⟨rfl, _, _, _, _, _, _, c_y_areMotes w9, ⟨Nat.le_of_ble_eq_true rfl, Nat.le_of_ble_eq_true rfl, by (try dsimp only); omega, by (try dsimp only); omega⟩, fun _ _ z => False.elim z, ?_⟩
  rintro v9 h9 ⟨q9, rfl⟩
  have X10 := X9.q q9
  conv => whnf
  refine ⟨fun c => absurd (show (Int32.ofInt 1).toInt = 0 from c) (by decide), fun _ => ?_⟩
  conv => whnf
  refine ⟨fun c => ?_, fun c => ?_⟩
  · exact j_use hF (b268 sw2 h9 _ _ X10 (by (try dsimp only); omega) (by (try dsimp only); omega)) (And.intro rfl (And.intro rfl (And.intro rfl (And.intro rfl (And.intro rfl trivial)))))
  · have c : ¬ ¬ sw2.toInt = 0 := c
    conv => whnf
    refine ⟨rfl, _, _, _, _, _, _, c_y_areAges X10.1 X10.2.2.1.1 X10.2.2.1.2 (X10.2.2.2.2 (Decidable.not_not.mp c)), ⟨Nat.le_of_ble_eq_true rfl, Nat.le_of_ble_eq_true rfl, by (try dsimp only); omega, by (try dsimp only); omega⟩, fun _ _ z => False.elim z, ?_⟩
    rintro v9 h8 ⟨q8, rfl⟩
    conv => whnf
    refine ⟨fun c => absurd (show (Int32.ofInt 1).toInt = 0 from c) (by decide), fun _ => ?_⟩
    exact j_use hF (b268 sw2 h8 _ _ (X10.q q8) (by (try dsimp only); omega) (by (try dsimp only); omega)) (And.intro rfl (And.intro rfl (And.intro rfl (And.intro rfl (And.intro rfl trivial)))))
set_option maxHeartbeats 20000000 in
set_option maxRecDepth 20000 in
theorem y_t182 {J : j_J} {x s p L : Nat} {t : Int32} {Z : j_Z} {a : Int32} {d : Int64} {nn : Int32} {f g : Nat} (hJ : j_Cl k_law j_lF j_lP j_no J) (hF : j_Fg J) (hL : L ≤ 2560) (t0 : 0 ≤ t.toInt) (t1 : t.toInt < 16) (n0 : 0 ≤ nn.toInt) (n8 : nn.toInt ≤ 8) (b249 : y_B249 J x s p L t) : y_B182 J x s p L t Z a d nn f g := by
  unfold y_B182
  intro sw2 r H9 cn sn X9 kf9 kg9 sp9 hr hc hs
  have zero : (Int32.ofInt 0).toInt = 0 := by decide
  have one : (Int32.ofInt 1).toInt = 1 := by decide
  have cln := j_clamp n0
  refine hJ [14, 60, 107, 124, 157, 180, 182, 202, 249, 268] 400 _ _ _ _ _ _ ?_
  conv => whnf
  refine ⟨fun c => ?_, fun c => ?_⟩
  · exact j_use hF (b249 sw2 H9 _ _ X9 (by (try dsimp only); omega) (by (try dsimp only); omega)) (And.intro rfl (And.intro rfl (And.intro rfl (And.intro rfl (And.intro rfl trivial)))))
  · have c : ¬ r.toInt = 0 := c
    obtain ⟨g9, wd9⟩ := hr c
    conv => whnf
    refine ⟨rfl, _, _, _, _, _, _, c_y_below (by decide), ⟨Nat.le_of_ble_eq_true rfl, Nat.le_of_ble_eq_true rfl, by (try dsimp only); omega, by (try dsimp only); omega⟩, fun _ _ z => False.elim z, ?_⟩
    rintro v9 h9 ⟨e9, rfl⟩
    obtain rfl : H9 = h9 := e9.symm
    clear e9
    have z7 : ((Int8.ofInt 7).toInt32).toInt = 7 := by decide
    conv => whnf
    refine ⟨fun _ => ?_, fun c7 => ?_⟩
    · exact j_use hF (b249 sw2 H9 _ _ X9 (by (try dsimp only); omega) (by (try dsimp only); omega)) (And.intro rfl (And.intro rfl (And.intro rfl (And.intro rfl (And.intro rfl trivial)))))
    · have c7 : ¬ ¬ (y_bl a ((Int8.ofInt 14).toInt32)).toInt = ((Int8.ofInt 7).toInt32).toInt := c7
      obtain ⟨wd, hwd⟩ := wd9 ((Decidable.not_not.mp c7).trans z7)
      have L202 : ∀ (k : Nat) (v : Int32) (cn sn : Nat), cn ≤ 200 + 450 * t.toInt.toNat + 54 + 2 * v.toInt.toNat → sn ≤ 2000 + 3000 * t.toInt.toNat + 400 + 12 * v.toInt.toNat → 0 ≤ v.toInt → v.toInt ≤ nn.toInt → nn.toInt - v.toInt < (k : Int) → J 202 [some (j_r (some s)), some (j_r (some x)), some (j_r (some p)), some (j_i sw2), some (j_i t), some (j_i a), some (j_l d), none, some (j_i nn), some (j_r (some f)), some (j_r (some g)), some (j_i r), some (j_i v)] [] H9 cn sn := by
        intro k
        induction k with
        | zero => intro v cn sn hc hs h0 h1 hm; omega
        | succ k ih2 =>
          intro v cn sn hc hs h0 h1 hm
          have clv := j_clamp h0
          refine hJ [14, 60, 107, 124, 157, 180, 182, 202, 249, 268] 400 _ _ _ _ _ _ ?_
          conv => whnf
          refine ⟨fun c9 => ?_, fun c9 => ?_⟩
          · exact j_use hF (b249 sw2 H9 _ _ X9 (by (try dsimp only); omega) (by (try dsimp only); omega)) (And.intro rfl (And.intro rfl (And.intro rfl (And.intro rfl (And.intro rfl trivial)))))
          · have c9 : ¬ nn.toInt ≤ v.toInt := c9
            have tv : (v + Int32.ofInt 1).toInt = v.toInt + 1 := j_inc1 (by omega)
            obtain ⟨f1, f2⟩ := sp9 v.toNatClampNeg (by omega)
            have yw := y_wider (A := Z) (a := wd) (B := z_c H9 x) hwd (y_bd X9.1.1).2.1.1 (g := v.toNatClampNeg) (c := Int32.ofInt (-1)) (w := Int32.ofInt (-1))
            conv => whnf
            refine ⟨X9.1.1.1, rfl, _, _, _, _, _, _, y_spanq X9.1 ⟨h0, by omega⟩ (Or.inl (by decide)) (by decide), ⟨Nat.le_of_ble_eq_true rfl, Nat.le_of_ble_eq_true rfl, by (try dsimp only); omega, by (try dsimp only); omega⟩, fun _ _ z => False.elim z, ?_⟩
            rintro o9 h9 ⟨e9, er9⟩
            obtain ⟨r1, hr1⟩ : ∃ r, r = z_eO (z_c H9 x) v.toNatClampNeg (Int32.ofInt (-1)) (Int32.ofInt (-1)) := ⟨_, rfl⟩
            obtain rfl : o9 = some (j_i r1) := er9.trans (congrArg (fun r => some (j_i r)) (by rw [hr1]; rfl))
            obtain rfl : H9 = h9 := e9.symm
            clear er9 e9
            conv => whnf
            refine ⟨_, _, rfl, kf9.1, rfl, j_vp (by omega) (by rw [kf9.2]; omega), fun y1 ey1 => ?_⟩
            have ey1 : y1 = z_eO Z v.toNatClampNeg (Int32.ofInt (-1)) (Int32.ofInt (-1)) := ey1.symm.trans f1
            conv => whnf
            refine ⟨fun c10 => ?_, fun c10 => ?_⟩
            · have c10 : y1.toInt < r1.toInt := c10
              rw [ey1, hr1] at c10
              omega
            conv => whnf
            refine ⟨X9.1.1.1, rfl, _, _, _, _, _, _, y_spanq X9.1 ⟨h0, by omega⟩ (Or.inl (by decide)) (by decide), ⟨Nat.le_of_ble_eq_true rfl, Nat.le_of_ble_eq_true rfl, by (try dsimp only); omega, by (try dsimp only); omega⟩, fun _ _ z => False.elim z, ?_⟩
            rintro o9 h9 ⟨e9, er9⟩
            obtain ⟨r2, hr2⟩ : ∃ r, r = z_lO (z_c H9 x) v.toNatClampNeg (Int32.ofInt (-1)) (Int32.ofInt (-1)) := ⟨_, rfl⟩
            obtain rfl : o9 = some (j_i r2) := er9.trans (congrArg (fun r => some (j_i r)) (by rw [hr2]; rfl))
            obtain rfl : H9 = h9 := e9.symm
            clear er9 e9
            conv => whnf
            refine ⟨_, _, rfl, kg9.1, rfl, j_vp (by omega) (by rw [kg9.2]; omega), fun y2 ey2 => ?_⟩
            have ey2 : y2 = z_lO Z v.toNatClampNeg (Int32.ofInt (-1)) (Int32.ofInt (-1)) := ey2.symm.trans f2
            conv => whnf
            refine ⟨fun _ => ?_, fun c11 => ?_⟩
            · conv => whnf
              exact j_use hF (ih2 (v + Int32.ofInt 1) _ _ (by (try dsimp only); omega) (by (try dsimp only); omega) (by omega) (by omega) (by omega)) (And.intro rfl (And.intro rfl (And.intro rfl (And.intro rfl (And.intro rfl (And.intro rfl (And.intro rfl (And.intro rfl (And.intro rfl (And.intro rfl (And.intro rfl (And.intro rfl trivial))))))))))))
            · have c11 : ¬ y2.toInt ≤ r2.toInt := c11
              rw [ey2, hr2] at c11
              omega
      conv => whnf
      exact j_use hF (L202 100 (Int32.ofInt 0) _ _ (by rw [zero]; (try dsimp only); omega) (by rw [zero]; (try dsimp only); omega) (by decide) (by rw [zero]; omega) (by rw [zero]; omega)) (And.intro rfl (And.intro rfl (And.intro rfl (And.intro rfl (And.intro rfl (And.intro rfl (And.intro rfl (And.intro rfl (And.intro rfl (And.intro rfl (And.intro rfl (And.intro rfl trivial))))))))))))
set_option maxHeartbeats 20000000 in
set_option maxRecDepth 20000 in
theorem y_t157 {J : j_J} {x s p L : Nat} {t : Int32} {Z : j_Z} {a : Int32} {d : Int64} {nn : Int32} {f g : Nat} (hJ : j_Cl k_law j_lF j_lP j_no J) (hF : j_Fg J) (hL : L ≤ 2560) (t0 : 0 ≤ t.toInt) (t1 : t.toInt < 16) (n0 : 0 ≤ nn.toInt) (n8 : nn.toInt ≤ 8) {sw : Int32} (s01 : sw = Int32.ofInt 0 ∨ sw = Int32.ofInt 1) (b182 : y_B182 J x s p L t Z a d nn f g) : y_B157 J x s p L t Z a d nn f g sw := by
  unfold y_B157
  intro r H9 cn sn r01 X9 kf9 kg9 sp9 hr hc hs
  have zero : (Int32.ofInt 0).toInt = 0 := by decide
  have one : (Int32.ofInt 1).toInt = 1 := by decide
  have cln := j_clamp n0
  have L180 : ∀ (b : Int32), (b = Int32.ofInt 0 ∨ b = Int32.ofInt 1) → (b.toInt = 0 → ¬ r.toInt = 0 → ¬ (y_bl a ((Int8.ofInt 14).toInt32)).toInt = 8) → J 180 [some (j_r (some s)), some (j_r (some x)), some (j_r (some p)), some (j_i sw), some (j_i t), some (j_i a), some (j_l d), none, some (j_i nn), some (j_r (some f)), some (j_r (some g)), some (j_i r), none] [j_i b, j_i sw] H9 cn sn := by
    intro b b01 hb
    refine hJ [14, 60, 107, 124, 157, 180, 182, 202, 249, 268] 400 _ _ _ _ _ _ ?_
    have or1 : (sw ||| b) = Int32.ofInt 0 ∨ (sw ||| b) = Int32.ofInt 1 := by
      rcases s01 with rfl | rfl <;> rcases b01 with rfl | rfl
      · exact Or.inl (by decide)
      · exact Or.inr (by decide)
      · exact Or.inr (by decide)
      · exact Or.inr (by decide)
    have or2 : (sw ||| b).toInt = 0 → sw.toInt = 0 ∧ b.toInt = 0 := by
      rcases s01 with rfl | rfl <;> rcases b01 with rfl | rfl
      · exact fun _ => by decide
      · exact fun z => absurd z (by decide)
      · exact fun z => absurd z (by decide)
      · exact fun z => absurd z (by decide)
    conv => whnf
    exact j_use hF (b182 (sw ||| b) r H9 _ _ (X9 _ or1 (fun z => ⟨(or2 z).1, hb (or2 z).2⟩)) kf9 kg9 sp9 hr hc hs) (And.intro rfl (And.intro rfl (And.intro rfl (And.intro rfl (And.intro rfl (And.intro rfl (And.intro rfl (And.intro rfl (And.intro rfl (And.intro rfl (And.intro rfl trivial)))))))))))
  refine hJ [14, 60, 107, 124, 157, 180, 182, 202, 249, 268] 400 _ _ _ _ _ _ ?_
  conv => whnf
  refine ⟨fun c => ?_, fun c => ?_⟩
  · have c : r.toInt = 0 := c
    conv => whnf
    exact j_use hF (L180 (Int32.ofInt 0) (Or.inl rfl) (fun _ z => absurd c z)) (And.intro rfl (And.intro rfl (And.intro rfl (And.intro rfl (And.intro rfl (And.intro rfl (And.intro rfl (And.intro rfl (And.intro rfl (And.intro rfl (And.intro rfl trivial)))))))))))
  · conv => whnf
    refine ⟨rfl, _, _, _, _, _, _, c_y_below (by decide), ⟨Nat.le_of_ble_eq_true rfl, Nat.le_of_ble_eq_true rfl, by (try dsimp only); omega, by (try dsimp only); omega⟩, fun _ _ z => False.elim z, ?_⟩
    rintro v9 h9 ⟨e9, rfl⟩
    obtain rfl : H9 = h9 := e9.symm
    clear e9
    have z8 : ((Int8.ofInt 8).toInt32).toInt = 8 := by decide
    conv => whnf
    refine ⟨fun c8 => ?_, fun c8 => ?_⟩
    · have c8 : ¬ (y_bl a ((Int8.ofInt 14).toInt32)).toInt = ((Int8.ofInt 8).toInt32).toInt := c8
      rw [z8] at c8
      conv => whnf
      exact j_use hF (L180 (Int32.ofInt 0) (Or.inl rfl) (fun _ _ => c8)) (And.intro rfl (And.intro rfl (And.intro rfl (And.intro rfl (And.intro rfl (And.intro rfl (And.intro rfl (And.intro rfl (And.intro rfl (And.intro rfl (And.intro rfl trivial)))))))))))
    · conv => whnf
      exact j_use hF (L180 (Int32.ofInt 1) (Or.inr rfl) (fun z => absurd z (by decide))) (And.intro rfl (And.intro rfl (And.intro rfl (And.intro rfl (And.intro rfl (And.intro rfl (And.intro rfl (And.intro rfl (And.intro rfl (And.intro rfl (And.intro rfl trivial)))))))))))
set_option maxHeartbeats 20000000 in
set_option maxRecDepth 20000 in
theorem y_t107a {J : j_J} {x s p L : Nat} {t : Int32} {Z : j_Z} {a : Int32} {d : Int64} {nn : Int32} {f g : Nat} (hJ : j_Cl k_law j_lF j_lP j_no J) (hF : j_Fg J) (hL : L ≤ 2560) (t0 : 0 ≤ t.toInt) (t1 : t.toInt < 16) (n0 : 0 ≤ nn.toInt) (n8 : nn.toInt ≤ 8) {sw : Int32} (nfp : p ≠ f) (ngp : p ≠ g) (nZ : (Z.1 0).toInt = nn.toInt) (eD : ∀ H9, y_W H9 x → z_eq (z_c H9 x) Z → z_dig (z_c H9 x) = d) (b157 : y_B157 J x s p L t Z a d nn f g sw) {H9 H8 : j_H} {cn sn : Nat} (X9 : y_X x s p L sw H9) (E9 : z_eq (z_c H9 x) Z) (kf9 : j_kd H9 f = some (.inr 0) ∧ j_ln H9 f = nn.toNatClampNeg) (kg9 : j_kd H9 g = some (.inr 0) ∧ j_ln H9 g = nn.toNatClampNeg) (sp9 : y_sp Z H9 f g nn.toNatClampNeg) (q8 : y_Q x H9 H8) (hc : cn ≤ 200 + 450 * t.toInt.toNat + 49) (hs : sn ≤ 2000 + 3000 * t.toInt.toNat + 358) : J 107 [some (j_r (some s)), some (j_r (some x)), some (j_r (some p)), some (j_i sw), some (j_i t), some (j_i a), some (j_l d), none, some (j_i nn), some (j_r (some f)), some (j_r (some g)), some (j_i (Int32.ofInt 0)), none] [] H8 cn sn := by
  have zero : (Int32.ofInt 0).toInt = 0 := by decide
  have one : (Int32.ofInt 1).toInt = 1 := by decide
  have cln := j_clamp n0
  refine hJ [14, 60, 107, 124, 157, 180, 182, 202, 249, 268] 400 _ _ _ _ _ _ ?_
  have X8 := X9.q q8
  have E8 := q8.2.1.tr E9
  obtain ⟨f1, f2, f3⟩ := q8.2.2 f 0 kf9.1 rfl
  obtain ⟨g1, g2, g3⟩ := q8.2.2 g 0 kg9.1 rfl
  conv => whnf
  refine ⟨fun c => absurd zero c, fun _ => ?_⟩
  conv => whnf
  refine ⟨X8.1.1.1, rfl, _, _, _, _, _, _, y_digest X8.1, ⟨Nat.le_of_ble_eq_true rfl, Nat.le_of_ble_eq_true rfl, by (try dsimp only); omega, by (try dsimp only); omega⟩, fun _ _ z => False.elim z, ?_⟩
  rintro o9 H6 ⟨q6, er9⟩
  obtain rfl : o9 = some (j_l d) := er9.trans (congrArg (fun r => some (j_l r)) (eD H8 X8.1 E8))
  clear er9
  have X6 := X8.q q6
  obtain ⟨f4, f5, f6⟩ := q6.2.2 f 0 f1 rfl
  obtain ⟨g4, g5, g6⟩ := q6.2.2 g 0 g1 rfl
  conv => whnf
  refine ⟨fun _ => ?_, fun c => absurd (j_cmp0 _) c⟩
  have L124 : ∀ (cn sn : Nat), cn ≤ 200 + 450 * t.toInt.toNat + 49 → sn ≤ 2000 + 3000 * t.toInt.toNat + 358 → J 124 [some (j_r (some s)), some (j_r (some x)), some (j_r (some p)), some (j_i sw), some (j_i t), some (j_i a), some (j_l d), none, some (j_i nn), some (j_r (some f)), some (j_r (some g)), some (j_i (Int32.ofInt 0)), none] [] H6 cn sn := by
    intro cn sn hc hs
    refine hJ [14, 60, 107, 124, 157, 180, 182, 202, 249, 268] 400 _ _ _ _ _ _ ?_
    conv => whnf
    refine ⟨fun _ => ?_, fun c => absurd zero c⟩
    exact j_use hF (b157 (Int32.ofInt 0) H6 _ _ (Or.inl rfl) (fun sw2 s01 hs => ⟨X6.1, X6.2.1, X6.2.2.1, s01, fun z => X6.2.2.2.2 (hs z).1⟩) ⟨f4, (f5.trans f2).trans kf9.2⟩ ⟨g4, (g5.trans g2).trans kg9.2⟩ (fun j hj => ⟨(f6 j).trans ((f3 j).trans (sp9 j hj).1), (g6 j).trans ((g3 j).trans (sp9 j hj).2)⟩) (fun c => absurd zero c) (by (try dsimp only); omega) (by (try dsimp only); omega)) (And.intro rfl (And.intro rfl (And.intro rfl (And.intro rfl (And.intro rfl (And.intro rfl (And.intro rfl (And.intro rfl (And.intro rfl (And.intro rfl (And.intro rfl trivial)))))))))))
  exact j_use hF (L124 _ _ (by (try dsimp only); omega) (by (try dsimp only); omega)) (And.intro rfl (And.intro rfl (And.intro rfl (And.intro rfl (And.intro rfl (And.intro rfl (And.intro rfl (And.intro rfl (And.intro rfl (And.intro rfl (And.intro rfl trivial)))))))))))
set_option maxHeartbeats 20000000 in
set_option maxRecDepth 20000 in
theorem y_t107b {J : j_J} {x s p L : Nat} {t : Int32} {Z : j_Z} {a : Int32} {d : Int64} {nn : Int32} {f g : Nat} (hJ : j_Cl k_law j_lF j_lP j_no J) (hF : j_Fg J) (hL : L ≤ 2560) (t0 : 0 ≤ t.toInt) (t1 : t.toInt < 16) (n0 : 0 ≤ nn.toInt) (n8 : nn.toInt ≤ 8) {sw : Int32} (nfp : p ≠ f) (ngp : p ≠ g) (nZ : (Z.1 0).toInt = nn.toInt) (eD : ∀ H9, y_W H9 x → z_eq (z_c H9 x) Z → z_dig (z_c H9 x) = d) (b157 : y_B157 J x s p L t Z a d nn f g sw) {H9 H8 H7 : j_H} {N : j_Z} {cn sn : Nat} (X9 : y_X x s p L sw H9) (E9 : z_eq (z_c H9 x) Z) (kf9 : j_kd H9 f = some (.inr 0) ∧ j_ln H9 f = nn.toNatClampNeg) (kg9 : j_kd H9 g = some (.inr 0) ∧ j_ln H9 g = nn.toNatClampNeg) (sp9 : y_sp Z H9 f g nn.toNatClampNeg) (q7 : y_Q x H9 H7) (dd : y_D x H7 H8 N) (st : y_sD (z_c H7 x) N (y_bl a ((Int8.ofInt 14).toInt32)) (y_bl (a >>> (Int32.ofInt 4 &&& 31)) (Int32.ofInt 2))) (hc : cn ≤ 200 + 450 * t.toInt.toNat + 49) (hs : sn ≤ 2000 + 3000 * t.toInt.toNat + 358) : J 107 [some (j_r (some s)), some (j_r (some x)), some (j_r (some p)), some (j_i sw), some (j_i t), some (j_i a), some (j_l d), none, some (j_i nn), some (j_r (some f)), some (j_r (some g)), some (j_i (Int32.ofInt 1)), none] [] H8 cn sn := by
  have zero : (Int32.ofInt 0).toInt = 0 := by decide
  have one : (Int32.ofInt 1).toInt = 1 := by decide
  have cln := j_clamp n0
  refine hJ [14, 60, 107, 124, 157, 180, 182, 202, 249, 268] 400 _ _ _ _ _ _ ?_
  obtain ⟨N0, NJ, N5, N7⟩ := st
  have yA := q7.2.2.tr dd.2.2
  have E7 := q7.2.1.tr E9
  obtain ⟨f1, f2, f3⟩ := yA f 0 kf9.1 rfl
  obtain ⟨g1, g2, g3⟩ := yA g 0 kg9.1 rfl
  obtain ⟨p1, p2, p3⟩ := yA p 0 X9.2.2.1.1 rfl
  obtain ⟨s1, s2, -⟩ := yA s 10 X9.2.1.1 rfl
  have J7 : sw.toInt = 0 → y_J (z_c H7 x) (fun c => (j_it H9 p c).toInt) := fun z => (X9.2.2.2.2 z).eq q7.2.1
  have sp8 : y_sp Z H8 f g nn.toNatClampNeg := fun j hj => ⟨(f3 j).trans (sp9 j hj).1, (g3 j).trans (sp9 j hj).2⟩
  have g8 : nn.toInt ≤ (j_sz H8 x 0).toInt := by
    have a1 : (j_sz H8 x 0).toInt = (N.1 0).toInt := congrArg Int32.toInt (dd.2.1.1 0 (by decide))
    have a2 : ((z_c H7 x).1 0).toInt = nn.toInt := (congrArg Int32.toInt (E7.1 0 (by decide))).trans nZ
    omega
  have wd8 : (y_bl a ((Int8.ofInt 14).toInt32)).toInt = 7 → ∃ w, z_eq (z_c H8 x) (n_withdraw Z w) := fun z => by
    obtain ⟨w, hw⟩ := N7 z
    refine ⟨w, dd.2.1.tr ?_⟩
    rw [hw]
    exact n_withdraw_c E7
  have z5 : (Int32.ofInt 5).toInt = 5 := by decide
  have L124 : ∀ (cn sn : Nat), cn ≤ 200 + 450 * t.toInt.toNat + 49 → sn ≤ 2000 + 3000 * t.toInt.toNat + 358 → J 124 [some (j_r (some s)), some (j_r (some x)), some (j_r (some p)), some (j_i sw), some (j_i t), some (j_i a), some (j_l d), none, some (j_i nn), some (j_r (some f)), some (j_r (some g)), some (j_i (Int32.ofInt 1)), none] [] H8 cn sn := by
    intro cn sn hc hs
    refine hJ [14, 60, 107, 124, 157, 180, 182, 202, 249, 268] 400 _ _ _ _ _ _ ?_
    conv => whnf
    refine ⟨fun c => absurd (show (Int32.ofInt 1).toInt = 0 from c) (by decide), fun _ => ?_⟩
    conv => whnf
    refine ⟨rfl, _, _, _, _, _, _, c_y_below (by decide), ⟨Nat.le_of_ble_eq_true rfl, Nat.le_of_ble_eq_true rfl, by (try dsimp only); omega, by (try dsimp only); omega⟩, fun _ _ z => False.elim z, ?_⟩
    rintro v9 h9 ⟨e9, rfl⟩
    obtain rfl : H8 = h9 := e9.symm
    clear e9
    conv => whnf
    refine ⟨fun c5 => ?_, fun c5 => ?_⟩
    · have c5 : ¬ (y_bl a ((Int8.ofInt 14).toInt32)).toInt = (Int32.ofInt 5).toInt := c5
      rw [z5] at c5
      exact j_use hF (b157 (Int32.ofInt 1) H8 _ _ (Or.inr rfl) (fun sw2 s01 hs => ⟨dd.1, ⟨s1, s2.trans X9.2.1.2⟩, ⟨p1, p2.trans X9.2.2.1.2⟩, s01, fun z => by
        rw [show (fun c => (j_it H8 p c).toInt) = (fun c => (j_it H9 p c).toInt) from funext (fun c => by rw [p3])]
        exact (NJ ((hs z).2 (by decide)) c5 _ (J7 (hs z).1)).eq dd.2.1⟩) ⟨f1, f2.trans kf9.2⟩ ⟨g1, g2.trans kg9.2⟩ sp8 (fun _ => ⟨g8, wd8⟩) (by (try dsimp only); omega) (by (try dsimp only); omega)) (And.intro rfl (And.intro rfl (And.intro rfl (And.intro rfl (And.intro rfl (And.intro rfl (And.intro rfl (And.intro rfl (And.intro rfl (And.intro rfl (And.intro rfl trivial)))))))))))
    · have c5 : ¬ ¬ (y_bl a ((Int8.ofInt 14).toInt32)).toInt = (Int32.ofInt 5).toInt := c5
      have c5 := (Decidable.not_not.mp c5).trans z5
      obtain ⟨n6, N5⟩ := N5 c5
      have bu := y_blb (v := a >>> (Int32.ofInt 4 &&& 31)) (n := Int32.ofInt 2) (by decide)
      have z2 : (Int32.ofInt 2).toInt = 2 := by decide
      conv => whnf
      refine ⟨rfl, _, _, _, _, _, _, c_y_below (by decide), ⟨Nat.le_of_ble_eq_true rfl, Nat.le_of_ble_eq_true rfl, by (try dsimp only); omega, by (try dsimp only); omega⟩, fun _ _ z => False.elim z, ?_⟩
      rintro o9 h9 ⟨e9, er9⟩
      obtain ⟨u, hu⟩ : ∃ u, u = y_bl (a >>> (Int32.ofInt 4 &&& 31)) (Int32.ofInt 2) := ⟨_, rfl⟩
      obtain rfl : o9 = some (j_i u) := er9.trans (congrArg (fun r => some (j_i r)) hu.symm)
      obtain rfl : H8 = h9 := e9.symm
      clear er9 e9
      rw [← hu] at bu N5
      have clu := j_clamp bu.1
      conv => whnf
      refine ⟨dd.1.1.1, rfl, _, _, _, _, _, _, y_lab dd.1 (by decide), ⟨Nat.le_of_ble_eq_true rfl, Nat.le_of_ble_eq_true rfl, by (try dsimp only); omega, by (try dsimp only); omega⟩, fun _ _ z => False.elim z, ?_⟩
      rintro o9 H6 ⟨q6, er9⟩
      obtain ⟨yy, hyy⟩ : ∃ r, r = (z_c H8 x).1 6 := ⟨_, rfl⟩
      obtain rfl : o9 = some (j_i yy) := er9.trans (congrArg (fun r => some (j_i r)) (by rw [hyy]; rfl))
      clear er9
      have y8 := dd.1.2.2.1.1.2.1.1
      rw [← hyy] at y8
      have ey : (yy + Int32.ofInt 1).toInt = yy.toInt + 1 := j_inc1 (by omega)
      obtain ⟨f4, f5, f6⟩ := q6.2.2 f 0 f1 rfl
      obtain ⟨g4, g5, g6⟩ := q6.2.2 g 0 g1 rfl
      obtain ⟨p4, p5, p6⟩ := q6.2.2 p 0 p1 rfl
      obtain ⟨s4, s5, -⟩ := q6.2.2 s 10 s1 rfl
      conv => whnf
      refine ⟨_, rfl, p4, j_vp bu.1 (by rw [p5, p2, X9.2.2.1.2]; omega), ?_⟩
      show j_go _ _ _ _ _ _ _ _ _ _ (j_ui H6 p u.toNatClampNeg (yy + Int32.ofInt 1)) _ _
      have uu := y_ui (k := u.toNatClampNeg) (v := yy + Int32.ofInt 1) q6.1 p4
      generalize j_ui H6 p u.toNatClampNeg (yy + Int32.ofInt 1) = H5 at uu ⊢
      obtain ⟨w5, e5, k5, n5, p7⟩ := uu
      have E5 := (e5.tr q6.2.1)
      exact j_use hF (b157 (Int32.ofInt 1) H5 _ _ (Or.inr rfl) (fun sw2 s01 hs => ⟨w5, by rw [(k5 s).1, (k5 s).2]; exact ⟨s4, s5.trans (s2.trans X9.2.1.2)⟩, by rw [(k5 p).1, (k5 p).2]; exact ⟨p4, p5.trans (p2.trans X9.2.2.1.2)⟩, s01, fun z => by
        refine ((N5 (fun c => (j_it H9 p c).toInt) (fun c => (j_it H5 p c).toInt) (J7 (hs z).1) (fun i hi ni => ?_) ?_).eq dd.2.1).eq E5
        · show (j_it H5 p i).toInt = (j_it H9 p i).toInt
          rw [p7, if_neg ni, p6, p3]
        · show (j_it H5 p u.toNatClampNeg).toInt = _
          rw [p7, if_pos rfl, ey, hyy, ← n6, dd.2.1.1 6 (by decide)]⟩) (by rw [(k5 f).1, (k5 f).2]; exact ⟨f4, (f5.trans f2).trans kf9.2⟩) (by rw [(k5 g).1, (k5 g).2]; exact ⟨g4, (g5.trans g2).trans kg9.2⟩) (fun j hj => ⟨(n5 f j (Ne.symm nfp)).trans ((f6 j).trans (sp8 j hj).1), (n5 g j (Ne.symm ngp)).trans ((g6 j).trans (sp8 j hj).2)⟩) (fun _ => by
        have a5 : j_sz H5 x 0 = j_sz H8 x 0 := E5.1 0 (by decide)
        rw [a5]
        exact ⟨g8, fun z => by obtain ⟨w, hw⟩ := wd8 z; exact ⟨w, E5.tr hw⟩⟩) (by (try dsimp only); omega) (by (try dsimp only); omega)) (And.intro rfl (And.intro rfl (And.intro rfl (And.intro rfl (And.intro rfl (And.intro rfl (And.intro rfl (And.intro rfl (And.intro rfl (And.intro rfl (And.intro rfl trivial)))))))))))
  conv => whnf
  refine ⟨fun _ => ?_, fun c => absurd (show ¬ (Int32.ofInt 1).toInt = 0 by decide) c⟩
  exact j_use hF (L124 _ _ (by (try dsimp only); omega) (by (try dsimp only); omega)) (And.intro rfl (And.intro rfl (And.intro rfl (And.intro rfl (And.intro rfl (And.intro rfl (And.intro rfl (And.intro rfl (And.intro rfl (And.intro rfl (And.intro rfl trivial)))))))))))
set_option maxHeartbeats 20000000 in
set_option maxRecDepth 20000 in
theorem y_t107 {J : j_J} {x s p L : Nat} {t : Int32} {Z : j_Z} {a : Int32} {d : Int64} {nn : Int32} {f g : Nat} (hJ : j_Cl k_law j_lF j_lP j_no J) (hF : j_Fg J) (hL : L ≤ 2560) (t0 : 0 ≤ t.toInt) (t1 : t.toInt < 16) (n0 : 0 ≤ nn.toInt) (n8 : nn.toInt ≤ 8) {sw : Int32} (nfp : p ≠ f) (ngp : p ≠ g) (nZ : (Z.1 0).toInt = nn.toInt) (eD : ∀ H9, y_W H9 x → z_eq (z_c H9 x) Z → z_dig (z_c H9 x) = d) (b157 : y_B157 J x s p L t Z a d nn f g sw) : y_B107 J x s p L t Z a d nn f g sw := by
  unfold y_B107
  intro r H9 H8 cn sn X9 E9 kf9 kg9 sp9 hr hc hs
  rcases hr with ⟨rfl, q8⟩ | ⟨rfl, H7, N, q7, dd, st⟩
  · exact y_t107a hJ hF hL t0 t1 n0 n8 nfp ngp nZ eD b157 X9 E9 kf9 kg9 sp9 q8 hc hs
  · exact y_t107b hJ hF hL t0 t1 n0 n8 nfp ngp nZ eD b157 X9 E9 kf9 kg9 sp9 q7 dd st hc hs
set_option maxHeartbeats 20000000 in
set_option maxRecDepth 20000 in
theorem y_t60 {J : j_J} {x s p L : Nat} {t : Int32} {Z : j_Z} {a : Int32} {d : Int64} {nn : Int32} {f g : Nat} (hJ : j_Cl k_law j_lF j_lP j_no J) (hF : j_Fg J) (hL : L ≤ 2560) (t0 : 0 ≤ t.toInt) (t1 : t.toInt < 16) (n0 : 0 ≤ nn.toInt) (n8 : nn.toInt ≤ 8) {sw : Int32} (nfp : p ≠ f) (ngp : p ≠ g) (nfg : f ≠ g) (nZ : (Z.1 0).toInt = nn.toInt) (b107 : y_B107 J x s p L t Z a d nn f g sw) {H9 : j_H} {cn sn : Nat} (X9 : y_X x s p L sw H9) (E9 : z_eq (z_c H9 x) Z) (kf9 : j_kd H9 f = some (.inr 0) ∧ j_ln H9 f = nn.toNatClampNeg) (kg9 : j_kd H9 g = some (.inr 0) ∧ j_ln H9 g = nn.toNatClampNeg) (hc : cn ≤ 200 + 450 * t.toInt.toNat + 3) (hs : sn ≤ 2000 + 3000 * t.toInt.toNat + 22) : J 60 [some (j_r (some s)), some (j_r (some x)), some (j_r (some p)), some (j_i sw), some (j_i t), some (j_i a), some (j_l d), none, some (j_i nn), some (j_r (some f)), some (j_r (some g)), some (j_i (Int32.ofInt 0)), none] [] H9 cn sn := by
  have zero : (Int32.ofInt 0).toInt = 0 := by decide
  have one : (Int32.ofInt 1).toInt = 1 := by decide
  have cln := j_clamp n0
  have L60 : ∀ (k : Nat) (v : Int32) (H9 : j_H) (cn sn : Nat), y_X x s p L sw H9 → z_eq (z_c H9 x) Z → (j_kd H9 f = some (.inr 0) ∧ j_ln H9 f = nn.toNatClampNeg) → (j_kd H9 g = some (.inr 0) ∧ j_ln H9 g = nn.toNatClampNeg) → y_sp Z H9 f g v.toNatClampNeg → cn ≤ 200 + 450 * t.toInt.toNat + 3 + 2 * v.toInt.toNat → sn ≤ 2000 + 3000 * t.toInt.toNat + 22 + 12 * v.toInt.toNat → 0 ≤ v.toInt → v.toInt ≤ nn.toInt → nn.toInt - v.toInt < (k : Int) → J 60 [some (j_r (some s)), some (j_r (some x)), some (j_r (some p)), some (j_i sw), some (j_i t), some (j_i a), some (j_l d), none, some (j_i nn), some (j_r (some f)), some (j_r (some g)), some (j_i v), none] [] H9 cn sn := by
    intro k
    induction k with
    | zero => intro v H9 cn sn X9 e9 kf9 kg9 sp9 hc hs h0 h1 hm; omega
    | succ k ih2 =>
      intro v H9 cn sn X9 E9 kf9 kg9 sp9 hc hs h0 h1 hm
      have clv := j_clamp h0
      have w9 := X9.1
      have z9 : (j_sz H9 x 0).toInt = nn.toInt := (congrArg Int32.toInt (E9.1 0 (by decide))).trans nZ
      refine hJ [14, 60, 107, 124, 157, 180, 182, 202, 249, 268] 400 _ _ _ _ _ _ ?_
      conv => whnf
      refine ⟨fun c9 => ?_, fun c9 => ?_⟩
      · have c9 : nn.toInt ≤ v.toInt := c9
        rw [show v.toNatClampNeg = nn.toNatClampNeg by omega] at sp9
        conv => whnf
        refine ⟨rfl, _, _, _, _, _, _, c_y_isDone w9, ⟨Nat.le_of_ble_eq_true rfl, Nat.le_of_ble_eq_true rfl, by (try dsimp only); omega, by (try dsimp only); omega⟩, fun _ _ z => False.elim z, ?_⟩
        rintro v9 H8 ⟨r, rfl, hr⟩
        conv => whnf
        exact j_use hF (b107 r H9 H8 _ _ X9 E9 kf9 kg9 sp9 hr (by (try dsimp only); omega) (by (try dsimp only); omega)) (And.intro rfl (And.intro rfl (And.intro rfl (And.intro rfl (And.intro rfl (And.intro rfl (And.intro rfl (And.intro rfl (And.intro rfl (And.intro rfl (And.intro rfl trivial)))))))))))
      · have c9 : ¬ nn.toInt ≤ v.toInt := c9
        have tv : (v + Int32.ofInt 1).toInt = v.toInt + 1 := j_inc1 (by omega)
        have ctv := j_clamp (i := v + Int32.ofInt 1) (by omega)
        conv => whnf
        refine ⟨w9.1.1, rfl, _, _, _, _, _, _, y_spanq w9 ⟨h0, by omega⟩ (Or.inl (by decide)) (by decide), ⟨Nat.le_of_ble_eq_true rfl, Nat.le_of_ble_eq_true rfl, by (try dsimp only); omega, by (try dsimp only); omega⟩, fun _ _ z => False.elim z, ?_⟩
        rintro o9 h9 ⟨e9, er9⟩
        obtain ⟨r1, hr1⟩ : ∃ r, r = z_eO Z v.toNatClampNeg (Int32.ofInt (-1)) (Int32.ofInt (-1)) := ⟨_, rfl⟩
        obtain rfl : o9 = some (j_i r1) := er9.trans (congrArg (fun r => some (j_i r)) (by rw [hr1]; exact z_eO_c E9 (y_bd w9.1).2.1.1))
        obtain rfl : H9 = h9 := e9.symm
        clear er9 e9
        conv => whnf
        refine ⟨_, rfl, kf9.1, j_vp (by omega) (by rw [kf9.2]; omega), ?_⟩
        show j_go _ _ _ _ _ _ _ _ _ _ (j_ui H9 f v.toNatClampNeg r1) _ _
        have u := y_ui (k := v.toNatClampNeg) (v := r1) w9 kf9.1
        have nt : y_J (z_c (j_ui H9 f v.toNatClampNeg r1) x) (fun c => (j_it (j_ui H9 f v.toNatClampNeg r1) p c).toInt) ∨ True := Or.inr trivial
        clear nt
        generalize j_ui H9 f v.toNatClampNeg r1 = H8 at u ⊢
        obtain ⟨w8, e8, k8, n8, f8⟩ := u
        have X8 : y_X x s p L sw H8 := ⟨w8, by rw [(k8 s).1, (k8 s).2]; exact X9.2.1, by rw [(k8 p).1, (k8 p).2]; exact X9.2.2.1, X9.2.2.2.1, fun z => by
          rw [show (fun c => (j_it H8 p c).toInt) = (fun c => (j_it H9 p c).toInt) from funext (fun c => by rw [n8 p c nfp])]
          exact (X9.2.2.2.2 z).eq e8⟩
        have E8 := e8.tr E9
        have kf8 : j_kd H8 f = some (.inr 0) ∧ j_ln H8 f = nn.toNatClampNeg := by rw [(k8 f).1, (k8 f).2]; exact kf9
        have kg8 : j_kd H8 g = some (.inr 0) ∧ j_ln H8 g = nn.toNatClampNeg := by rw [(k8 g).1, (k8 g).2]; exact kg9
        have z8 : (j_sz H8 x 0).toInt = nn.toInt := (congrArg Int32.toInt (E8.1 0 (by decide))).trans nZ
        conv => whnf
        refine ⟨w8.1.1, rfl, _, _, _, _, _, _, y_spanq w8 ⟨h0, by omega⟩ (Or.inl (by decide)) (by decide), ⟨Nat.le_of_ble_eq_true rfl, Nat.le_of_ble_eq_true rfl, by (try dsimp only); omega, by (try dsimp only); omega⟩, fun _ _ z => False.elim z, ?_⟩
        rintro o9 h9 ⟨e9, er9⟩
        obtain ⟨r2, hr2⟩ : ∃ r, r = z_lO Z v.toNatClampNeg (Int32.ofInt (-1)) (Int32.ofInt (-1)) := ⟨_, rfl⟩
        obtain rfl : o9 = some (j_i r2) := er9.trans (congrArg (fun r => some (j_i r)) (by rw [hr2]; exact z_lO_c E8 (y_bd w8.1).2.1.1))
        obtain rfl : H8 = h9 := e9.symm
        clear er9 e9
        conv => whnf
        refine ⟨_, rfl, kg8.1, j_vp (by omega) (by rw [kg8.2]; omega), ?_⟩
        show j_go _ _ _ _ _ _ _ _ _ _ (j_ui H8 g v.toNatClampNeg r2) _ _
        have u := y_ui (k := v.toNatClampNeg) (v := r2) w8 kg8.1
        generalize j_ui H8 g v.toNatClampNeg r2 = H7 at u ⊢
        obtain ⟨w7, e7, k7, n7, g7⟩ := u
        have X7 : y_X x s p L sw H7 := ⟨w7, by rw [(k7 s).1, (k7 s).2]; exact X8.2.1, by rw [(k7 p).1, (k7 p).2]; exact X8.2.2.1, X8.2.2.2.1, fun z => by
          rw [show (fun c => (j_it H7 p c).toInt) = (fun c => (j_it H8 p c).toInt) from funext (fun c => by rw [n7 p c ngp])]
          exact (X8.2.2.2.2 z).eq e7⟩
        have sp7 : y_sp Z H7 f g (v + Int32.ofInt 1).toNatClampNeg := by
          intro j hj
          rw [n7 f j nfg, f8, g7, n8 g j (Ne.symm nfg)]
          by_cases z : j = v.toNatClampNeg
          · rw [if_pos z, if_pos z, z]
            exact ⟨hr1, hr2⟩
          · rw [if_neg z, if_neg z]
            exact sp9 j (by omega)
        conv => whnf
        exact j_use hF (ih2 (v + Int32.ofInt 1) H7 _ _ X7 (e7.tr E8) (by rw [(k7 f).1, (k7 f).2]; exact kf8) (by rw [(k7 g).1, (k7 g).2]; exact kg8) sp7 (by (try dsimp only); omega) (by (try dsimp only); omega) (by omega) (by omega) (by omega)) (And.intro rfl (And.intro rfl (And.intro rfl (And.intro rfl (And.intro rfl (And.intro rfl (And.intro rfl (And.intro rfl (And.intro rfl (And.intro rfl (And.intro rfl trivial)))))))))))
  exact L60 100 (Int32.ofInt 0) H9 _ _ X9 E9 kf9 kg9 (fun j hj => absurd hj (by rw [show (Int32.ofInt 0).toNatClampNeg = 0 by decide]; omega)) (by rw [zero]; (try dsimp only); omega) (by rw [zero]; (try dsimp only); omega) (by decide) (by rw [zero]; omega) (by rw [zero]; omega)
set_option maxHeartbeats 40000000 in
set_option maxRecDepth 20000 in
theorem j_lawstart {J : j_J} {L s : Nat} {h0 : j_H} (hJ : j_Cl k_law j_lF j_lP j_no J) (hF : j_Fg J) (hL : L ≤ 2560) (ks : j_kd h0 s = some (.inr 10)) (ls : j_ln h0 s = L) (hk : ∀ q c, j_kd h0 q ≠ some (.inl c)) (hz : ∃ z t, j_st h0 0 = some z ∧ j_kd h0 z = some (.inr t) ∧ t % 10 = 2 ∧ j_ln h0 z = 0) : J 0 [some (j_r (some s)), none, none, none, none, none, none, none, none, none, none, none, none] [] h0 0 0 := by
  have zero : (Int32.ofInt 0).toInt = 0 := by decide
  have one : (Int32.ofInt 1).toInt = 1 := by decide
  refine hJ [14, 60, 107, 124, 157, 180, 182, 202, 249, 268] 400 _ _ _ _ _ _ ?_
  conv => whnf
  refine ⟨rfl, _, _, _, _, _, _, c_y_mk ks ls hL hk hz, ⟨Nat.le_of_ble_eq_true rfl, Nat.le_of_ble_eq_true rfl, Nat.le_of_ble_eq_true rfl, Nat.le_of_ble_eq_true rfl⟩, fun _ _ z => False.elim z, ?_⟩
  rintro v9 h1 ⟨x, rfl, w1, J1, c1⟩
  conv => whnf
  refine ⟨⟨by decide, Nat.le_of_ble_eq_true rfl⟩, ⟨Nat.le_of_ble_eq_true rfl, Nat.le_of_ble_eq_true rfl⟩, fun p hp => ?_⟩
  show j_go _ _ _ _ _ _ _ _ _ _ (j_nw h1 p (.inr 0) (Int32.ofInt 2).toNatClampNeg) _ _
  have nw := y_nw (n := (Int32.ofInt 2).toNatClampNeg) w1 hp
  have np : ∀ c, j_it (j_nw h1 p (.inr 0) (Int32.ofInt 2).toNatClampNeg) p c = 0 := fun c => if_pos rfl
  have n2 : (Int32.ofInt 2).toNatClampNeg = 2 := by decide
  rw [n2] at nw np ⊢
  generalize j_nw h1 p (.inr 0) 2 = h2 at nw np ⊢
  obtain ⟨w2, e2, a2, kp, lp⟩ := nw
  obtain ⟨s1, s2, -⟩ := a2 s 10 c1.1 rfl
  have X2 : y_X x s p L (Int32.ofInt 0) h2 := ⟨w2, ⟨s1, s2.trans c1.2⟩, ⟨kp, lp⟩, Or.inl rfl, fun _ => by
    rw [show (fun c => (j_it h2 p c).toInt) = (fun _ => (0 : Int)) from funext (fun c => by rw [np]; rfl)]
    exact J1.eq e2⟩
  clear np
  have L14 : ∀ (k : Nat) (t sw : Int32) (H : j_H) (cn sn : Nat), y_X x s p L sw H → cn ≤ 200 + 450 * t.toInt.toNat → sn ≤ 2000 + 3000 * t.toInt.toNat → 0 ≤ t.toInt → t.toInt ≤ 16 → 16 - t.toInt < (k : Int) → J 14 [some (j_r (some s)), some (j_r (some x)), some (j_r (some p)), some (j_i sw), some (j_i t), none, none, none, none, none, none, none, none] [] H cn sn := by
    intro k
    induction k with
    | zero => intro t sw H cn sn X hc hs h0 h1 hm; omega
    | succ k ih =>
      intro t sw H cn sn X hc hs h0 h1 hm
      have z16 : ((Int8.ofInt 16).toInt32).toInt = 16 := by decide
      have z10 : ((Int8.ofInt 10).toInt32).toInt = 10 := by decide
      refine hJ [14, 60, 107, 124, 157, 180, 182, 202, 249, 268] 400 _ _ _ _ _ _ ?_
      conv => whnf
      refine ⟨fun c => ?_, fun c => ?_⟩
      · have w := X.1
        conv => whnf
        refine ⟨w.1.1, rfl, _, _, _, _, _, _, y_digest w, ⟨Nat.le_of_ble_eq_true rfl, Nat.le_of_ble_eq_true rfl, by (try dsimp only); omega, by (try dsimp only); omega⟩, fun _ _ z => False.elim z, ?_⟩
        rintro v9 h1 ⟨q1, rfl⟩
        conv => whnf
        refine ⟨q1.1.1.1, rfl, _, _, _, _, _, _, y_isSound q1.1, ⟨Nat.le_of_ble_eq_true rfl, Nat.le_of_ble_eq_true rfl, by (try dsimp only); omega, by (try dsimp only); omega⟩, fun _ _ z => False.elim z, ?_⟩
        rintro v9 h2 ⟨q2, rfl⟩
        conv => whnf
        refine ⟨fun c => absurd (show (Int32.ofInt 1).toInt = 0 from c) (by decide), fun _ => ?_⟩
        conv => whnf
        refine ⟨q2.1.1.1, rfl, _, _, _, _, _, _, y_digest q2.1, ⟨Nat.le_of_ble_eq_true rfl, Nat.le_of_ble_eq_true rfl, by (try dsimp only); omega, by (try dsimp only); omega⟩, fun _ _ z => False.elim z, ?_⟩
        rintro v9 h3 ⟨q3, rfl⟩
        have ed : z_dig (z_c h2 x) = z_dig (z_c H x) := y_dg (q1.tr q2)
        conv => whnf
        refine ⟨fun c => absurd (show (lg_cmp _ _).toInt = 0 by rw [ed]; exact j_cmp0 _) c, fun _ => ?_⟩
        conv => whnf
        exact ⟨Or.inr rfl, ⟨by (try dsimp only); omega, by (try dsimp only); omega⟩, rfl⟩
      · have c : ¬ ((Int8.ofInt 16).toInt32).toInt ≤ t.toInt := c
        have tt : (t + Int32.ofInt 1).toInt = t.toInt + 1 := j_inc1 (by omega)
        have e10 : ((Int8.ofInt 10).toInt32 + t).toInt = 10 + t.toInt := by rw [j_addI (by omega) (by omega), z10]
        have w := X.1
        conv => whnf
        refine ⟨rfl, _, _, _, _, _, _, c_y_cell X.2.1.1 rfl (by omega) (by rw [X.2.1.2]; exact hL), ⟨Nat.le_of_ble_eq_true rfl, Nat.le_of_ble_eq_true rfl, by (try dsimp only); omega, by (try dsimp only); omega⟩, fun _ _ z => False.elim z, ?_⟩
        rintro v9 h9 ⟨e9, a, rfl⟩
        obtain rfl : H = h9 := e9.symm
        clear e9
        conv => whnf
        refine ⟨w.1.1, rfl, _, _, _, _, _, _, y_digest w, ⟨Nat.le_of_ble_eq_true rfl, Nat.le_of_ble_eq_true rfl, by (try dsimp only); omega, by (try dsimp only); omega⟩, fun _ _ z => False.elim z, ?_⟩
        rintro o9 h1 ⟨q1, er9⟩
        obtain ⟨d, hd⟩ : ∃ d, d = z_dig (z_c H x) := ⟨_, rfl⟩
        obtain rfl : o9 = some (j_l d) := er9.trans (congrArg (fun r => some (j_l r)) hd.symm)
        clear er9
        conv => whnf
        refine ⟨q1.1.1.1, rfl, _, _, _, _, _, _, y_lab q1.1 (by decide), ⟨Nat.le_of_ble_eq_true rfl, Nat.le_of_ble_eq_true rfl, by (try dsimp only); omega, by (try dsimp only); omega⟩, fun _ _ z => False.elim z, ?_⟩
        rintro o9 h2 ⟨q2, er9⟩
        obtain ⟨nn, hnn⟩ : ∃ r, r = j_sz H x 0 := ⟨_, rfl⟩
        obtain rfl : o9 = some (j_i nn) := er9.trans (congrArg (fun r => some (j_i r)) (by rw [hnn]; exact (show (z_c h1 x).1 0 = (z_c H x).1 0 from q1.2.1.1 0 (by decide))))
        clear er9
        have bd := y_bd w.1
        have nn0 : nn.toInt = (j_sz H x 0).toInt := congrArg Int32.toInt hnn
        have X2 := (X.q q1).q q2
        have w2 := X2.1
        have cln := j_clamp (i := nn) (by omega)
        conv => whnf
        refine ⟨⟨fun z => absurd (j_l0.mp z) (by omega), by omega⟩, ⟨by (try dsimp only); omega, by (try dsimp only); omega⟩, fun f hf => ?_⟩
        show j_go _ _ _ _ _ _ _ _ _ _ (j_nw h2 f (.inr 0) nn.toNatClampNeg) _ _
        have nw := y_nw (n := nn.toNatClampNeg) w2 hf
        have ot : ∀ q t, j_kd h2 q = some (.inr t) → q ≠ f := fun q t z e => by rw [e, hf] at z; cases z
        generalize j_nw h2 f (.inr 0) nn.toNatClampNeg = h3 at nw ⊢
        obtain ⟨w3, e3, a3, kf, lf⟩ := nw
        have X3 := X2.mv w3 e3 a3
        have nfs : s ≠ f := ot s 10 X2.2.1.1
        have nfp : p ≠ f := ot p 0 X2.2.2.1.1
        clear ot
        conv => whnf
        refine ⟨⟨fun z => absurd (j_l0.mp z) (by omega), by omega⟩, ⟨by (try dsimp only); omega, by (try dsimp only); omega⟩, fun g hg => ?_⟩
        show j_go _ _ _ _ _ _ _ _ _ _ (j_nw h3 g (.inr 0) nn.toNatClampNeg) _ _
        have nw := y_nw (n := nn.toNatClampNeg) w3 hg
        have ot : ∀ q t, j_kd h3 q = some (.inr t) → q ≠ g := fun q t z e => by rw [e, hg] at z; cases z
        generalize j_nw h3 g (.inr 0) nn.toNatClampNeg = h4 at nw ⊢
        obtain ⟨w4, e4, a4, kg, lg⟩ := nw
        have X4 := X3.mv w4 e4 a4
        have ngs : s ≠ g := ot s 10 X3.2.1.1
        have ngp : p ≠ g := ot p 0 X3.2.2.1.1
        have nfg : f ≠ g := ot f 0 kf
        clear ot
        obtain ⟨kf4, lf4, -⟩ := a4 f 0 kf rfl
        have lf4 := lf4.trans lf
        obtain ⟨Z, hZ⟩ : ∃ Z, Z = z_c H x := ⟨_, rfl⟩
        have E4 : z_eq (z_c h4 x) Z := by rw [hZ]; exact e4.tr (e3.tr (q2.2.1.tr q1.2.1))
        have eD : ∀ H9, y_W H9 x → z_eq (z_c H9 x) Z → z_dig (z_c H9 x) = d := fun H9 w9 e9 => by
          have b9 := y_bd w9.1
          rw [hd, ← hZ]
          exact z_dig_c e9 b9.1.1 b9.2.1 b9.2.2.1 (z_cP w9.1 w9.2.1)
        have nZ : (Z.1 0).toInt = nn.toInt := by rw [hZ, hnn]; rfl
        have b14 : y_B14 J x s p L t := by
          unfold y_B14
          intro sw9 H9 cn9 sn9 X9 hc9 hs9
          exact ih (t + Int32.ofInt 1) sw9 H9 cn9 sn9 X9 (by omega) (by omega) (by omega) (by omega) (by omega)
        have t1 : t.toInt < 16 := by omega
        have n0 : 0 ≤ nn.toInt := by omega
        have n8 : nn.toInt ≤ 8 := by omega
        have b249 := y_t249 (nn := nn) (Z := Z) (a := a) (d := d) (f := f) (g := g) hJ hF hL h0 t1 n0 n8 (y_t268 (nn := nn) (Z := Z) (a := a) (d := d) (f := f) (g := g) hJ hF hL h0 t1 n0 n8 b14)
        have b182 := y_t182 (nn := nn) (Z := Z) (a := a) (d := d) (f := f) (g := g) hJ hF hL h0 t1 n0 n8 b249
        have b157 := y_t157 hJ hF hL h0 t1 n0 n8 X.2.2.2.1 b182
        have b107 := y_t107 hJ hF hL h0 t1 n0 n8 nfp ngp nZ eD b157
        conv => whnf
        exact j_use hF (y_t60 hJ hF hL h0 t1 n0 n8 nfp ngp nfg nZ b107 X4 E4 ⟨kf4, lf4⟩ ⟨kg, lg⟩ (by (try dsimp only); omega) (by (try dsimp only); omega)) (And.intro rfl (And.intro rfl (And.intro rfl (And.intro rfl (And.intro rfl (And.intro rfl (And.intro rfl (And.intro rfl (And.intro rfl (And.intro rfl (And.intro rfl trivial)))))))))))
  conv => whnf
  exact j_use hF (L14 100 (Int32.ofInt 0) (Int32.ofInt 0) h2 _ _ X2 (by decide) (by decide) (by decide) (by decide) (by decide)) (And.intro rfl (And.intro rfl (And.intro rfl (And.intro rfl (And.intro rfl trivial)))))
