/-! sets of grains in the bits of an int; the fewest -/
def z_bq (s : Int32) (k : Nat) : Bool := s.toBitVec.getLsbD k
theorem z_bq_and {a b : Int32} {k : Nat} : z_bq (a &&& b) k = (z_bq a k && z_bq b k) := by
  unfold z_bq
  rw [Int32.toBitVec_and, BitVec.getLsbD_and]
theorem z_bq_or {a b : Int32} {k : Nat} : z_bq (a ||| b) k = (z_bq a k || z_bq b k) := by
  unfold z_bq
  rw [Int32.toBitVec_or, BitVec.getLsbD_or]
theorem z_bq_xor {a b : Int32} {k : Nat} : z_bq (a ^^^ b) k = (z_bq a k ^^ z_bq b k) := by
  unfold z_bq
  rw [Int32.toBitVec_xor, BitVec.getLsbD_xor]
theorem z_bq_m1 {k : Nat} : z_bq (Int32.ofInt (-1)) k = decide (k < 32) := by
  unfold z_bq
  rw [show (Int32.ofInt (-1)).toBitVec = BitVec.allOnes 32 by decide, BitVec.getLsbD_allOnes]
theorem z_bq_0 {k : Nat} : z_bq (Int32.ofInt 0) k = false := by
  unfold z_bq
  rw [show (Int32.ofInt 0).toBitVec = 0#32 by decide, BitVec.getLsbD_zero]
theorem z_bq0 {a : Int32} : a.toInt = 0 ↔ ∀ k, z_bq a k = false := by
  constructor
  · intro h k
    have e : a = Int32.ofInt 0 := Int32.toInt_inj.mp (h.trans (by decide))
    rw [e]
    exact z_bq_0
  · intro h
    have e : a.toBitVec = 0#32 := BitVec.eq_of_getLsbD_eq (fun i _ => (h i).trans BitVec.getLsbD_zero.symm)
    show a.toBitVec.toInt = 0
    rw [e]
    decide
theorem z_bq1 {a : Int32} (h : ∀ k, z_bq a k = decide (k = 0)) : a.toInt = 1 := by
  have e : a.toBitVec = 1#32 := BitVec.eq_of_getLsbD_eq (fun i _ => by
    have := h i
    unfold z_bq at this
    rw [this, BitVec.getLsbD_one, decide_eq_true (show 0 < 32 by decide), Bool.true_and])
  show a.toBitVec.toInt = 1
  rw [e]
  decide
theorem z_ofn {x : Int32} (h : 0 ≤ x.toInt) : x = Int32.ofInt (x.toNatClampNeg : Int) := by
  rw [j_clamp h, Int32.ofInt_toInt]
theorem z_2p : ∀ i : Nat, i < 32 → (Int32.ofInt 1 <<< (Int32.ofInt (i : Int) &&& 31)).toBitVec = BitVec.twoPow 32 i := by decide +kernel
theorem z_bq_sh {x : Int32} {k n : Nat} (hn : x.toInt = (n : Int)) (h1 : n ≤ 31) : z_bq (Int32.ofInt 1 <<< (x &&& 31)) k = decide (k = n) := by
  have e := z_ofn (x := x) (by omega)
  have c := j_clamp (i := x) (by omega)
  have en : x.toNatClampNeg = n := by omega
  have b := z_2p x.toNatClampNeg (by omega)
  rw [← e, en] at b
  unfold z_bq
  rw [b, BitVec.getLsbD_twoPow, decide_eq_true (show n < 32 by omega), Bool.true_and]
  exact decide_eq_decide.mpr ⟨Eq.symm, Eq.symm⟩
/-- the set of all grains -/
def z_al (x : Int32) : Int32 := (Int32.ofInt 1 <<< (x &&& 31)) - Int32.ofInt 1
theorem z_al9 : ∀ i : Nat, i < 9 → (z_al (Int32.ofInt (i : Int))).toBitVec = BitVec.ofNat 32 (2 ^ i - 1) ∧ 0 ≤ (z_al (Int32.ofInt (i : Int))).toInt ∧ (z_al (Int32.ofInt (i : Int))).toInt ≤ 255 ∧ (Int32.ofInt 1 <<< (Int32.ofInt (i : Int) &&& 31)).toInt = (z_al (Int32.ofInt (i : Int))).toInt + 1 := by
  unfold z_al
  decide +kernel
theorem z_al_b {x : Int32} (h0 : 0 ≤ x.toInt) (h1 : x.toInt ≤ 8) : 0 ≤ (z_al x).toInt ∧ (z_al x).toInt ≤ 255 ∧ (Int32.ofInt 1 <<< (x &&& 31)).toInt = (z_al x).toInt + 1 := by
  have c := j_clamp h0
  have b := z_al9 x.toNatClampNeg (by omega)
  rw [← z_ofn h0] at b
  exact b.2
theorem z_bq_al {x : Int32} {k : Nat} (h0 : 0 ≤ x.toInt) (h1 : x.toInt ≤ 8) : z_bq (z_al x) k = decide (k < x.toNatClampNeg) := by
  have c := j_clamp h0
  have b := (z_al9 x.toNatClampNeg (by omega)).1
  rw [← z_ofn h0] at b
  unfold z_bq
  rw [b, BitVec.getLsbD_ofNat, Nat.testBit_two_pow_sub_one]
  by_cases hk : k < x.toNatClampNeg
  · rw [decide_eq_true hk, decide_eq_true (show k < 32 by omega)]
    rfl
  · rw [decide_eq_false hk, Bool.and_false]
theorem z_m32 : ∀ i : Nat, i < 32 → (BitVec.smod (Int32.ofInt (i : Int) &&& 31).toBitVec 32#32).toNat = i := by decide +kernel
theorem z_bq_sr {a v : Int32} (h0 : 0 ≤ v.toInt) (h1 : v.toInt ≤ 31) {k : Nat} : z_bq ((a >>> (v &&& 31)) &&& Int32.ofInt 1) k = (decide (k = 0) && z_bq a v.toNatClampNeg) := by
  have c := j_clamp h0
  have b := z_m32 v.toNatClampNeg (by omega)
  rw [← z_ofn h0] at b
  rw [z_bq_and, show z_bq (Int32.ofInt 1) k = decide (k = 0) by
    unfold z_bq
    rw [show (Int32.ofInt 1).toBitVec = BitVec.twoPow 32 0 by decide, BitVec.getLsbD_twoPow, decide_eq_true (show 0 < 32 by decide), Bool.true_and]
    exact decide_eq_decide.mpr ⟨Eq.symm, Eq.symm⟩]
  by_cases hk : k = 0
  · subst hk
    rw [Bool.and_comm]
    congr 1
    unfold z_bq
    rw [Int32.toBitVec_shiftRight, BitVec.sshiftRight_eq', BitVec.getLsbD_sshiftRight]
    rw [show (BitVec.smod (v &&& 31).toBitVec 32).toNat = v.toNatClampNeg from b]
    rw [if_pos (show v.toNatClampNeg + 0 < 32 by omega)]
    rfl
  · rw [decide_eq_false hk, Bool.and_false, Bool.false_and]
theorem z_sr0 {a v : Int32} (h0 : 0 ≤ v.toInt) (h1 : v.toInt ≤ 31) (b : z_bq a v.toNatClampNeg = false) : ((a >>> (v &&& 31)) &&& Int32.ofInt 1).toInt = 0 := z_bq0.mpr (fun k => by rw [z_bq_sr h0 h1, b, Bool.and_false])
theorem z_sr1 {a v : Int32} (h0 : 0 ≤ v.toInt) (h1 : v.toInt ≤ 31) (b : z_bq a v.toNatClampNeg = true) : ((a >>> (v &&& 31)) &&& Int32.ofInt 1).toInt = 1 := z_bq1 (fun k => by rw [z_bq_sr h0 h1, b, Bool.and_true])
/-- how many bits: what the library's code works out -/
def z_us (x : Int32) (k : Int32) : Int32 := (x.toUInt32 >>> (k.toUInt32 &&& Int32.toUInt32 31)).toInt32
def z_bc1 (a : Int32) : Int32 := a - (z_us a (Int32.ofInt 1) &&& Int32.ofInt 1431655765)
def z_bc2 (a : Int32) : Int32 := (a &&& Int32.ofInt 858993459) + (z_us a (Int32.ofInt 2) &&& Int32.ofInt 858993459)
def z_bc3 (a : Int32) : Int32 := (a + z_us a (Int32.ofInt 4)) &&& Int32.ofInt 252645135
def z_bc4 (a : Int32) : Int32 := a + z_us a (Int32.ofInt 8)
def z_bc5 (a : Int32) : Int32 := a + z_us a (Int32.ofInt 16)
def z_bc (a : Int32) : Int32 := z_bc5 (z_bc4 (z_bc3 (z_bc2 (z_bc1 a)))) &&& Int32.ofInt 63
set_option maxHeartbeats 4000000 in
set_option maxRecDepth 20000 in
theorem c_bitCountx {h : j_H} {a : Int32} : j_Ct 13 0 0 0 0 [j_i a] h (fun v h' => h' = h ∧ v = some (j_i (z_bc a))) j_no := by
  refine j_intro km_13 (Nat.le_of_ble_eq_true rfl) ?_
  intro J hJ hF
  refine hJ [] 400 _ _ _ _ _ _ ?_
  conv => whnf
  exact ⟨trivial, ⟨Nat.le_of_ble_eq_true rfl, Nat.le_of_ble_eq_true rfl⟩, rfl, rfl⟩
def z_gE (z : j_Z) (k : Nat) : Int32 := z_eO z k (Int32.ofInt (-1)) (Int32.ofInt (-1))
def z_gL (z : j_Z) (k : Nat) : Int32 := z_lO z k (Int32.ofInt (-1)) (Int32.ofInt (-1))
/-- the first at or above the other, they clash; of others those below m -/
def z_cx (z : j_Z) (m i j : Nat) : Bool := (decide (i = j) || (decide (j < m) && decide ((z.2.2.1 j 0).toInt < (z.2.2.1 i 0).toInt))) && decide ((z_gL z j).toInt < (z_gE z i).toInt)
def z_n0 (z : j_Z) : Nat := (z.1 0).toNatClampNeg
/-- those that stay without s agree -/
def z_ag (z : j_Z) (s : Int32) : Prop := ∀ i j, i < z_n0 z → j < z_n0 z → z_bq s i = false → z_bq s j = false → z_cx z (z_n0 z) i j = false
noncomputable def z_ff (z : j_Z) : Nat → Int32
  | 0 => z_al (z.1 0)
  | s + 1 => @ite Int32 ((z_bc (Int32.ofInt (s : Int))).toInt < (z_bc (z_ff z s)).toInt ∧ z_ag z (Int32.ofInt (s : Int))) (Classical.propDecidable _) (Int32.ofInt (s : Int)) (z_ff z s)
noncomputable def z_fw (z : j_Z) : Int32 := z_ff z (z_al (z.1 0)).toNatClampNeg
theorem z_ffT {z : j_Z} {s : Nat} (c : (z_bc (Int32.ofInt (s : Int))).toInt < (z_bc (z_ff z s)).toInt ∧ z_ag z (Int32.ofInt (s : Int))) : z_ff z (s + 1) = Int32.ofInt (s : Int) := if_pos c
theorem z_ffF {z : j_Z} {s : Nat} (c : ¬ ((z_bc (Int32.ofInt (s : Int))).toInt < (z_bc (z_ff z s)).toInt ∧ z_ag z (Int32.ofInt (s : Int)))) : z_ff z (s + 1) = z_ff z s := if_neg c
theorem z_ff_le {z : j_Z} : ∀ s, (z_bc (z_ff z s)).toInt ≤ (z_bc (z_al (z.1 0))).toInt := by
  intro s
  induction s with
  | zero => exact Int.le_refl _
  | succ s ih =>
    by_cases c : (z_bc (Int32.ofInt (s : Int))).toInt < (z_bc (z_ff z s)).toInt ∧ z_ag z (Int32.ofInt (s : Int))
    · rw [z_ffT c]
      omega
    · rw [z_ffF c]
      exact ih
theorem z_fw_m {z : j_Z} (h0 : 0 ≤ (z.1 0).toInt) (h1 : (z.1 0).toInt ≤ 8) : z_ff z ((z_al (z.1 0)).toNatClampNeg + 1) = z_fw z := z_ffF (fun c => by
  have := c.1
  rw [← z_ofn (z_al_b h0 h1).1] at this
  have := z_ff_le (z := z) (z_al (z.1 0)).toNatClampNeg
  omega)
section FC
variable {A B : j_Z}
theorem z_cx_c (e : z_eq A B) (h0 : 0 ≤ (A.1 0).toInt) (h1 : 0 ≤ (A.1 1).toInt) {m i j : Nat} (hi : i < z_n0 A) (hj : j < z_n0 A) : z_cx A m i j = z_cx B m i j := by
  unfold z_cx z_gE z_gL
  rw [e.2.2.1 j 0 (z_ltn h0 hj) (by decide), e.2.2.1 i 0 (z_ltn h0 hi) (by decide), z_lO_c e h1, z_eO_c e h1]
theorem z_ag_c (e : z_eq A B) (h0 : 0 ≤ (A.1 0).toInt) (h1 : 0 ≤ (A.1 1).toInt) {s : Int32} : z_ag A s ↔ z_ag B s := by
  have en : z_n0 B = z_n0 A := by unfold z_n0; rw [e.1 0 (by decide)]
  unfold z_ag
  rw [en]
  constructor
  · intro h i j hi hj bi bj
    rw [← z_cx_c e h0 h1 hi hj]
    exact h i j hi hj bi bj
  · intro h i j hi hj bi bj
    rw [z_cx_c e h0 h1 hi hj]
    exact h i j hi hj bi bj
theorem z_ff_c (e : z_eq A B) (h0 : 0 ≤ (A.1 0).toInt) (h1 : 0 ≤ (A.1 1).toInt) : ∀ s, z_ff A s = z_ff B s := by
  intro s
  induction s with
  | zero =>
    show z_al (A.1 0) = z_al (B.1 0)
    rw [e.1 0 (by decide)]
  | succ s ih =>
    by_cases c : (z_bc (Int32.ofInt (s : Int))).toInt < (z_bc (z_ff A s)).toInt ∧ z_ag A (Int32.ofInt (s : Int))
    · rw [z_ffT c, z_ffT ⟨by rw [← ih]; exact c.1, (z_ag_c e h0 h1).mp c.2⟩]
    · rw [z_ffF c, z_ffF (fun q => c ⟨by rw [ih]; exact q.1, (z_ag_c e h0 h1).mpr q.2⟩)]
      exact ih
theorem z_fw_c (e : z_eq A B) (h0 : 0 ≤ (A.1 0).toInt) (h1 : 0 ≤ (A.1 1).toInt) : z_fw A = z_fw B := by
  unfold z_fw
  rw [z_ff_c e h0 h1, e.1 0 (by decide)]
end FC
theorem z_ha {z : j_Z} {s : Int32} {j : Nat} (h0 : 0 ≤ (z.1 0).toInt) (h1 : (z.1 0).toInt ≤ 8) : z_bq (z_al (z.1 0) &&& (s ^^^ Int32.ofInt (-1))) j = (decide (j < z_n0 z) && !z_bq s j) := by
  rw [z_bq_and, z_bq_xor, z_bq_m1, z_bq_al h0 h1]
  show (decide (j < z_n0 z) && _) = _
  by_cases hj : j < 32
  · rw [decide_eq_true hj, Bool.xor_true]
  · have hz : ¬ j < z_n0 z := by
      unfold z_n0
      have := j_clamp h0
      omega
    rw [decide_eq_false hz, Bool.false_and, Bool.false_and]
/-! the class -/
section FW
variable {h : j_H} {x : Nat} {it : Nat → Nat → Int32}
theorem z_nI (hW : j_WF h x) (I : z_I h x) (sc : j_Sc j_sf h it) {g : Nat} (hg : z_in h x 0 g) : z_in (j_wi h it) x 0 g := by
  have q := (z_notes hW I sc).2.2
  unfold z_in at hg ⊢
  rw [show j_sz (j_wi h it) x 0 = j_sz h x 0 from q.1 0 (by decide)]
  exact hg
theorem z_n1 (hW : j_WF h x) : 0 ≤ (j_sz h x 1).toInt := by
  obtain ⟨kx, hG, L0, L1, L2, e0, l0, e1, l1, -⟩ := hW
  rw [j_sz_e e1]
  exact l1.2.1
theorem z_nE' (hW : j_WF h x) (I : z_I h x) (sc : j_Sc j_sf h it) {g : Nat} {a b : Int32} : z_eO (z_c (j_wi h it) x) g a b = z_eO (z_c h x) g a b := by
  have q := (z_notes hW I sc).2.2
  exact z_eO_c q (by rw [q.1 1 (by decide)]; exact z_n1 hW)
theorem z_nL' (hW : j_WF h x) (I : z_I h x) (sc : j_Sc j_sf h it) {g : Nat} {a b : Int32} : z_lO (z_c (j_wi h it) x) g a b = z_lO (z_c h x) g a b := by
  have q := (z_notes hW I sc).2.2
  exact z_lO_c q (by rw [q.1 1 (by decide)]; exact z_n1 hW)
end FW
/-- what markClashes notes of grain i, of others those below m looked at -/
def z_N (h : j_H) (x : Nat) (it : Nat → Nat → Int32) (m i : Nat) : Prop := it (z_el h x 0 i) 6 = z_gE (z_c h x) i ∧ it (z_el h x 0 i) 7 = z_gL (z_c h x) i ∧ ∀ j, z_bq (it (z_el h x 0 i) 8) j = z_cx (z_c h x) m i j
theorem z_une {f : Nat → Nat → Int32} {q k b j : Nat} {v : Int32} (hne : b ≠ q) : j_u f q k v b j = f b j := by rw [j_uq, if_neg (fun z => hne z.1)]
theorem z_unk {f : Nat → Nat → Int32} {q k b j : Nat} {v : Int32} (hne : j ≠ k) : j_u f q k v b j = f b j := by rw [j_uq, if_neg (fun z => hne z.2)]
theorem z_usm {f : Nat → Nat → Int32} {q k : Nat} {v : Int32} : j_u f q k v q k = v := by rw [j_uq, if_pos ⟨rfl, rfl⟩]
theorem z_N.o {h : j_H} {x : Nat} {it : Nat → Nat → Int32} {m i g f : Nat} {r : Int32} (n : z_N h x it m i) (hne : z_el h x 0 i ≠ g) : z_N h x (j_u it g f r) m i := by
  obtain ⟨a, b, c⟩ := n
  refine ⟨(z_une hne).trans a, (z_une hne).trans b, fun j => ?_⟩
  rw [z_une hne]
  exact c j
set_option maxHeartbeats 4000000 in
set_option maxRecDepth 20000 in
theorem c_Grain_bitx {h : j_H} {y k : Nat} (ky : j_kd h y = some (.inl 4)) (hb : (j_it h y 0).toInt = (k : Int)) (hk : k ≤ 8) : j_Ct 144 0 0 0 0 [j_r (some y)] h (fun v h' => h' = h ∧ ∃ r, v = some (j_i r) ∧ ∀ j, z_bq r j = decide (j = k)) j_no := by
  refine j_intro km_144 (Nat.le_of_ble_eq_true rfl) ?_
  intro J hJ hF
  refine hJ [] 400 _ _ _ _ _ _ ?_
  conv => whnf
  refine ⟨_, rfl, ky, fun x1 ex1 => ?_⟩
  have hx : x1.toInt = (k : Int) := by rw [← ex1]; exact hb
  conv => whnf
  exact ⟨trivial, ⟨Nat.le_of_ble_eq_true rfl, Nat.le_of_ble_eq_true rfl⟩, rfl, _, rfl, fun j => z_bq_sh hx (by omega)⟩
set_option maxHeartbeats 4000000 in
set_option maxRecDepth 20000 in
theorem c_G_allGrainsx {h : j_H} {it : Nat → Nat → Int32} {x : Nat} (hW : j_WF h x) (sc : j_Sc j_sf h it) : j_Ct 80 1 20 0 0 [j_r (some x)] (j_wi h it) (fun v h' => h' = j_wi h it ∧ v = some (j_i (z_al (j_sz h x 0)))) j_no := by
  refine j_intro km_80 (Nat.le_of_ble_eq_true rfl) ?_
  intro J hJ hF
  obtain ⟨kx, hG, L0, L1, L2, e0, l0, e1, l1, e2, l2, ap, pn⟩ := id hW
  have eG : j_sz h x 0 = j_it h L0 2 := j_sz_e e0
  refine hJ [] 400 _ _ _ _ _ _ ?_
  conv => whnf
  refine ⟨_, rfl, kx, fun o1 eo => ?_⟩
  obtain rfl : o1 = some L0 := eo.symm.trans e0
  conv => whnf
  refine ⟨l0.1, rfl, _, _, _, _, _, _, c_AL_size (h := h) l0 sc j_sf_ok, ⟨Nat.le_of_ble_eq_true rfl, Nat.le_of_ble_eq_true rfl, Nat.le_of_ble_eq_true rfl, Nat.le_of_ble_eq_true rfl⟩, fun _ _ z => False.elim z, ?_⟩
  rintro v9 h9 ⟨rfl, rfl⟩
  conv => whnf
  exact ⟨trivial, ⟨Nat.le_of_ble_eq_true rfl, Nat.le_of_ble_eq_true rfl⟩, rfl, by rw [eG]; rfl⟩
set_option maxHeartbeats 4000000 in
set_option maxRecDepth 20000 in
theorem c_G_agreex {h : j_H} {it : Nat → Nat → Int32} {x : Nat} {a s : Int32} (hW : j_WF h x) (I : z_I h x) (sc : j_Sc j_sf h it) (nt : ∀ i, z_in h x 0 i → ∀ j, z_bq (it (z_el h x 0 i) 8) j = z_cx (z_c h x) (z_n0 (z_c h x)) i j) (ha : ∀ j, z_bq a j = (decide (j < z_n0 (z_c h x)) && !z_bq s j)) : j_Ct 79 3 64 0 0 [j_r (some x), j_i a] (j_wi h it) (fun v h' => h' = j_wi h it ∧ ∃ r, v = some (j_i r) ∧ (¬ r.toInt = 0 ↔ z_ag (z_c h x) s) ∧ (r = 0 ∨ r = 1)) j_no := by
  refine j_intro km_79 (Nat.le_of_ble_eq_true rfl) ?_
  intro J hJ hF
  obtain ⟨kx, hG, L0, L1, L2, e0, l0, e1, l1, e2, l2, ap, pn⟩ := id hW
  have b0 := l0.2.1; have d0 := l0.2.2.1
  have eG : j_sz h x 0 = j_it h L0 2 := j_sz_e e0
  have clG := j_clamp b0
  have en : z_n0 (z_c h x) = (j_it h L0 2).toNatClampNeg := by
    show (j_sz h x 0).toNatClampNeg = _
    rw [eG]
  refine hJ [2] 400 _ _ _ _ _ _ ?_
  have L2 : ∀ (m : Nat) (v1 : Int32), 0 ≤ v1.toInt → v1.toInt ≤ (j_it h L0 2).toInt → (∀ i j, i < v1.toNatClampNeg → j < z_n0 (z_c h x) → z_bq s i = false → z_bq s j = false → z_cx (z_c h x) (z_n0 (z_c h x)) i j = false) → (j_it h L0 2).toInt - v1.toInt < (m : Int) → J 2 [some (j_r (some x)), some (j_i a), some (j_i v1), none] [] (j_wi h it) 0 0 := by
    intro m
    induction m with
    | zero => intro v1 hn hl iv hm; omega
    | succ m ih2 =>
      intro v1 hn hl iv hm
      have cl := j_clamp hn
      refine hJ [2] 400 _ _ _ _ _ _ ?_
      conv => whnf
      refine ⟨_, rfl, kx, fun o2 eo => ?_⟩
      obtain rfl : o2 = some L0 := eo.symm.trans e0
      conv => whnf
      refine ⟨l0.1, rfl, _, _, _, _, _, _, c_AL_size (h := h) l0 sc j_sf_ok, ⟨Nat.le_of_ble_eq_true rfl, Nat.le_of_ble_eq_true rfl, Nat.le_of_ble_eq_true rfl, Nat.le_of_ble_eq_true rfl⟩, fun _ _ z => False.elim z, ?_⟩
      rintro v9 h9 ⟨rfl, rfl⟩
      conv => whnf
      refine ⟨fun c3 => ?_, fun c3 => ?_⟩
      · have c3 : (j_it h L0 2).toInt ≤ v1.toInt := c3
        conv => whnf
        refine ⟨Or.inr rfl, ⟨Nat.le_of_ble_eq_true rfl, Nat.le_of_ble_eq_true rfl⟩, rfl, _, rfl, ⟨fun _ => ?_, fun _ => by decide⟩, Or.inr rfl⟩
        intro i j hi hj
        exact iv i j (by omega) hj
      · have c3 : ¬ (j_it h L0 2).toInt ≤ v1.toInt := c3
        have hin : z_in h x 0 v1.toNatClampNeg := by unfold z_in; rw [eG]; omega
        have t14 : (v1 + Int32.ofInt 1).toInt = v1.toInt + 1 := j_inc1 (by omega)
        have cl2 := j_clamp (i := v1 + Int32.ofInt 1) (by omega)
        have ek : (v1 + Int32.ofInt 1).toNatClampNeg = v1.toNatClampNeg + 1 := by omega
        have nx := ih2 (v1 + Int32.ofInt 1) (by omega) (by omega)
        rw [ek] at nx
        conv => whnf
        refine ⟨_, rfl, kx, fun o4 eo => ?_⟩
        obtain rfl : o4 = some L0 := eo.symm.trans e0
        conv => whnf
        refine ⟨l0.1, rfl, _, _, _, _, _, _, c_AL_get (h := h) l0 sc j_sf_ok (by omega) (by omega), ⟨Nat.le_of_ble_eq_true rfl, Nat.le_of_ble_eq_true rfl, Nat.le_of_ble_eq_true rfl, Nat.le_of_ble_eq_true rfl⟩, fun _ _ z => False.elim z, ?_⟩
        rintro v9 h9 ⟨rfl, g5, rfl, kg5, xg5⟩
        have hy := z_el_get e0 xg5
        have num : (it g5 0).toInt = (v1.toNatClampNeg : Int) := by rw [← hy, sc.at (z_k0 hW hin) rfl]; exact I.1.1 _ hin
        conv => whnf
        refine ⟨Or.inr ⟨_, rfl, kg5⟩, ?_⟩
        conv => whnf
        refine ⟨kg5, rfl, _, _, _, _, _, _, c_Grain_bitx (h := j_wi h it) kg5 num (by omega), ⟨Nat.le_of_ble_eq_true rfl, Nat.le_of_ble_eq_true rfl, Nat.le_of_ble_eq_true rfl, Nat.le_of_ble_eq_true rfl⟩, fun _ _ z => False.elim z, ?_⟩
        rintro v9 h9 ⟨rfl, r6, rfl, hr6⟩
        conv => whnf
        refine ⟨fun c7 => ?_, fun c7 => ?_⟩
        · have c7 : (a &&& r6).toInt = 0 := c7
          refine j_use hF (nx (fun i j hi hj si sj => ?_) (by omega)) (And.intro rfl (And.intro rfl (And.intro rfl trivial)))
          by_cases hv : i = v1.toNatClampNeg
          · subst hv
            have q := z_bq0.mp c7 v1.toNatClampNeg
            rw [z_bq_and, hr6, ha, si, decide_eq_true rfl, decide_eq_true (show v1.toNatClampNeg < z_n0 (z_c h x) by omega)] at q
            cases q
          · exact iv i j (by omega) hj si sj
        · have c7 : ¬ (a &&& r6).toInt = 0 := c7
          have sv : z_bq s v1.toNatClampNeg = false := by
            cases hs : z_bq s v1.toNatClampNeg with
            | false => rfl
            | true =>
              refine absurd (z_bq0.mpr (fun k => ?_)) c7
              rw [z_bq_and, hr6]
              by_cases hk : k = v1.toNatClampNeg
              · subst hk
                rw [ha, hs, Bool.not_true, Bool.and_false, Bool.false_and]
              · rw [decide_eq_false hk, Bool.and_false]
          conv => whnf
          refine ⟨_, rfl, kg5, fun x9 ex9 => ?_⟩
          have hx9 : ∀ j, z_bq x9 j = z_cx (z_c h x) (z_n0 (z_c h x)) v1.toNatClampNeg j := by
            intro j
            rw [← ex9, ← hy]
            exact nt _ hin j
          conv => whnf
          refine ⟨fun c10 => ?_, fun c10 => ?_⟩
          · have c10 : (a &&& x9).toInt = 0 := c10
            refine j_use hF (nx (fun i j hi hj si sj => ?_) (by omega)) (And.intro rfl (And.intro rfl (And.intro rfl trivial)))
            by_cases hv : i = v1.toNatClampNeg
            · subst hv
              have q := z_bq0.mp c10 j
              rw [z_bq_and, hx9, ha, sj, decide_eq_true hj] at q
              exact q
            · exact iv i j (by omega) hj si sj
          · have c10 : ¬ (a &&& x9).toInt = 0 := c10
            conv => whnf
            refine ⟨Or.inl rfl, ⟨Nat.le_of_ble_eq_true rfl, Nat.le_of_ble_eq_true rfl⟩, rfl, _, rfl, ⟨fun q => absurd (show (Int32.ofInt (0)).toInt = 0 by decide) q, fun q => absurd (z_bq0.mpr (fun j => ?_)) c10⟩, Or.inl rfl⟩
            rw [z_bq_and, hx9, ha]
            by_cases hj : j < z_n0 (z_c h x)
            · cases hs : z_bq s j with
              | true => rw [Bool.not_true, Bool.and_false, Bool.false_and]
              | false => rw [q _ j (by omega) hj sv hs, Bool.and_false]
            · rw [decide_eq_false hj, Bool.false_and, Bool.false_and]
  have q12 : (Int32.ofInt (0)).toInt = 0 := by decide
  have qc := j_clamp (i := Int32.ofInt 0) (by omega)
  exact j_use hF (L2 10 _ (by omega) (by omega) (fun i j hi _ _ _ => by omega) (by omega)) (And.intro rfl (And.intro rfl (And.intro rfl trivial)))
set_option maxHeartbeats 4000000 in
set_option maxRecDepth 20000 in
theorem c_G_markIfOverx {h : j_H} {it : Nat → Nat → Int32} {x i j m : Nat} {y z : Nat} (hW : j_WF h x) (I : z_I h x) (sc : j_Sc j_sf h it) (hi : z_in h x 0 i) (hj : z_in h x 0 j) (hy : z_el h x 0 i = y) (hz : z_el h x 0 j = z) (ni : z_N h x it j i) (nj : z_N h x it m j) (ky : j_kd h y = some (.inl 4)) (kz : j_kd h z = some (.inl 4)) : j_Ct 116 1 20 0 0 [j_r (some y), j_r (some z)] (j_wi h it) (fun v h' => v = none ∧ ∃ it', h' = j_wi h it' ∧ j_Sc j_sf h it' ∧ (∀ k, z_in h x 0 k → k ≠ i → ∀ m, z_N h x it m k → z_N h x it' m k) ∧ z_N h x it' (j + 1) i) j_no := by
  refine j_intro km_116 (Nat.le_of_ble_eq_true rfl) ?_
  intro J hJ hF
  have hsz : (j_sz h x 0).toInt ≤ 8 := by
    obtain ⟨-, -, L0, L1, L2, e0, l0, -⟩ := hW
    rw [j_sz_e e0]
    exact l0.2.2.1
  have hj8 : (j : Int) < (j_sz h x 0).toInt := hj
  have sk : (¬ ((z_c h x).2.2.1 j 0).toInt < ((z_c h x).2.2.1 i 0).toInt ∨ ¬ (z_gL (z_c h x) j).toInt < (z_gE (z_c h x) i).toInt) → z_N h x it (j + 1) i := by
    intro q
    refine ⟨ni.1, ni.2.1, fun k => (ni.2.2 k).trans ?_⟩
    unfold z_cx
    by_cases hk : k = j
    · subst hk
      rw [decide_eq_false (Nat.lt_irrefl k), Bool.false_and]
      rcases q with q | q
      · rw [decide_eq_false q, Bool.and_false]
      · rw [decide_eq_false q, Bool.and_false, Bool.and_false]
    · rw [show decide (k < j + 1) = decide (k < j) from decide_eq_decide.mpr ⟨fun _ => by omega, fun _ => by omega⟩]
  refine hJ [] 400 _ _ _ _ _ _ ?_
  conv => whnf
  refine ⟨_, rfl, ky, fun x1 ex1 => ?_⟩
  obtain rfl : x1 = (z_c h x).2.2.1 i 0 := by rw [← ex1, ← hy]; exact sc.at (z_k0 hW hi) rfl
  conv => whnf
  refine ⟨_, rfl, kz, fun x2 ex2 => ?_⟩
  obtain rfl : x2 = (z_c h x).2.2.1 j 0 := by rw [← ex2, ← hz]; exact sc.at (z_k0 hW hj) rfl
  conv => whnf
  refine ⟨fun c5 => ?_, fun c5 => ?_⟩
  · have c5 : ((z_c h x).2.2.1 i 0).toInt ≤ ((z_c h x).2.2.1 j 0).toInt := c5
    conv => whnf
    exact ⟨rfl, ⟨Nat.le_of_ble_eq_true rfl, Nat.le_of_ble_eq_true rfl⟩, rfl, _, rfl, sc, fun k _ _ m n => n, sk (Or.inl (by omega))⟩
  · have c5 : ¬ ((z_c h x).2.2.1 i 0).toInt ≤ ((z_c h x).2.2.1 j 0).toInt := c5
    conv => whnf
    refine ⟨_, rfl, ky, fun x6 ex6 => ?_⟩
    obtain rfl : x6 = z_gE (z_c h x) i := by rw [← ex6, ← hy]; exact ni.1
    conv => whnf
    refine ⟨_, rfl, kz, fun x7 ex7 => ?_⟩
    obtain rfl : x7 = z_gL (z_c h x) j := by rw [← ex7, ← hz]; exact nj.2.1
    conv => whnf
    refine ⟨fun c10 => ?_, fun c10 => ?_⟩
    · have c10 : (z_gE (z_c h x) i).toInt ≤ (z_gL (z_c h x) j).toInt := c10
      conv => whnf
      exact ⟨rfl, ⟨Nat.le_of_ble_eq_true rfl, Nat.le_of_ble_eq_true rfl⟩, rfl, _, rfl, sc, fun k _ _ m n => n, sk (Or.inr (by omega))⟩
    · have c10 : ¬ (z_gE (z_c h x) i).toInt ≤ (z_gL (z_c h x) j).toInt := c10
      conv => whnf
      refine ⟨_, rfl, ky, fun x11 ex11 => ?_⟩
      have hx11 : ∀ k, z_bq x11 k = z_cx (z_c h x) j i k := by
        intro k
        rw [← ex11, ← hy]
        exact ni.2.2 k
      conv => whnf
      refine ⟨kz, rfl, _, _, _, _, _, _, c_Grain_bitx (h := j_wi h it) (k := j) kz (by show (it z 0).toInt = _; rw [← hz, sc.at (z_k0 hW hj) rfl]; exact I.1.1 _ hj) (by omega), ⟨Nat.le_of_ble_eq_true rfl, Nat.le_of_ble_eq_true rfl, Nat.le_of_ble_eq_true rfl, Nat.le_of_ble_eq_true rfl⟩, fun _ _ z => False.elim z, ?_⟩
      rintro v9 h9 ⟨rfl, r12, rfl, hr12⟩
      conv => whnf
      refine ⟨_, rfl, ky, ?_⟩
      conv => whnf
      refine ⟨rfl, ⟨Nat.le_of_ble_eq_true rfl, Nat.le_of_ble_eq_true rfl⟩, rfl, j_u it y 8 (x11 ||| r12), rfl, (j_Sc.put sc ky (show j_sf 4 8 = true from rfl)), fun k hk hne m n => n.o (fun q => hne (I.g hk hi (q.trans hy.symm))), ?_⟩
      refine ⟨(z_unk (by decide)).trans ni.1, (z_unk (by decide)).trans ni.2.1, fun k => ?_⟩
      rw [hy, z_usm, z_bq_or, hx11, hr12]
      unfold z_cx
      by_cases hk : k = j
      · subst hk
        rw [decide_eq_true (show k < k + 1 by omega), decide_eq_true (show ((z_c h x).2.2.1 k 0).toInt < ((z_c h x).2.2.1 i 0).toInt by omega), decide_eq_true (show (z_gL (z_c h x) k).toInt < (z_gE (z_c h x) i).toInt by omega), decide_eq_true (rfl : k = k)]
        rw [Bool.or_true, Bool.and_true, Bool.and_true, Bool.or_true]
      · rw [decide_eq_false hk, Bool.or_false]
        rw [show decide (k < j + 1) = decide (k < j) from decide_eq_decide.mpr ⟨fun _ => by omega, fun _ => by omega⟩]
set_option maxHeartbeats 4000000 in
set_option maxRecDepth 20000 in
theorem c_G_markClashesx {h : j_H} {it : Nat → Nat → Int32} {x : Nat} (hW : j_WF h x) (I : z_I h x) (sc : j_Sc j_sf h it) : j_Ct 114 4 90 0 0 [j_r (some x)] (j_wi h it) (fun v h' => v = none ∧ ∃ it', h' = j_wi h it' ∧ j_Sc j_sf h it' ∧ ∀ i, z_in h x 0 i → z_N h x it' (z_n0 (z_c h x)) i) j_no := by
  refine j_intro km_114 (Nat.le_of_ble_eq_true rfl) ?_
  intro J hJ hF
  obtain ⟨kx, hG, L0, L1, L2, e0, l0, e1, l1, e2, l2, ap, pn⟩ := id hW
  have b0 := l0.2.1; have d0 := l0.2.2.1
  have eG : j_sz h x 0 = j_it h L0 2 := j_sz_e e0
  have clG := j_clamp b0
  have en : z_n0 (z_c h x) = (j_it h L0 2).toNatClampNeg := by
    show (j_sz h x 0).toNatClampNeg = _
    rw [eG]
  have zin : ∀ i : Nat, z_in h x 0 i ↔ i < (j_it h L0 2).toNatClampNeg := by
    intro i
    unfold z_in
    rw [eG]
    omega
  refine hJ [2, 78, 91] 400 _ _ _ _ _ _ ?_
  have L2 : ∀ (m : Nat) (v1 : Int32) (it : Nat → Nat → Int32), j_Sc j_sf h it → 0 ≤ v1.toInt → v1.toInt ≤ (j_it h L0 2).toInt → (∀ i, i < v1.toNatClampNeg → z_N h x it 0 i) → (j_it h L0 2).toInt - v1.toInt < (m : Int) → J 2 [some (j_r (some x)), some (j_i v1), none] [] (j_wi h it) 0 0 := by
    intro m
    induction m with
    | zero => intro v1 it sc hn hl iv hm; omega
    | succ m ih2 =>
      intro v1 it sc hn hl iv hm
      have cl := j_clamp hn
      refine hJ [2, 78, 91] 400 _ _ _ _ _ _ ?_
      conv => whnf
      refine ⟨_, rfl, kx, fun o2 eo => ?_⟩
      obtain rfl : o2 = some L0 := eo.symm.trans e0
      conv => whnf
      refine ⟨l0.1, rfl, _, _, _, _, _, _, c_AL_size (h := h) l0 sc j_sf_ok, ⟨Nat.le_of_ble_eq_true rfl, Nat.le_of_ble_eq_true rfl, Nat.le_of_ble_eq_true rfl, Nat.le_of_ble_eq_true rfl⟩, fun _ _ z => False.elim z, ?_⟩
      rintro v9 h9 ⟨rfl, rfl⟩
      conv => whnf
      refine ⟨fun c3 => ?_, fun c3 => ?_⟩
      · have c3 : (j_it h L0 2).toInt ≤ v1.toInt := c3
        have iv0 : ∀ i, i < (j_it h L0 2).toNatClampNeg → z_N h x it 0 i := fun i hi => iv i (by omega)
        clear iv
        have L78 : ∀ (m : Nat) (v4 : Int32) (it : Nat → Nat → Int32), j_Sc j_sf h it → 0 ≤ v4.toInt → v4.toInt ≤ (j_it h L0 2).toInt → (∀ i, i < (j_it h L0 2).toNatClampNeg → z_N h x it (if i < v4.toNatClampNeg then (j_it h L0 2).toNatClampNeg else 0) i) → (j_it h L0 2).toInt - v4.toInt < (m : Int) → J 78 [some (j_r (some x)), some (j_i v4), none] [] (j_wi h it) 0 0 := by
          intro m
          induction m with
          | zero => intro v4 it sc hn hl iv hm; omega
          | succ m ih78 =>
            intro v4 it sc hn hl iv hm
            have cl4 := j_clamp hn
            refine hJ [2, 78, 91] 400 _ _ _ _ _ _ ?_
            conv => whnf
            refine ⟨_, rfl, kx, fun o5 eo => ?_⟩
            obtain rfl : o5 = some L0 := eo.symm.trans e0
            conv => whnf
            refine ⟨l0.1, rfl, _, _, _, _, _, _, c_AL_size (h := h) l0 sc j_sf_ok, ⟨Nat.le_of_ble_eq_true rfl, Nat.le_of_ble_eq_true rfl, Nat.le_of_ble_eq_true rfl, Nat.le_of_ble_eq_true rfl⟩, fun _ _ z => False.elim z, ?_⟩
            rintro v9 h9 ⟨rfl, rfl⟩
            conv => whnf
            refine ⟨fun c6 => ?_, fun c6 => ?_⟩
            · have c6 : (j_it h L0 2).toInt ≤ v4.toInt := c6
              conv => whnf
              refine ⟨rfl, ⟨Nat.le_of_ble_eq_true rfl, Nat.le_of_ble_eq_true rfl⟩, rfl, _, rfl, sc, fun i hi => ?_⟩
              have hi' := (zin i).mp hi
              have := iv i hi'
              rw [if_pos (by omega)] at this
              rw [en]
              exact this
            · have c6 : ¬ (j_it h L0 2).toInt ≤ v4.toInt := c6
              have L91 : ∀ (m : Nat) (v7 : Int32) (it : Nat → Nat → Int32), j_Sc j_sf h it → 0 ≤ v7.toInt → v7.toInt ≤ (j_it h L0 2).toInt → (∀ i, i < (j_it h L0 2).toNatClampNeg → i ≠ v4.toNatClampNeg → z_N h x it (if i < v4.toNatClampNeg then (j_it h L0 2).toNatClampNeg else 0) i) → z_N h x it v7.toNatClampNeg v4.toNatClampNeg → (j_it h L0 2).toInt - v7.toInt < (m : Int) → J 91 [some (j_r (some x)), some (j_i v4), some (j_i v7)] [] (j_wi h it) 0 0 := by
                intro m
                induction m with
                | zero => intro v7 it sc hn hl iv iw hm; omega
                | succ m ih91 =>
                  intro v7 it sc hn hl iv iw hm
                  have cl7 := j_clamp hn
                  refine hJ [2, 78, 91] 400 _ _ _ _ _ _ ?_
                  conv => whnf
                  refine ⟨_, rfl, kx, fun o8 eo => ?_⟩
                  obtain rfl : o8 = some L0 := eo.symm.trans e0
                  conv => whnf
                  refine ⟨l0.1, rfl, _, _, _, _, _, _, c_AL_size (h := h) l0 sc j_sf_ok, ⟨Nat.le_of_ble_eq_true rfl, Nat.le_of_ble_eq_true rfl, Nat.le_of_ble_eq_true rfl, Nat.le_of_ble_eq_true rfl⟩, fun _ _ z => False.elim z, ?_⟩
                  rintro v9 h9 ⟨rfl, rfl⟩
                  conv => whnf
                  refine ⟨fun c9 => ?_, fun c9 => ?_⟩
                  · have c9 : (j_it h L0 2).toInt ≤ v7.toInt := c9
                    have t10 : (v4 + Int32.ofInt 1).toInt = v4.toInt + 1 := j_inc1 (by omega)
                    have cl10 := j_clamp (i := v4 + Int32.ofInt 1) (by omega)
                    refine j_use hF (ih78 _ _ sc (by omega) (by omega) (fun i hi => ?_) (by omega)) (And.intro rfl (And.intro rfl trivial))
                    by_cases hv : i = v4.toNatClampNeg
                    · subst hv
                      rw [if_pos (by omega)]
                      have e7 : v7.toNatClampNeg = (j_it h L0 2).toNatClampNeg := by omega
                      rw [e7] at iw
                      exact iw
                    · have := iv i hi hv
                      by_cases hl : i < v4.toNatClampNeg
                      · rw [if_pos hl] at this
                        rw [if_pos (by omega)]
                        exact this
                      · rw [if_neg hl] at this
                        rw [if_neg (by omega)]
                        exact this
                  · have c9 : ¬ (j_it h L0 2).toInt ≤ v7.toInt := c9
                    have t17 : (v7 + Int32.ofInt 1).toInt = v7.toInt + 1 := j_inc1 (by omega)
                    have cl17 := j_clamp (i := v7 + Int32.ofInt 1) (by omega)
                    have ek : (v7 + Int32.ofInt 1).toNatClampNeg = v7.toNatClampNeg + 1 := by omega
                    have hi4 : z_in h x 0 v4.toNatClampNeg := (zin _).mpr (by omega)
                    have hi7 : z_in h x 0 v7.toNatClampNeg := (zin _).mpr (by omega)
                    have n7 : ∃ m, z_N h x it m v7.toNatClampNeg := by
                      by_cases hv : v7.toNatClampNeg = v4.toNatClampNeg
                      · rw [hv] at iw ⊢
                        exact ⟨_, iw⟩
                      · exact ⟨_, iv _ (by omega) hv⟩
                    obtain ⟨m7, n7⟩ := n7
                    conv => whnf
                    refine ⟨_, rfl, kx, fun o11 eo => ?_⟩
                    obtain rfl : o11 = some L0 := eo.symm.trans e0
                    conv => whnf
                    refine ⟨l0.1, rfl, _, _, _, _, _, _, c_AL_get (h := h) l0 sc j_sf_ok (by omega) (by omega), ⟨Nat.le_of_ble_eq_true rfl, Nat.le_of_ble_eq_true rfl, Nat.le_of_ble_eq_true rfl, Nat.le_of_ble_eq_true rfl⟩, fun _ _ z => False.elim z, ?_⟩
                    rintro v9 h9 ⟨rfl, g12, rfl, kg12, xg12⟩
                    have hy12 := z_el_get e0 xg12
                    conv => whnf
                    refine ⟨Or.inr ⟨_, rfl, kg12⟩, ?_⟩
                    conv => whnf
                    refine ⟨_, rfl, kx, fun o13 eo => ?_⟩
                    obtain rfl : o13 = some L0 := eo.symm.trans e0
                    conv => whnf
                    refine ⟨l0.1, rfl, _, _, _, _, _, _, c_AL_get (h := h) l0 sc j_sf_ok (by omega) (by omega), ⟨Nat.le_of_ble_eq_true rfl, Nat.le_of_ble_eq_true rfl, Nat.le_of_ble_eq_true rfl, Nat.le_of_ble_eq_true rfl⟩, fun _ _ z => False.elim z, ?_⟩
                    rintro v9 h9 ⟨rfl, g14, rfl, kg14, xg14⟩
                    have hy14 := z_el_get e0 xg14
                    conv => whnf
                    refine ⟨Or.inr ⟨_, rfl, kg14⟩, ?_⟩
                    conv => whnf
                    refine ⟨rfl, _, _, _, _, _, _, c_G_markIfOverx (h := h) hW I sc hi4 hi7 hy12 hy14 iw n7 kg12 kg14, ⟨Nat.le_of_ble_eq_true rfl, Nat.le_of_ble_eq_true rfl, Nat.le_of_ble_eq_true rfl, Nat.le_of_ble_eq_true rfl⟩, fun _ _ z => False.elim z, ?_⟩
                    rintro v9 h9 ⟨rfl, it16, rfl, sit16, ot16, nw16⟩
                    refine j_use hF (ih91 _ _ sit16 (by omega) (by omega) (fun i hi hv => ot16 i ((zin i).mpr hi) hv _ (iv i hi hv)) (by rw [ek]; exact nw16) (by omega)) (And.intro rfl (And.intro rfl (And.intro rfl trivial)))
              have q18 : (Int32.ofInt (0)).toInt = 0 := by decide
              have qc := j_clamp (i := Int32.ofInt 0) (by omega)
              have n4 := iv v4.toNatClampNeg (by omega)
              rw [if_neg (Nat.lt_irrefl _)] at n4
              exact j_use hF (L91 10 _ _ sc (by omega) (by omega) (fun i hi _ => iv i hi) (by rw [show (Int32.ofInt 0).toNatClampNeg = 0 by omega]; exact n4) (by omega)) (And.intro rfl (And.intro rfl (And.intro rfl trivial)))
        have q19 : (Int32.ofInt (0)).toInt = 0 := by decide
        have qc := j_clamp (i := Int32.ofInt 0) (by omega)
        exact j_use hF (L78 10 _ _ sc (by omega) (by omega) (fun i hi => by rw [if_neg (by omega)]; exact iv0 i hi) (by omega)) (And.intro rfl (And.intro rfl trivial))
      · have c3 : ¬ (j_it h L0 2).toInt ≤ v1.toInt := c3
        have hin : z_in h x 0 v1.toNatClampNeg := (zin _).mpr (by omega)
        have t34 : (v1 + Int32.ofInt 1).toInt = v1.toInt + 1 := j_inc1 (by omega)
        have cl34 := j_clamp (i := v1 + Int32.ofInt 1) (by omega)
        conv => whnf
        refine ⟨_, rfl, kx, fun o20 eo => ?_⟩
        obtain rfl : o20 = some L0 := eo.symm.trans e0
        conv => whnf
        refine ⟨l0.1, rfl, _, _, _, _, _, _, c_AL_get (h := h) l0 sc j_sf_ok (by omega) (by omega), ⟨Nat.le_of_ble_eq_true rfl, Nat.le_of_ble_eq_true rfl, Nat.le_of_ble_eq_true rfl, Nat.le_of_ble_eq_true rfl⟩, fun _ _ z => False.elim z, ?_⟩
        rintro v9 h9 ⟨rfl, g21, rfl, kg21, xg21⟩
        have hy := z_el_get e0 xg21
        conv => whnf
        refine ⟨Or.inr ⟨_, rfl, kg21⟩, ?_⟩
        conv => whnf
        refine ⟨kx, rfl, _, _, _, _, _, _, c_G_earlyOfx (h := j_wi h it) (hW.sc sc j_sf_ok) (z_notes hW I sc).2.1 (z_nI hW I sc hin) hy, ⟨Nat.le_of_ble_eq_true rfl, Nat.le_of_ble_eq_true rfl, Nat.le_of_ble_eq_true rfl, Nat.le_of_ble_eq_true rfl⟩, fun _ _ z => False.elim z, ?_⟩
        rintro v9 h9 ⟨rfl, rfl⟩
        rw [z_nE' hW I sc]
        have s6 := j_Sc.put (x := z_gE (z_c h x) v1.toNatClampNeg) sc kg21 (show j_sf 4 6 = true from rfl)
        conv => whnf
        refine ⟨_, rfl, kg21, ?_⟩
        conv => whnf
        refine ⟨kx, rfl, _, _, _, _, _, _, c_G_lateOfx (h := j_wi h (j_u it g21 6 (z_gE (z_c h x) v1.toNatClampNeg))) (hW.sc s6 j_sf_ok) (z_notes hW I s6).2.1 (z_nI hW I s6 hin) hy, ⟨Nat.le_of_ble_eq_true rfl, Nat.le_of_ble_eq_true rfl, Nat.le_of_ble_eq_true rfl, Nat.le_of_ble_eq_true rfl⟩, fun _ _ z => False.elim z, ?_⟩
        rintro v9 h9 ⟨rfl, rfl⟩
        rw [z_nL' hW I s6]
        have s7 := j_Sc.put (x := z_gL (z_c h x) v1.toNatClampNeg) s6 kg21 (show j_sf 4 7 = true from rfl)
        conv => whnf
        refine ⟨_, rfl, kg21, ?_⟩
        conv => whnf
        refine ⟨_, rfl, kg21, fun x28 ex28 => ?_⟩
        obtain rfl : x28 = z_gE (z_c h x) v1.toNatClampNeg := by
          rw [← ex28]
          show j_u (j_u it g21 6 (z_gE (z_c h x) v1.toNatClampNeg)) g21 7 (z_gL (z_c h x) v1.toNatClampNeg) g21 6 = _
          rw [z_unk (show (6 : Nat) ≠ 7 by decide), z_usm]
        conv => whnf
        refine ⟨_, rfl, kg21, fun x29 ex29 => ?_⟩
        obtain rfl : x29 = z_gL (z_c h x) v1.toNatClampNeg := by
          rw [← ex29]
          show j_u (j_u it g21 6 (z_gE (z_c h x) v1.toNatClampNeg)) g21 7 (z_gL (z_c h x) v1.toNatClampNeg) g21 7 = _
          rw [z_usm]
        have hb0 : (j_u (j_u it g21 6 (z_gE (z_c h x) v1.toNatClampNeg)) g21 7 (z_gL (z_c h x) v1.toNatClampNeg) g21 0).toInt = (v1.toNatClampNeg : Int) := by
          rw [z_unk (show (0 : Nat) ≠ 7 by decide), z_unk (show (0 : Nat) ≠ 6 by decide), sc.at kg21 rfl, ← hy]
          exact I.1.1 _ hin
        have fin : ∀ r : Int32, (∀ j, z_bq r j = z_cx (z_c h x) 0 v1.toNatClampNeg j) → J 2 [some (j_r (some x)), some (j_i (v1 + Int32.ofInt 1)), none] [] (j_wi h (j_u (j_u (j_u it g21 6 (z_gE (z_c h x) v1.toNatClampNeg)) g21 7 (z_gL (z_c h x) v1.toNatClampNeg)) g21 8 r)) 0 0 := by
          intro r hr
          refine ih2 _ _ (j_Sc.put s7 kg21 (show j_sf 4 8 = true from rfl)) (by omega) (by omega) (fun i hi => ?_) (by omega)
          by_cases hv : i = v1.toNatClampNeg
          · subst hv
            refine ⟨?_, ?_, fun j => ?_⟩
            · rw [hy, z_unk (show (6 : Nat) ≠ 8 by decide), z_unk (show (6 : Nat) ≠ 7 by decide), z_usm]
            · rw [hy, z_unk (show (7 : Nat) ≠ 8 by decide), z_usm]
            · rw [hy, z_usm]
              exact hr j
          · have hne : z_el h x 0 i ≠ g21 := fun q => hv (I.g ((zin i).mpr (by omega)) hin (q.trans hy.symm))
            exact (((iv i (by omega)).o hne).o hne).o hne
        conv => whnf
        refine ⟨fun c32 => ?_, fun c32 => ?_⟩
        · have c32 : (z_gE (z_c h x) v1.toNatClampNeg).toInt ≤ (z_gL (z_c h x) v1.toNatClampNeg).toInt := c32
          conv => whnf
          refine ⟨_, rfl, kg21, ?_⟩
          refine j_use hF (fin (Int32.ofInt 0) (fun j => ?_)) (And.intro rfl (And.intro rfl trivial))
          rw [z_bq_0]
          unfold z_cx
          rw [decide_eq_false (Nat.not_lt_zero j), Bool.false_and, Bool.or_false]
          by_cases hj : v1.toNatClampNeg = j
          · subst hj
            rw [decide_eq_false (show ¬ (z_gL (z_c h x) v1.toNatClampNeg).toInt < (z_gE (z_c h x) v1.toNatClampNeg).toInt by omega), Bool.and_false]
          · rw [decide_eq_false hj, Bool.false_and]
        · have c32 : ¬ (z_gE (z_c h x) v1.toNatClampNeg).toInt ≤ (z_gL (z_c h x) v1.toNatClampNeg).toInt := c32
          conv => whnf
          refine ⟨kg21, rfl, _, _, _, _, _, _, c_Grain_bitx (h := j_wi h (j_u (j_u it g21 6 (z_gE (z_c h x) v1.toNatClampNeg)) g21 7 (z_gL (z_c h x) v1.toNatClampNeg))) (k := v1.toNatClampNeg) kg21 hb0 (by omega), ⟨Nat.le_of_ble_eq_true rfl, Nat.le_of_ble_eq_true rfl, Nat.le_of_ble_eq_true rfl, Nat.le_of_ble_eq_true rfl⟩, fun _ _ z => False.elim z, ?_⟩
          rintro v9 h9 ⟨rfl, r35, rfl, hr35⟩
          conv => whnf
          refine ⟨_, rfl, kg21, ?_⟩
          refine j_use hF (fin r35 (fun j => ?_)) (And.intro rfl (And.intro rfl trivial))
          rw [hr35]
          unfold z_cx
          rw [decide_eq_false (Nat.not_lt_zero j), Bool.false_and, Bool.or_false]
          by_cases hj : v1.toNatClampNeg = j
          · subst hj
            rw [decide_eq_true (show (z_gL (z_c h x) v1.toNatClampNeg).toInt < (z_gE (z_c h x) v1.toNatClampNeg).toInt by omega), Bool.and_true]
          · rw [decide_eq_false hj, decide_eq_false (fun q => hj q.symm), Bool.false_and]
  have q38 : (Int32.ofInt (0)).toInt = 0 := by decide
  have qc := j_clamp (i := Int32.ofInt 0) (by omega)
  exact j_use hF (L2 10 _ _ sc (by omega) (by omega) (fun i hi => by omega) (by omega)) (And.intro rfl (And.intro rfl trivial))
set_option maxHeartbeats 4000000 in
set_option maxRecDepth 20000 in
theorem c_G_findFewestx {h : j_H} {it : Nat → Nat → Int32} {x : Nat} (hW : j_WF h x) (I : z_I h x) (sc : j_Sc j_sf h it) : j_Ct 100 5 112 0 0 [j_r (some x)] (j_wi h it) (fun v h' => v = some (j_i (z_fw (z_c h x))) ∧ ∃ it', h' = j_wi h it' ∧ j_Sc j_sf h it' ∧ ∀ i, z_in h x 0 i → z_N h x it' (z_n0 (z_c h x)) i) j_no := by
  refine j_intro km_100 (Nat.le_of_ble_eq_true rfl) ?_
  intro J hJ hF
  obtain ⟨kx, hG, L0, L1, L2, e0, l0, e1, l1, e2, l2, ap, pn⟩ := id hW
  have b0 := l0.2.1; have d0 := l0.2.2.1
  have eG : j_sz h x 0 = j_it h L0 2 := j_sz_e e0
  have g0 : 0 ≤ (j_sz h x 0).toInt := by rw [eG]; exact b0
  have g8 : (j_sz h x 0).toInt ≤ 8 := by rw [eG]; exact d0
  obtain ⟨al0, al1, -⟩ := z_al_b g0 g8
  have cal := j_clamp al0
  refine hJ [13] 400 _ _ _ _ _ _ ?_
  conv => whnf
  refine ⟨kx, rfl, _, _, _, _, _, _, c_G_markClashesx (h := h) hW I sc, ⟨Nat.le_of_ble_eq_true rfl, Nat.le_of_ble_eq_true rfl, Nat.le_of_ble_eq_true rfl, Nat.le_of_ble_eq_true rfl⟩, fun _ _ z => False.elim z, ?_⟩
  rintro v9 h9 ⟨rfl, it2, rfl, sit2, nt⟩
  conv => whnf
  refine ⟨kx, rfl, _, _, _, _, _, _, c_G_allGrainsx (h := h) hW sit2, ⟨Nat.le_of_ble_eq_true rfl, Nat.le_of_ble_eq_true rfl, Nat.le_of_ble_eq_true rfl, Nat.le_of_ble_eq_true rfl⟩, fun _ _ z => False.elim z, ?_⟩
  rintro v9 h9 ⟨rfl, rfl⟩
  have L13 : ∀ (m : Nat) (v6 : Int32), 0 ≤ v6.toInt → v6.toInt ≤ (z_al (j_sz h x 0)).toInt → (z_al (j_sz h x 0)).toInt - v6.toInt < (m : Int) → J 13 [some (j_r (some x)), some (j_i (z_al (j_sz h x 0))), some (j_i (z_ff (z_c h x) v6.toNatClampNeg)), some (j_i v6)] [] (j_wi h it2) 0 0 := by
    intro m
    induction m with
    | zero => intro v6 hn hl hm; omega
    | succ m ih13 =>
      intro v6 hn hl hm
      have cl := j_clamp hn
      refine hJ [13] 400 _ _ _ _ _ _ ?_
      conv => whnf
      refine ⟨fun c8 => ?_, fun c8 => ?_⟩
      · have c8 : (z_al (j_sz h x 0)).toInt ≤ v6.toInt := c8
        have ev : v6.toNatClampNeg = (z_al (j_sz h x 0)).toNatClampNeg := by omega
        conv => whnf
        exact ⟨trivial, ⟨Nat.le_of_ble_eq_true rfl, Nat.le_of_ble_eq_true rfl⟩, by rw [ev]; rfl, _, rfl, sit2, nt⟩
      · have c8 : ¬ (z_al (j_sz h x 0)).toInt ≤ v6.toInt := c8
        have t14 : (v6 + Int32.ofInt 1).toInt = v6.toInt + 1 := j_inc1 (by omega)
        have cl14 := j_clamp (i := v6 + Int32.ofInt 1) (by omega)
        have ek : (v6 + Int32.ofInt 1).toNatClampNeg = v6.toNatClampNeg + 1 := by omega
        have nx := ih13 (v6 + Int32.ofInt 1) (by omega) (by omega) (by omega)
        rw [ek] at nx
        have eo := z_ofn hn
        conv => whnf
        refine ⟨rfl, _, _, _, _, _, _, c_bitCountx, ⟨Nat.le_of_ble_eq_true rfl, Nat.le_of_ble_eq_true rfl, Nat.le_of_ble_eq_true rfl, Nat.le_of_ble_eq_true rfl⟩, fun _ _ z => False.elim z, ?_⟩
        rintro v9 h9 ⟨rfl, rfl⟩
        conv => whnf
        refine ⟨rfl, _, _, _, _, _, _, c_bitCountx, ⟨Nat.le_of_ble_eq_true rfl, Nat.le_of_ble_eq_true rfl, Nat.le_of_ble_eq_true rfl, Nat.le_of_ble_eq_true rfl⟩, fun _ _ z => False.elim z, ?_⟩
        rintro v9 h9 ⟨rfl, rfl⟩
        conv => whnf
        refine ⟨fun c13 => ?_, fun c13 => ?_⟩
        · have c13 : (z_bc (z_ff (z_c h x) v6.toNatClampNeg)).toInt ≤ (z_bc v6).toInt := c13
          rw [z_ffF (fun q => by have q1 := q.1; rw [← eo] at q1; omega)] at nx
          exact j_use hF nx (And.intro rfl (And.intro rfl (And.intro rfl (And.intro rfl trivial))))
        · have c13 : ¬ (z_bc (z_ff (z_c h x) v6.toNatClampNeg)).toInt ≤ (z_bc v6).toInt := c13
          conv => whnf
          refine ⟨kx, rfl, _, _, _, _, _, _, c_G_agreex (h := h) (s := v6) hW I sit2 (fun i hi => (nt i hi).2.2) (fun j => z_ha (z := z_c h x) g0 g8), ⟨Nat.le_of_ble_eq_true rfl, Nat.le_of_ble_eq_true rfl, Nat.le_of_ble_eq_true rfl, Nat.le_of_ble_eq_true rfl⟩, fun _ _ z => False.elim z, ?_⟩
          rintro v9 h9 ⟨rfl, r15, rfl, zr15, -⟩
          conv => whnf
          refine ⟨fun c17 => ?_, fun c17 => ?_⟩
          · have c17 : r15.toInt = 0 := c17
            rw [z_ffF (fun q => zr15.mpr (by have q2 := q.2; rw [← eo] at q2; exact q2) c17)] at nx
            exact j_use hF nx (And.intro rfl (And.intro rfl (And.intro rfl (And.intro rfl trivial))))
          · have c17 : ¬ r15.toInt = 0 := c17
            rw [z_ffT ⟨by rw [← eo]; omega, by rw [← eo]; exact zr15.mp c17⟩, ← eo] at nx
            exact j_use hF nx (And.intro rfl (And.intro rfl (And.intro rfl (And.intro rfl trivial))))
  have q20 : (Int32.ofInt (0)).toInt = 0 := by decide
  have qc := j_clamp (i := Int32.ofInt 0) (by omega)
  have st := L13 256 (Int32.ofInt 0) (by omega) (by omega) (by omega)
  rw [show (Int32.ofInt 0).toNatClampNeg = 0 by omega] at st
  exact j_use hF st (And.intro rfl (And.intro rfl (And.intro rfl (And.intro rfl trivial))))
