/-! sets of grains in the bits of an int; the fewest -/
def z_bq (s : Int32) (k : Nat) : Bool := s.toBitVec.getLsbD k
theorem z_bq_and {a b : Int32} {k : Nat} : z_bq (a &&& b) k = (z_bq a k && z_bq b k) := by
  unfold z_bq
  rw [Int32.toBitVec_and, BitVec.getLsbD_and]
theorem z_bq_or {a b : Int32} {k : Nat} : z_bq (a ||| b) k = (z_bq a k || z_bq b k) := by
  unfold z_bq
  rw [Int32.toBitVec_or, BitVec.getLsbD_or]
theorem z_bq_xor {a b : Int32} {k : Nat} : z_bq (a ^^^ b) k = (z_bq a k ^^ z_bq b k) := by
  unfold z_bq
  rw [Int32.toBitVec_xor, BitVec.getLsbD_xor]
theorem z_bq_m1 {k : Nat} : z_bq (Int32.ofInt (-1)) k = decide (k < 32) := by
  unfold z_bq
  rw [show (Int32.ofInt (-1)).toBitVec = BitVec.allOnes 32 by decide, BitVec.getLsbD_allOnes]
theorem z_bq_0 {k : Nat} : z_bq (Int32.ofInt 0) k = false := by
  unfold z_bq
  rw [show (Int32.ofInt 0).toBitVec = 0#32 by decide, BitVec.getLsbD_zero]
theorem z_ofn {x : Int32} (h : 0 ≤ x.toInt) : x = Int32.ofInt (x.toNatClampNeg : Int) := by
  rw [j_clamp h, Int32.ofInt_toInt]
theorem z_2p : ∀ i : Nat, i < 32 → (Int32.ofInt 1 <<< (Int32.ofInt (i : Int) &&& 31)).toBitVec = BitVec.twoPow 32 i := by decide +kernel
theorem z_bq_sh {x : Int32} {k n : Nat} (hn : x.toInt = (n : Int)) (h1 : n ≤ 31) : z_bq (Int32.ofInt 1 <<< (x &&& 31)) k = decide (k = n) := by
  have e := z_ofn (x := x) (by omega)
  have c := j_clamp (i := x) (by omega)
  have en : x.toNatClampNeg = n := by omega
  have b := z_2p x.toNatClampNeg (by omega)
  rw [← e, en] at b
  unfold z_bq
  rw [b, BitVec.getLsbD_twoPow, decide_eq_true (show n < 32 by omega), Bool.true_and]
  exact decide_eq_decide.mpr ⟨Eq.symm, Eq.symm⟩
/-- how many bits: what the library's code works out -/
def z_us (x : Int32) (k : Int32) : Int32 := (x.toUInt32 >>> (k.toUInt32 &&& Int32.toUInt32 31)).toInt32
def z_bc1 (a : Int32) : Int32 := a - (z_us a (Int32.ofInt 1) &&& Int32.ofInt 1431655765)
def z_bc2 (a : Int32) : Int32 := (a &&& Int32.ofInt 858993459) + (z_us a (Int32.ofInt 2) &&& Int32.ofInt 858993459)
def z_bc3 (a : Int32) : Int32 := (a + z_us a (Int32.ofInt 4)) &&& Int32.ofInt 252645135
def z_bc4 (a : Int32) : Int32 := a + z_us a (Int32.ofInt 8)
def z_bc5 (a : Int32) : Int32 := a + z_us a (Int32.ofInt 16)
def z_bc (a : Int32) : Int32 := z_bc5 (z_bc4 (z_bc3 (z_bc2 (z_bc1 a)))) &&& Int32.ofInt 63
set_option maxHeartbeats 4000000 in
set_option maxRecDepth 20000 in
theorem c_bitCountx {h : j_H} {a : Int32} : j_Ct 13 0 0 0 0 [j_i a] h (fun v h' => h' = h ∧ v = some (j_i (z_bc a))) j_no := by
  refine j_intro km_13 (Nat.le_of_ble_eq_true rfl) ?_
  intro J hJ hF
  refine hJ [] 400 _ _ _ _ _ _ ?_
  conv => whnf
  exact ⟨trivial, ⟨Nat.le_of_ble_eq_true rfl, Nat.le_of_ble_eq_true rfl⟩, rfl, rfl⟩
section FC
variable {A B : j_Z}
end FC
/-! the class -/
section FW
variable {h : j_H} {x : Nat} {it : Nat → Nat → Int32}
end FW
theorem z_une {f : Nat → Nat → Int32} {q k b j : Nat} {v : Int32} (hne : b ≠ q) : j_u f q k v b j = f b j := by rw [j_uq, if_neg (fun z => hne z.1)]
theorem z_unk {f : Nat → Nat → Int32} {q k b j : Nat} {v : Int32} (hne : j ≠ k) : j_u f q k v b j = f b j := by rw [j_uq, if_neg (fun z => hne z.2)]
theorem z_usm {f : Nat → Nat → Int32} {q k : Nat} {v : Int32} : j_u f q k v q k = v := by rw [j_uq, if_pos ⟨rfl, rfl⟩]
