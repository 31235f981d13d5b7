/-! swap told with its answer -/
theorem z_ofR {r : Int32} {n : Nat} (h : r.toInt = (n : Int)) : r = Int32.ofInt (n : Int) := by
  rw [← h, Int32.ofInt_toInt]
