/-! the model's spans: word for word -/
theorem z_uia {h : j_H} {b k j : Nat} {x : Int32} : j_it (j_ui h b k x) b j = if j = k then x else j_it h b j := by
  show j_u (j_it h) b k x b j = _
  rw [j_uq]
  by_cases z : j = k
  · rw [if_pos ⟨rfl, z⟩, if_pos z]
  · rw [if_neg (fun y => z y.2), if_neg z]
def z_sq (z : j_Z) (g : Nat) (c : Int32) (w : Nat) : Int32 := if w = 0 then z_eO z g c (Int32.ofInt (-1)) else if w = 1 then z_lO z g c (Int32.ofInt (-1)) else z_b (decide ((z_lO z g c (Int32.ofInt (-1))).toInt < (z_eO z g c (Int32.ofInt (-1))).toInt))
