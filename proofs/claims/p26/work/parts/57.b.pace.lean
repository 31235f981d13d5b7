/-! pace, word for word, by the law's own call -/
def j_okp (a b : Int32) : Prop := (a.toInt = 0 ∨ a.toInt = 1) ∧ (2 ≤ b.toInt ∧ b.toInt ≤ 200)
/-- the field of x that tells a clock's pace -/
def j_pf (a : Int32) : Nat := if a.toInt = 0 then 3 else 4
