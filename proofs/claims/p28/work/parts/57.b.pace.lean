/-! pace, word for word, by the law's own call -/
/-- the field of x that tells a clock's pace -/
def j_pf (a : Int32) : Nat := if a.toInt = 0 then 3 else 4
