/-- what may be told of a grain that is born; of a run -/
def j_okg (a b c : Int32) : Prop := (0 ≤ a.toInt ∧ a.toInt ≤ 9999) ∧ (0 ≤ b.toInt ∧ b.toInt ≤ 9999) ∧ (0 ≤ c.toInt ∧ c.toInt ≤ 5)
/-- of a run: of a grain and a clock that there are; errors within the slip -/
def j_okr (σ : Nat → Int32) (a b : Int32) : Prop := (0 ≤ a.toInt ∧ a.toInt < (σ 0).toInt) ∧ (b.toInt = 0 ∨ b.toInt = 1)
def j_oke (σ : Nat → Int32) (c d : Int32) : Prop := ((-(σ 5)).toInt ≤ c.toInt ∧ c.toInt ≤ (σ 5).toInt) ∧ ((-(σ 5)).toInt ≤ d.toInt ∧ d.toInt ≤ (σ 5).toInt)
