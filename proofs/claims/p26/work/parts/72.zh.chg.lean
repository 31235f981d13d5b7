/-! changed: word for word -/
theorem t_early_b {p s : Int32} : ∀ (n : Nat) (y l : Int32), 0 ≤ y.toInt → y.toInt + (n : Int) ≤ 3000 → 0 ≤ (t_early p s n y l).toInt ∧ (t_early p s n y l).toInt ≤ 3000 := by
  have q : (Int32.ofInt 3000).toInt = 3000 := by decide
  intro n
  induction n with
  | zero => intro y l h0 h1; exact ⟨h0, by show y.toInt ≤ 3000; omega⟩
  | succ n ih =>
    intro y l h0 h1
    show 0 ≤ (if l.toInt ≤ s.toInt then y else if l.toInt < p.toInt then Int32.ofInt 3000 else t_early p s n (y + Int32.ofInt 1) (l - l / p)).toInt ∧ (if l.toInt ≤ s.toInt then y else if l.toInt < p.toInt then Int32.ofInt 3000 else t_early p s n (y + Int32.ofInt 1) (l - l / p)).toInt ≤ 3000
    have e := j_inc1 (x := y) (by omega)
    by_cases h : l.toInt ≤ s.toInt
    · rw [if_pos h]; omega
    · rw [if_neg h]
      by_cases g : l.toInt < p.toInt
      · rw [if_pos g, q]; omega
      · rw [if_neg g]
        exact ih (y + Int32.ofInt 1) (l - l / p) (by omega) (by omega)
theorem t_late_b {p s : Int32} : ∀ (n : Nat) (y l : Int32), 0 ≤ y.toInt → y.toInt + (n : Int) ≤ 3000 → 0 ≤ (t_late p s n y l).toInt ∧ (t_late p s n y l).toInt ≤ 3000 := by
  have q : (Int32.ofInt 3000).toInt = 3000 := by decide
  intro n
  induction n with
  | zero => intro y l h0 h1; show 0 ≤ (Int32.ofInt 3000).toInt ∧ (Int32.ofInt 3000).toInt ≤ 3000; omega
  | succ n ih =>
    intro y l h0 h1
    show 0 ≤ (if l.toInt < p.toInt then Int32.ofInt 3000 else if (l - l / p).toInt < s.toInt then y else t_late p s n (y + Int32.ofInt 1) (l - l / p)).toInt ∧ (if l.toInt < p.toInt then Int32.ofInt 3000 else if (l - l / p).toInt < s.toInt then y else t_late p s n (y + Int32.ofInt 1) (l - l / p)).toInt ≤ 3000
    have e := j_inc1 (x := y) (by omega)
    by_cases h : l.toInt < p.toInt
    · rw [if_pos h, q]; omega
    · rw [if_neg h]
      by_cases g : (l - l / p).toInt < s.toInt
      · rw [if_pos g]; omega
      · rw [if_neg g]
        exact ih (y + Int32.ofInt 1) (l - l / p) (by omega) (by omega)
theorem z_te_b {p m d s : Int32} : 0 ≤ (z_te p m d s).toInt ∧ (z_te p m d s).toInt ≤ 3000 := t_early_b 3000 _ _ (by decide) (by decide)
theorem z_tl_b {p m d s : Int32} : 0 ≤ (z_tl p m d s).toInt ∧ (z_tl p m d s).toInt ≤ 3000 := t_late_b 3000 _ _ (by decide) (by decide)
theorem z_yr {x y w : Int32} (hx : 0 ≤ x.toInt ∧ x.toInt ≤ 3000) (hy : 0 ≤ y.toInt ∧ y.toInt ≤ 3000) (hw : 0 ≤ w.toInt ∧ w.toInt ≤ 3000) : ((x + y) - w).toInt = x.toInt + y.toInt - w.toInt := by
  have e : (x + y).toInt = x.toInt + y.toInt := j_addI (by omega) (by omega)
  rw [j_subI (by omega) (by omega), e]
section MI
variable {z : j_Z} {c p : Int32} {k : Nat}
end MI
