/-! doubles after a swap: pairs, a run taken out -/
def z_wo (f : Nat → Nat → Bool) (a k j : Nat) : Bool := (decide (k ≠ a) && decide (j ≠ a)) && f k j
theorem z_wo_s {f : Nat → Nat → Bool} {a : Nat} (s : ∀ k j, f k j = f j k) (k j : Nat) : z_wo f a k j = z_wo f a j k := by
  unfold z_wo
  rw [s k j, Bool.and_comm (decide (k ≠ a))]
theorem z_ct_rm {h : Nat → Bool} {a : Nat} : ∀ n, z_ct h n = z_ct (fun j => decide (j ≠ a) && h j) n + (if a < n then (h a).toNat else 0) := by
  intro n
  induction n with
  | zero => rfl
  | succ n ih =>
    show z_ct h n + (h n).toNat = z_ct (fun j => decide (j ≠ a) && h j) n + (decide (n ≠ a) && h n).toNat + (if a < n + 1 then (h a).toNat else 0)
    rw [ih]
    by_cases e : n = a
    · subst e
      rw [if_neg (Nat.lt_irrefl n), if_pos (show n < n + 1 by omega), decide_eq_false (show ¬ n ≠ n from fun q => q rfl), Bool.false_and]
      rfl
    · rw [decide_eq_true (show n ≠ a from e), Bool.true_and]
      by_cases l : a < n
      · rw [if_pos l, if_pos (show a < n + 1 by omega)]
        omega
      · rw [if_neg l, if_neg (show ¬ a < n + 1 by omega)]
        omega
/-- how many others a run makes a double with -/
def z_dg1 (f : Nat → Nat → Bool) (a n : Nat) : Nat := z_ct (fun j => decide (a ≠ j) && f a j) n
theorem z_wo_P {f : Nat → Nat → Bool} {a : Nat} (s : ∀ k j, f k j = f j k) : ∀ n, z_sm (fun k => z_ct (f k) k) n = z_sm (fun k => z_ct (z_wo f a k) k) n + (if a < n then z_dg1 f a n else 0) := by
  intro n
  induction n with
  | zero => rfl
  | succ n ih =>
    show z_sm (fun k => z_ct (f k) k) n + z_ct (f n) n = z_sm (fun k => z_ct (z_wo f a k) k) n + z_ct (z_wo f a n) n + (if a < n + 1 then z_dg1 f a (n + 1) else 0)
    rw [ih]
    have gs : z_dg1 f a (n + 1) = z_dg1 f a n + (decide (a ≠ n) && f a n).toNat := rfl
    by_cases e : n = a
    · subst e
      rw [if_neg (Nat.lt_irrefl n), if_pos (show n < n + 1 by omega), gs, decide_eq_false (show ¬ n ≠ n from fun q => q rfl), Bool.false_and]
      have a1 : z_ct (z_wo f n n) n = 0 := by
        refine z_ct_0 (fun k => ?_) n
        unfold z_wo
        rw [decide_eq_false (show ¬ n ≠ n from fun q => q rfl), Bool.false_and, Bool.false_and]
      have a2 : z_dg1 f n n = z_ct (f n) n := z_ct_c n (fun j hj => show (decide (n ≠ j) && f n j) = f n j by rw [decide_eq_true (show n ≠ j by omega), Bool.true_and])
      rw [a1, a2]
      show _ = _ + 0 + (_ + 0)
      omega
    · have w : z_ct (z_wo f a n) n = z_ct (fun j => decide (j ≠ a) && f n j) n := z_ct_c n (fun j _ => show z_wo f a n j = _ by
        unfold z_wo
        rw [decide_eq_true (show n ≠ a from e), Bool.true_and])
      have r := z_ct_rm (h := f n) (a := a) n
      rw [w]
      by_cases l : a < n
      · rw [if_pos l] at r ⊢
        rw [if_pos (show a < n + 1 by omega), gs, decide_eq_true (show a ≠ n by omega), Bool.true_and, s a n]
        omega
      · rw [if_neg l] at r ⊢
        rw [if_neg (show ¬ a < n + 1 by omega)]
        omega
theorem z_dg1_wo {f : Nat → Nat → Bool} {a b n : Nat} (hab : a ≠ b) (z : f b a = false) : z_dg1 (z_wo f a) b n = z_dg1 f b n := by
  refine z_ct_c n (fun j _ => ?_)
  show (decide (b ≠ j) && ((decide (b ≠ a) && decide (j ≠ a)) && f b j)) = (decide (b ≠ j) && f b j)
  rw [decide_eq_true (Ne.symm hab), Bool.true_and]
  by_cases e : j = a
  · subst e
    rw [z, Bool.and_false]
  · rw [decide_eq_true (show j ≠ a from e), Bool.true_and]
/-- two relations that differ at a and b alone -/
theorem z_pairs {f g : Nat → Nat → Bool} {a b n : Nat} (sf : ∀ k j, f k j = f j k) (sg : ∀ k j, g k j = g j k) (hab : a ≠ b) (ha : a < n) (hb : b < n) (zf : f b a = false) (zg : g b a = false) (e : ∀ k j, k < n → j < n → k ≠ a → k ≠ b → j ≠ a → j ≠ b → f k j = g k j) : z_sm (fun k => z_ct (f k) k) n + (z_dg1 g a n + z_dg1 g b n) = z_sm (fun k => z_ct (g k) k) n + (z_dg1 f a n + z_dg1 f b n) := by
  have f1 := z_wo_P (a := a) sf n
  have f2 := z_wo_P (a := b) (z_wo_s (a := a) sf) n
  have g1 := z_wo_P (a := a) sg n
  have g2 := z_wo_P (a := b) (z_wo_s (a := a) sg) n
  rw [if_pos ha] at f1 g1
  rw [if_pos hb, z_dg1_wo hab zf] at f2
  rw [if_pos hb, z_dg1_wo hab zg] at g2
  have same : z_sm (fun k => z_ct (z_wo (z_wo f a) b k) k) n = z_sm (fun k => z_ct (z_wo (z_wo g a) b k) k) n := by
    refine z_sm_c n (fun k hk => z_ct_c k (fun j hj => ?_))
    unfold z_wo
    by_cases q : (k ≠ a ∧ k ≠ b) ∧ (j ≠ a ∧ j ≠ b)
    · rw [e k j hk (by omega) q.1.1 q.1.2 q.2.1 q.2.2]
    · by_cases q1 : k = a
      · rw [decide_eq_false (show ¬ k ≠ a from fun z => z q1), Bool.false_and, Bool.false_and, Bool.false_and, Bool.and_false]
      · by_cases q2 : j = a
        · rw [decide_eq_false (show ¬ j ≠ a from fun z => z q2), Bool.and_false, Bool.false_and, Bool.false_and, Bool.and_false]
        · by_cases q3 : k = b
          · rw [decide_eq_false (show ¬ k ≠ b from fun z => z q3), Bool.false_and, Bool.false_and, Bool.false_and]
          · by_cases q4 : j = b
            · rw [decide_eq_false (show ¬ j ≠ b from fun z => z q4), Bool.and_false, Bool.false_and, Bool.false_and]
            · exact absurd ⟨⟨q1, q3⟩, q2, q4⟩ q
  omega
