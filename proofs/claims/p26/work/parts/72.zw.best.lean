/-! bestSwap: what a swap changes of the doubles -/
section SW
variable {z : j_Z} {A B : Int32} {n : Nat}
theorem z_sw_mt {k j : Nat} : z_mt (n_swap z A B) k j = z_mt z k j := rfl
theorem z_sw_lA : (n_swap z A B).2.2.2.1 A.toNatClampNeg 0 = z.2.2.2.1 B.toNatClampNeg 0 := if_pos rfl
theorem z_sw_lB (hne : A.toNatClampNeg ≠ B.toNatClampNeg) : (n_swap z A B).2.2.2.1 B.toNatClampNeg 0 = z.2.2.2.1 A.toNatClampNeg 0 := (if_neg (Ne.symm hne)).trans (if_pos rfl)
theorem z_sw_lo {k : Nat} (ka : k ≠ A.toNatClampNeg) (kb : k ≠ B.toNatClampNeg) : (n_swap z A B).2.2.2.1 k 0 = z.2.2.2.1 k 0 := (if_neg ka).trans (if_neg kb)
/-- doubles now and after the swap, and how many others a and b make doubles with -/
theorem z_sw_D (hA : A.toNatClampNeg < (z.1 1).toNatClampNeg) (hB : B.toNatClampNeg < (z.1 1).toNatClampNeg) (hne : A.toNatClampNeg ≠ B.toNatClampNeg) (hl : ¬ (z.2.2.2.1 A.toNatClampNeg 0).toInt = (z.2.2.2.1 B.toNatClampNeg 0).toInt) : z_dbn z + (z_dg1 (z_db (n_swap z A B)) A.toNatClampNeg (z.1 1).toNatClampNeg + z_dg1 (z_db (n_swap z A B)) B.toNatClampNeg (z.1 1).toNatClampNeg) = z_dbn (n_swap z A B) + (z_dg1 (z_db z) A.toNatClampNeg (z.1 1).toNatClampNeg + z_dg1 (z_db z) B.toNatClampNeg (z.1 1).toNatClampNeg) := by
  refine z_pairs (fun _ _ => z_db_s) (fun _ _ => z_db_s) hne hA hB ?_ ?_ (fun k j _ _ ka kb ja jb => ?_)
  · unfold z_db
    rw [decide_eq_false hl, Bool.and_false]
  · unfold z_db
    rw [z_sw_lA, z_sw_lB hne, decide_eq_false (fun q => hl q.symm), Bool.and_false]
  · unfold z_db
    rw [z_sw_mt, z_sw_lo ka kb, z_sw_lo ja jb]
/-- what the class counts for the first of both after the swap -/
theorem z_sw_then {a b g j : Nat} (ha : a < n) (hab : a ≠ b) (hA : A.toNatClampNeg = a) (hB : B.toNatClampNeg = b) (hl : ¬ (z.2.2.2.1 a 0).toInt = (z.2.2.2.1 b 0).toInt) (lg : (z.2.2.2.1 b 0).toInt = (g : Int)) : ((z_DM z n 0 a j && z_DT z n g j) && !decide (j = b)) = (decide (j < n) && (decide (a ≠ j) && z_db (n_swap z A B) a j)) := by
  subst hA hB
  unfold z_DM z_DT z_db
  rw [z_sw_mt, z_sw_lA]
  cases hm : z_mt z A.toNatClampNeg j with
  | false => rw [Bool.and_false, Bool.false_and, Bool.false_and, Bool.false_and, Bool.and_false, Bool.and_false]
  | true =>
    have st : z_dst z j = true := by
      unfold z_mt at hm
      exact ((Bool.and_eq_true _ _).mp ((Bool.and_eq_true _ _).mp hm).1).2
    rw [st, Bool.and_true, Bool.and_true, Bool.true_and]
    unfold z_dlb
    by_cases hj : j < n
    · rw [decide_eq_true hj, Bool.true_and, Bool.true_and]
      by_cases ja : A.toNatClampNeg = j
      · rw [show z_pd n 0 A.toNatClampNeg j = false from decide_eq_false (by omega), decide_eq_false (show ¬ A.toNatClampNeg ≠ j from fun q => q ja)]
        rfl
      · rw [show z_pd n 0 A.toNatClampNeg j = true from decide_eq_true (by omega), decide_eq_true (show A.toNatClampNeg ≠ j from ja), Bool.true_and, Bool.true_and]
        by_cases jb : j = B.toNatClampNeg
        · subst jb
          rw [z_sw_lB hab, decide_eq_false hl, decide_eq_true (rfl : B.toNatClampNeg = B.toNatClampNeg)]
          exact Bool.and_false _
        · rw [z_sw_lo (Ne.symm ja) jb, decide_eq_false jb, lg]
          exact Bool.and_true _
    · rw [show z_pd n 0 A.toNatClampNeg j = false from decide_eq_false (by omega), decide_eq_false hj, Bool.false_and]
      rfl
end SW
/-- a swap is looked at: both stand, of two labels -/
def z_okS (z : j_Z) (a b : Nat) : Bool := (z_dst z a && z_dst z b) && !decide ((z.2.2.2.1 a 0).toInt = (z.2.2.2.1 b 0).toInt)
def z_Ds (z : j_Z) (a b : Nat) : Nat := z_dbn (n_swap z (Int32.ofInt (a : Int)) (Int32.ofInt (b : Int)))
/-- fewest doubles so far, and the swap for it; the same number twice: none -/
def z_bst (z : j_Z) (a b : Nat) (s : Nat × Nat × Nat) : Nat × Nat × Nat := if z_okS z a b = true ∧ z_Ds z a b < s.1 then (z_Ds z a b, a, b) else s
def z_bj (z : j_Z) (a : Nat) : Nat → Nat × Nat × Nat → Nat × Nat × Nat
  | 0, s => s
  | n + 1, s => if a < n then z_bst z a n (z_bj z a n s) else z_bj z a n s
def z_bk (z : j_Z) (R : Nat) : Nat → Nat × Nat × Nat
  | 0 => (z_dbn z, 0, 0)
  | k + 1 => z_bj z k R (z_bk z R k)
def z_best (z : j_Z) : Nat × Nat := (z_bk z (z.1 1).toNatClampNeg (z.1 1).toNatClampNeg).2
/-- the best swap's first or second run, or none -/
def z_bans (z : j_Z) (b : Int32) : Int32 := if (z_best z).1 = (z_best z).2 then Int32.ofInt (-1) else if b.toInt = 0 then Int32.ofInt ((z_best z).2 : Int) else Int32.ofInt ((z_best z).1 : Int)
theorem z_bj_s {z : j_Z} {a : Nat} {s : Nat × Nat × Nat} : ∀ n, n ≤ a + 1 → z_bj z a n s = s := by
  intro n
  induction n with
  | zero => intro _; rfl
  | succ n ih =>
    intro h
    show (if a < n then z_bst z a n (z_bj z a n s) else z_bj z a n s) = s
    rw [if_neg (by omega)]
    exact ih (by omega)
theorem z_onat {n : Nat} (h : n ≤ 1000) : (Int32.ofInt (n : Int)).toInt = (n : Int) ∧ (Int32.ofInt (n : Int)).toNatClampNeg = n := by
  have e : (Int32.ofInt (n : Int)).toInt = (n : Int) := Int32.toInt_ofInt_of_le (by omega) (by omega)
  have c := j_clamp (i := Int32.ofInt (n : Int)) (by omega)
  exact ⟨e, by omega⟩
section BC
variable {A B : j_Z}
theorem z_okS_c (e : z_eq A B) {a b : Nat} (ha : z_lt A 1 a) (hb : z_lt A 1 b) : z_okS A a b = z_okS B a b := by
  unfold z_okS z_dst
  rw [e.2.2.2.1 a 6 ha (by decide), e.2.2.2.1 b 6 hb (by decide), e.2.2.2.1 a 0 ha (by decide), e.2.2.2.1 b 0 hb (by decide)]
theorem z_Ds_c (e : z_eq A B) (h0 : 0 ≤ (A.1 1).toInt) (h20 : (A.1 1).toInt ≤ 20) {a b : Nat} (ha : z_lt A 1 a) (hb : z_lt A 1 b) : z_Ds A a b = z_Ds B a b := by
  unfold z_lt at ha hb
  have ea := (z_onat (n := a) (by omega)).2
  have eb := (z_onat (n := b) (by omega)).2
  refine z_dbn_c (n_swap_c e ?_ ?_) h0
  · rw [ea]; exact ha
  · rw [eb]; exact hb
theorem z_bj_c (e : z_eq A B) (h0 : 0 ≤ (A.1 1).toInt) (h20 : (A.1 1).toInt ≤ 20) {a : Nat} (ha : z_lt A 1 a) {s : Nat × Nat × Nat} : ∀ n, n ≤ (A.1 1).toNatClampNeg → z_bj A a n s = z_bj B a n s := by
  intro n
  induction n with
  | zero => intro _; rfl
  | succ n ih =>
    intro hn
    have hb : z_lt A 1 n := z_ltn h0 (by omega)
    show (if a < n then z_bst A a n (z_bj A a n s) else z_bj A a n s) = if a < n then z_bst B a n (z_bj B a n s) else z_bj B a n s
    rw [ih (by omega)]
    unfold z_bst
    rw [z_okS_c e ha hb, z_Ds_c e h0 h20 ha hb]
theorem z_bk_c (e : z_eq A B) (h0 : 0 ≤ (A.1 1).toInt) (h20 : (A.1 1).toInt ≤ 20) : ∀ k, k ≤ (A.1 1).toNatClampNeg → z_bk A (A.1 1).toNatClampNeg k = z_bk B (A.1 1).toNatClampNeg k := by
  intro k
  induction k with
  | zero =>
    intro _
    show (z_dbn A, 0, 0) = (z_dbn B, 0, 0)
    rw [z_dbn_c e h0]
  | succ k ih =>
    intro hk
    show z_bj A k (A.1 1).toNatClampNeg (z_bk A (A.1 1).toNatClampNeg k) = z_bj B k (A.1 1).toNatClampNeg (z_bk B (A.1 1).toNatClampNeg k)
    rw [ih (by omega)]
    exact z_bj_c e h0 h20 (z_ltn h0 (by omega)) _ (Nat.le_refl _)
theorem z_bans_c (e : z_eq A B) (h0 : 0 ≤ (A.1 1).toInt) (h20 : (A.1 1).toInt ≤ 20) {b : Int32} : z_bans A b = z_bans B b := by
  have q : z_best A = z_best B := by
    unfold z_best
    rw [← e.1 1 (by decide), z_bk_c e h0 h20 _ (Nat.le_refl _)]
  unfold z_bans
  rw [q]
end BC
