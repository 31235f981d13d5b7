/-! ages: how many are left, by whole numbers; the fewest and the most years -/
def y_g (p : Int) : Nat → Int → Int
  | 0, l => l
  | n + 1, l => y_g p n (l - l / p)
section YG
variable {p : Int}
theorem y_st {l e : Int} (hp : 2 ≤ p) (h0 : 0 ≤ l) (h1 : l ≤ e) : 0 ≤ l - l / p ∧ l - l / p ≤ l ∧ l - l / p ≤ e - e / p ∧ e - e / p ≤ (l - l / p) + (e - l) := by
  have a := Int.ediv_nonneg h0 (show (0 : Int) ≤ p by omega)
  have b : l / p ≤ l := Int.ediv_le_self _ h0
  have c : l / p ≤ e / p := Int.ediv_le_ediv (by omega) h1
  have d : e / p ≤ l / p + (e - l) := by
    have d1 : e ≤ l + (e - l) * p := by
      have : (e - l) * 1 ≤ (e - l) * p := Int.mul_le_mul_of_nonneg_left (by omega) (by omega)
      omega
    have d2 : e / p ≤ (l + (e - l) * p) / p := Int.ediv_le_ediv (by omega) d1
    rwa [Int.add_mul_ediv_right _ _ (by omega)] at d2
  exact ⟨by omega, by omega, by omega, by omega⟩
theorem y_gb (hp : 2 ≤ p) : ∀ (n : Nat) (l : Int), 0 ≤ l → 0 ≤ y_g p n l ∧ y_g p n l ≤ l := by
  intro n
  induction n with
  | zero => intro l h; exact ⟨h, Int.le_refl _⟩
  | succ n ih =>
    intro l h
    have s := y_st hp h (Int.le_refl l)
    have := ih (l - l / p) s.1
    show 0 ≤ y_g p n (l - l / p) ∧ y_g p n (l - l / p) ≤ l
    omega
theorem y_gm (hp : 2 ≤ p) : ∀ (n : Nat) (l e : Int), 0 ≤ l → l ≤ e → y_g p n l ≤ y_g p n e ∧ y_g p n e ≤ y_g p n l + (e - l) := by
  intro n
  induction n with
  | zero => intro l e h h1; exact ⟨h1, by show e ≤ l + (e - l); omega⟩
  | succ n ih =>
    intro l e h h1
    have s := y_st hp h h1
    have := ih (l - l / p) (e - e / p) s.1 s.2.2.1
    show y_g p n (l - l / p) ≤ y_g p n (e - e / p) ∧ y_g p n (e - e / p) ≤ y_g p n (l - l / p) + (e - l)
    omega
theorem y_ga {l : Int} : ∀ (n k : Nat) (l : Int), y_g p (n + k) l = y_g p k (y_g p n l) := by
  intro n
  induction n with
  | zero => intro k l; rw [Nat.zero_add]; rfl
  | succ n ih =>
    intro k l
    rw [show n + 1 + k = (n + k) + 1 by omega]
    exact ih k (l - l / p)
theorem y_gs : ∀ (n : Nat) (l : Int), 0 ≤ l → l < p → y_g p n l = l := by
  intro n
  induction n with
  | zero => intro l _ _; rfl
  | succ n ih =>
    intro l h h1
    show y_g p n (l - l / p) = l
    rw [Int.ediv_eq_zero_of_lt h h1, Int.sub_zero]
    exact ih l h h1
end YG
theorem y_stI {p l : Int32} (hp : 2 ≤ p.toInt) (h : 0 ≤ l.toInt) : (l - l / p).toInt = l.toInt - l.toInt / p.toInt := by
  have u := j_ub l
  have e := t_div h hp
  have a := Int.ediv_nonneg h (show (0 : Int) ≤ p.toInt by omega)
  have b : l.toInt / p.toInt ≤ l.toInt := Int.ediv_le_self _ h
  rw [j_subI (by rw [e]; omega) (by rw [e]; omega), e]
theorem y_left {p : Int32} (hp : 2 ≤ p.toInt) : ∀ (n : Nat) (l : Int32), 0 ≤ l.toInt → (t_left p n l).toInt = y_g p.toInt n l.toInt := by
  intro n
  induction n with
  | zero => intro l _; rfl
  | succ n ih =>
    intro l h
    show (if l.toInt < p.toInt then l else t_left p n (l - l / p)).toInt = y_g p.toInt n (l.toInt - l.toInt / p.toInt)
    by_cases q : l.toInt < p.toInt
    · rw [if_pos q, Int.ediv_eq_zero_of_lt h q, Int.sub_zero, y_gs n _ h q]
    · rw [if_neg q, ih _ (t_step h hp).1, y_stI hp h]
theorem y_early {p s : Int32} (hp : 2 ≤ p.toInt) : ∀ (n t : Nat) (y l : Int32), 0 ≤ l.toInt → 0 ≤ y.toInt → y.toInt + (n : Int) = 3000 → t ≤ n → y_g p.toInt t l.toInt ≤ s.toInt → (t_early p s n y l).toInt ≤ y.toInt + (t : Int) := by
  intro n
  induction n with
  | zero =>
    intro t y l _ _ _ ht _
    show y.toInt ≤ _
    omega
  | succ n ih =>
    intro t y l h hy hn ht hg
    show (if l.toInt ≤ s.toInt then y else if l.toInt < p.toInt then Int32.ofInt 3000 else t_early p s n (y + Int32.ofInt 1) (l - l / p)).toInt ≤ _
    by_cases q : l.toInt ≤ s.toInt
    · rw [if_pos q]
      omega
    · rw [if_neg q]
      by_cases q2 : l.toInt < p.toInt
      · rw [y_gs t _ h q2] at hg
        omega
      · rw [if_neg q2]
        match t, ht, hg with
        | 0, _, hg =>
          have hg : l.toInt ≤ s.toInt := hg
          omega
        | t + 1, ht, hg =>
          have hg : y_g p.toInt t (l.toInt - l.toInt / p.toInt) ≤ s.toInt := hg
          rw [← y_stI hp h] at hg
          have t1 : (y + Int32.ofInt 1).toInt = y.toInt + 1 := j_inc1 (by omega)
          have := ih t (y + Int32.ofInt 1) (l - l / p) (t_step h hp).1 (by omega) (by omega) (by omega) hg
          omega
theorem y_late {p s : Int32} (hp : 2 ≤ p.toInt) : ∀ (n t : Nat) (y l : Int32), 0 ≤ l.toInt → 0 ≤ y.toInt → y.toInt + (n : Int) = 3000 → t ≤ n → s.toInt ≤ y_g p.toInt t l.toInt → y.toInt + (t : Int) ≤ (t_late p s n y l).toInt := by
  intro n
  induction n with
  | zero =>
    intro t y l _ _ hn ht _
    have e : (Int32.ofInt 3000).toInt = 3000 := by decide
    show _ ≤ (Int32.ofInt 3000).toInt
    omega
  | succ n ih =>
    intro t y l h hy hn ht hg
    have e : (Int32.ofInt 3000).toInt = 3000 := by decide
    have b0 := y_gb hp t l.toInt h
    have st := t_step (p := p) h hp
    have si := y_stI hp h
    show _ ≤ (if l.toInt < p.toInt then Int32.ofInt 3000 else if (l - l / p).toInt < s.toInt then y else t_late p s n (y + Int32.ofInt 1) (l - l / p)).toInt
    by_cases q : l.toInt < p.toInt
    · rw [if_pos q]
      omega
    · rw [if_neg q]
      have t1 : (y + Int32.ofInt 1).toInt = y.toInt + 1 := j_inc1 (by omega)
      by_cases q2 : (l - l / p).toInt < s.toInt
      · rw [if_pos q2]
        match t, ht, hg with
        | 0, _, _ => omega
        | t + 1, ht, hg =>
          have hg : s.toInt ≤ y_g p.toInt t (l.toInt - l.toInt / p.toInt) := hg
          rw [← si] at hg
          have := y_gb hp t (l - l / p).toInt st.1
          omega
      · rw [if_neg q2]
        match t, ht, hg with
        | 0, _, _ =>
          have := ih 0 (y + Int32.ofInt 1) (l - l / p) st.1 (by omega) (by omega) (by omega) (by show s.toInt ≤ (l - l / p).toInt; omega)
          omega
        | t + 1, ht, hg =>
          have hg : s.toInt ≤ y_g p.toInt t (l.toInt - l.toInt / p.toInt) := hg
          rw [← si] at hg
          have := ih t (y + Int32.ofInt 1) (l - l / p) st.1 (by omega) (by omega) (by omega) hg
          omega
/-- a run of a grain that nobody touched: its span holds the age -/
theorem y_mx {x : Int32} : (if Int32.ofInt (0) < x then x else Int32.ofInt (0)).toInt = (if 0 < x.toInt then x.toInt else 0) := by
  have e : (Int32.ofInt 0).toInt = 0 := by decide
  by_cases q : Int32.ofInt (0) < x
  · rw [if_pos q, if_pos (by rw [Int32.lt_iff_toInt_lt, e] at q; exact q)]
  · rw [if_neg q, if_neg (by rw [Int32.lt_iff_toInt_lt, e] at q; exact q), e]
theorem y_span {p m d s : Int32} {M D e1 e2 : Int} {A : Nat} (hp : 2 ≤ p.toInt) (hA : A ≤ 3000) (M0 : 0 ≤ M) (D0 : 0 ≤ D) (b : M + D ≤ 9999) (s0 : 0 ≤ s.toInt) (s1 : s.toInt ≤ 9) (hg : y_g p.toInt A (M + D) = M)
    (hm : m.toInt = if 0 < M + e1 then M + e1 else 0) (hd : d.toInt = if 0 < D + e2 then D + e2 else 0) (h1 : -s.toInt ≤ e1 ∧ e1 ≤ s.toInt) (h2 : -s.toInt ≤ e2 ∧ e2 ≤ s.toInt) :
    (z_te p m d s).toInt ≤ (A : Int) ∧ (A : Int) ≤ (z_tl p m d s).toInt := by
  have z0 : (Int32.ofInt 0).toInt = 0 := by decide
  have m0 : 0 ≤ m.toInt ∧ m.toInt ≤ 10008 ∧ M - s.toInt ≤ m.toInt ∧ m.toInt ≤ M + s.toInt := by
    rw [hm]
    split <;> omega
  have d0 : 0 ≤ d.toInt ∧ d.toInt ≤ 10008 ∧ D - s.toInt ≤ d.toInt ∧ d.toInt ≤ D + s.toInt := by
    rw [hd]
    split <;> omega
  clear hm hd
  have ea : (m + s).toInt = m.toInt + s.toInt := j_addI (by omega) (by omega)
  have eb : (d - s).toInt = d.toInt - s.toInt := j_subI (by omega) (by omega)
  have ec : (m - s).toInt = m.toInt - s.toInt := j_subI (by omega) (by omega)
  refine ⟨?_, ?_⟩
  · have eB := y_mx (x := d - s)
    have bB : 0 ≤ (if Int32.ofInt (0) < (d - s) then (d - s) else Int32.ofInt (0)).toInt ∧ (if Int32.ofInt (0) < (d - s) then (d - s) else Int32.ofInt (0)).toInt ≤ D := by
      rw [eB]
      split <;> omega
    clear eB
    unfold z_te
    generalize (if Int32.ofInt (0) < (d - s) then (d - s) else Int32.ofInt (0)) = B at bB ⊢
    have el : ((m + s) + B).toInt = m.toInt + s.toInt + B.toInt := by rw [j_addI (by omega) (by omega), ea]
    have g := (y_gm hp A ((m + s) + B).toInt (M + D + (m.toInt + s.toInt - M)) (by omega) (by omega)).1
    have g2 := (y_gm hp A (M + D) (M + D + (m.toInt + s.toInt - M)) (by omega) (by omega)).2
    have := y_early (s := m + s) hp 3000 A (Int32.ofInt 0) ((m + s) + B) (by omega) (by omega) (by rw [z0]; rfl) hA (by omega)
    omega
  · have eB := y_mx (x := m - s)
    have bB : 0 ≤ (if Int32.ofInt (0) < (m - s) then (m - s) else Int32.ofInt (0)).toInt ∧ (if Int32.ofInt (0) < (m - s) then (m - s) else Int32.ofInt (0)).toInt ≤ M := by
      rw [eB]
      split <;> omega
    clear eB
    unfold z_tl
    generalize (if Int32.ofInt (0) < (m - s) then (m - s) else Int32.ofInt (0)) = B at bB ⊢
    have el1 : (B + d).toInt = B.toInt + d.toInt := j_addI (by omega) (by omega)
    have el : ((B + d) + s).toInt = B.toInt + d.toInt + s.toInt := by rw [j_addI (by omega) (by omega), el1]
    have g := (y_gm hp A (B.toInt + D) ((B + d) + s).toInt (by omega) (by omega)).1
    have g2 := (y_gm hp A (B.toInt + D) (M + D) (by omega) (by omega)).2
    have := y_late (s := B) hp 3000 A (Int32.ofInt 0) ((B + d) + s) (by omega) (by omega) (by rw [z0]; rfl) hA (by omega)
    omega
