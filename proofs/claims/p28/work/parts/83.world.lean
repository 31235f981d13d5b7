/-! the law's world: the laboratory x, arrays of ints -/
def y_A (h h' : j_H) : Prop := ∀ q t, j_kd h q = some (.inr t) → t % 10 = 0 → j_kd h' q = some (.inr t) ∧ j_ln h' q = j_ln h q ∧ ∀ k, j_it h' q k = j_it h q k
theorem y_A.rf {h : j_H} : y_A h h := fun _ _ z _ => ⟨z, rfl, fun _ => rfl⟩
theorem y_A.tr {a b c : j_H} (p : y_A a b) (q : y_A b c) : y_A a c := fun x t z n => by
  obtain ⟨p1, p2, p3⟩ := p x t z n
  obtain ⟨q1, q2, q3⟩ := q x t p1 n
  exact ⟨q1, q2.trans p2, fun k => (q3 k).trans (p3 k)⟩
theorem y_now {h : j_H} {x q t : Nat} (w : j_WF h x) (k : j_kd h q = some (.inr t)) (ht : t % 10 = 0) : ¬ j_ow h x q := by
  rintro (⟨c', h1, h2, h3⟩ | ⟨k', L, hk, h1, h2⟩)
  · rw [k] at h1; cases h1
  · obtain ⟨kx, hG, L0, L1, L2, e0, l0, e1, l1, e2, l2, -⟩ := w
    have go : ∀ {M : Nat} {kk : Nat ⊕ Nat} {n : Int}, j_LK h M kk n → j_rf h x k' = some M → False := fun {M kk n} l e => by
      obtain rfl : L = M := Option.some.inj (h1.symm.trans e)
      obtain ⟨kL, b0, b1, arr, t', f1, f2, f3, -⟩ := l
      rcases h2 with rfl | h2
      · rw [k] at kL; cases kL
      · rw [h2] at f1
        obtain rfl := Option.some.inj f1
        rw [k] at f2
        obtain rfl := Sum.inr.inj (Option.some.inj f2)
        omega
    match k', hk with
    | 0, _ => exact go l0 e0
    | 1, _ => exact go l1 e1
    | 2, _ => exact go l2 e2
    | n + 3, hk => omega
def y_W (h : j_H) (x : Nat) : Prop := j_WF h x ∧ z_I h x ∧ y_ok (z_c h x) ∧ 1 ≤ (j_sz h x 0).toInt
/-- what asking leaves -/
def y_Q (x : Nat) (h h' : j_H) : Prop := y_W h' x ∧ z_eq (z_c h' x) (z_c h x) ∧ y_A h h'
section YQ
variable {h h' h1 : j_H} {x : Nat}
theorem y_Q.rf (w : y_W h x) : y_Q x h h := ⟨w, z_eq.rf, y_A.rf⟩
theorem y_Q.tr (a : y_Q x h h1) (b : y_Q x h1 h') : y_Q x h h' := ⟨b.1, b.2.1.tr a.2.1, a.2.2.tr b.2.2⟩
theorem y_A.fs (w : j_WF h x) (f : j_Fs x h h') : y_A h h' := fun q t hq ht => by
  obtain ⟨a, b, c⟩ := f.2.1.2 q (j_nn hq)
  exact ⟨a.trans hq, b, fun k => (c (y_now w hq ht) k).1⟩
theorem y_Q.nt {it : Nat → Nat → Int32} (w : y_W h x) (s : j_Sc j_sf h it) : y_Q x h (j_wi h it) := by
  obtain ⟨f, I, e⟩ := z_notes w.1 w.2.1 s
  refine ⟨⟨f.1, I, w.2.2.1.eq e, ?_⟩, e, y_A.fs w.1 f.fs⟩
  show 1 ≤ ((z_c (j_wi h it) x).1 0).toInt
  rw [e.1 0 (by decide)]
  exact w.2.2.2
theorem y_Q.nx (w : y_W h x) (n : ∃ it', h' = j_wi h it' ∧ j_Sc j_sf h it') : y_Q x h h' := by
  obtain ⟨it, rfl, s⟩ := n
  exact y_Q.nt w s
/-- arrays of ints made or written by the law -/
theorem y_Q.off {S : Nat → Prop} (w : y_W h x) (o : j_On S h h1) (hS : ∀ q, S q → ∃ t, j_kd h q = some (.inr t) ∧ t % 10 = 0) (nw : ∀ q c, j_kd h1 q = some (.inl c) → j_kd h q = some (.inl c)) : y_W h1 x ∧ z_eq (z_c h1 x) (z_c h x) := by
  have ns : ∀ q, S q → ¬ j_ow h x q := fun q hq => by
    obtain ⟨t, a, b⟩ := hS q hq
    exact y_now w.1 a b
  obtain ⟨I, e⟩ := z_off w.1 w.2.1 o (fun q hq ho => absurd ho (ns q hq))
  refine ⟨⟨(w.1.off o ns (fun q c hq _ _ => nw q c hq)).1, I, w.2.2.1.eq e, ?_⟩, e⟩
  show 1 ≤ ((z_c h1 x).1 0).toInt
  rw [e.1 0 (by decide)]
  exact w.2.2.2
theorem y_nw {b n : Nat} (w : y_W h x) (hb : j_kd h b = none) : y_W (j_nw h b (.inr 0) n) x ∧ z_eq (z_c (j_nw h b (.inr 0) n) x) (z_c h x) ∧ y_A h (j_nw h b (.inr 0) n) ∧ j_kd (j_nw h b (.inr 0) n) b = some (.inr 0) ∧ j_ln (j_nw h b (.inr 0) n) b = n := by
  have o : j_On (fun _ => False) h (j_nw h b (.inr 0) n) := j_On.nw hb
  obtain ⟨a, e⟩ := y_Q.off w o (fun _ z => z.elim) (fun q c hq => by
    by_cases z : q = b
    · have : j_kd (j_nw h b (.inr 0) n) q = some (.inr 0) := if_pos z
      rw [this] at hq
      cases hq
    · exact (if_neg z).symm.trans hq)
  refine ⟨a, e, fun q t hq ht => ?_, if_pos rfl, if_pos rfl⟩
  obtain ⟨a, b, c⟩ := o.2 q (j_nn hq)
  exact ⟨a.trans hq, b, fun k => (c (fun z => z) k).1⟩
theorem y_ui {b k : Nat} {v : Int32} (w : y_W h x) (hb : j_kd h b = some (.inr 0)) : y_W (j_ui h b k v) x ∧ z_eq (z_c (j_ui h b k v) x) (z_c h x) ∧ (∀ q, j_kd (j_ui h b k v) q = j_kd h q ∧ j_ln (j_ui h b k v) q = j_ln h q) ∧ (∀ q j, q ≠ b → j_it (j_ui h b k v) q j = j_it h q j) ∧ ∀ j, j_it (j_ui h b k v) b j = if j = k then v else j_it h b j := by
  obtain ⟨a, e⟩ := y_Q.off (S := fun q => q = b) (h1 := j_ui h b k v) w (j_On.up (v := j_i v) rfl) (fun q hq => ⟨0, by rw [hq]; exact hb, rfl⟩) (fun q c hq => hq)
  exact ⟨a, e, fun _ => ⟨rfl, rfl⟩, fun q j hq => (j_up_ne h (j_i v) hq j).1, fun j => z_uia⟩
/-- how many there are -/
theorem y_bd (w : j_WF h x) : (0 ≤ (j_sz h x 0).toInt ∧ (j_sz h x 0).toInt ≤ 8) ∧ (0 ≤ (j_sz h x 1).toInt ∧ (j_sz h x 1).toInt ≤ 20) ∧ (0 ≤ (j_sz h x 2).toInt ∧ (j_sz h x 2).toInt ≤ 10) := by
  obtain ⟨kx, hG, L0, L1, L2, e0, l0, e1, l1, e2, l2, -⟩ := w
  rw [j_sz_e e0, j_sz_e e1, j_sz_e e2]
  exact ⟨⟨l0.2.1, l0.2.2.1⟩, ⟨l1.2.1, l1.2.2.1⟩, ⟨l2.2.1, l2.2.2.1⟩⟩
theorem y_Lz (I : z_I h x) : y_L (z_c h x) := fun k hk => by
  obtain ⟨-, g, g1, g2⟩ := I.1.2.2.1 k hk
  have e : (z_c h x).2.2.2.1 k 0 = j_it h (z_el h x 0 g) 0 := by
    show j_it h ((j_rf h (z_el h x 1 k) 6).getD 0) 0 = _
    rw [g2, Option.getD_some]
  have n := I.1.1 g g1
  have g1 : (g : Int) < (j_sz h x 0).toInt := g1
  rw [e, n]
  exact ⟨by omega, g1⟩
/-- a print: its run, the one below -/
theorem y_pr (I : z_I h x) {k : Nat} (hk : z_in h x 2 k) : (0 ≤ ((z_c h x).2.2.2.2 k 0).toInt ∧ ((z_c h x).2.2.2.2 k 0).toInt < (j_sz h x 1).toInt) ∧ (((z_c h x).2.2.2.2 k 2).toInt = -1 ∨ (0 ≤ ((z_c h x).2.2.2.2 k 2).toInt ∧ ((z_c h x).2.2.2.2 k 2).toInt < (k : Int))) := by
  obtain ⟨a, ⟨r, r1, r2⟩, b⟩ := I.1.2.2.2 k hk
  have n1 := (I.1.2.2.1 r r1).1
  have cp0 : (z_c h x).2.2.2.2 k 0 = j_it h (z_el h x 1 r) 0 := by
    show j_it h ((j_rf h (z_el h x 2 k) 1).getD 0) 0 = _
    rw [r2, Option.getD_some]
  have r1 : (r : Int) < (j_sz h x 1).toInt := r1
  refine ⟨by rw [cp0, n1]; exact ⟨by omega, r1⟩, ?_⟩
  rcases b with b | ⟨q, q1, q2⟩
  · have : (z_c h x).2.2.2.2 k 2 = Int32.ofInt (-1) := by
      show (match j_rf h (z_el h x 2 k) 3 with | none => Int32.ofInt (-1) | some b => j_it h b 0) = _
      rw [b]
    rw [this]
    exact Or.inl (by decide)
  · have hq : z_in h x 2 q := by unfold z_in at hk ⊢; omega
    have nq := (I.1.2.2.2 q hq).1
    have c2 : (z_c h x).2.2.2.2 k 2 = j_it h (z_el h x 2 q) 0 := by
      show (match j_rf h (z_el h x 2 k) 3 with | none => Int32.ofInt (-1) | some b => j_it h b 0) = _
      rw [q2]
    rw [c2, nq]
    exact Or.inr ⟨by omega, by omega⟩
end YQ
/-- v below n -/
def y_bl (v n : Int32) : Int32 := (v &&& Int32.ofNat 2147483647) - (v &&& Int32.ofNat 2147483647) / n * n
theorem y_blb {v n : Int32} (hn : 1 ≤ n.toInt) : 0 ≤ (y_bl v n).toInt ∧ (y_bl v n).toInt < n.toInt := by
  have a0 : 0 ≤ (v &&& Int32.ofNat 2147483647).toInt := by
    have m : ((v &&& Int32.ofNat 2147483647).toBitVec).msb = false := by
      rw [Int32.toBitVec_and, BitVec.msb_and]
      have : (Int32.ofNat 2147483647).toBitVec.msb = false := by decide
      rw [this, Bool.and_false]
    show 0 ≤ ((v &&& Int32.ofNat 2147483647).toBitVec).toInt
    exact BitVec.toInt_nonneg_of_msb_false m
  unfold y_bl
  generalize v &&& Int32.ofNat 2147483647 = x at a0 ⊢
  have u := j_ub x
  have un := j_ub n
  by_cases q : n.toInt = 1
  · have e : n = Int32.ofInt 1 := Int32.toInt_inj.mp (by rw [q]; decide)
    have : x - x / n * n = 0 := by
      rw [e]
      have d : x / Int32.ofInt 1 = x := Int32.toInt_inj.mp (by
        rw [Int32.toInt_div]
        have : (Int32.ofInt 1).toInt = 1 := by decide
        rw [this, Int.tdiv_one, Int.bmod_def]
        omega)
      rw [d, show Int32.ofInt 1 = 1 by decide, Int32.mul_one, Int32.sub_self]
    rw [this, q]
    decide
  · have d := t_div (l := x) (p := n) a0 (by omega)
    have e0 := Int.emod_nonneg x.toInt (show n.toInt ≠ 0 by omega)
    have e1 := Int.emod_lt_of_pos x.toInt (show 0 < n.toInt by omega)
    have e2 := Int.mul_ediv_add_emod x.toInt n.toInt
    have dv : 0 ≤ x.toInt / n.toInt := Int.ediv_nonneg a0 (by omega)
    have mm : (x / n * n).toInt = n.toInt * (x.toInt / n.toInt) := by
      rw [Int32.toInt_mul, d, Int.mul_comm, Int.bmod_def]
      have : 0 ≤ n.toInt * (x.toInt / n.toInt) := Int.mul_nonneg (by omega) dv
      generalize n.toInt * (x.toInt / n.toInt) = P at this e2 ⊢
      omega
    rw [j_subI (by rw [mm]; omega) (by rw [mm]; omega), mm]
    omega
