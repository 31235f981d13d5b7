/-! the law's calls on the object: state for state -/
/-- what x holds when others change -/
theorem z_off {S : Nat → Prop} {h h1 : j_H} {x : Nat} (w : j_WF h x) (I : z_I h x) (o : j_On S h h1) (hS : ∀ q, S q → j_ow h x q → (∃ t, j_kd h q = some (.inr t)) ∧ j_ln h q = 0) : z_I h1 x ∧ z_eq (z_c h1 x) (z_c h x) := by
  have ob : ∀ {q c}, j_kd h q = some (.inl c) → j_ow h x q → ∀ k, j_it h1 q k = j_it h q k ∧ j_rf h1 q k = j_rf h q k := fun {q c} hq ho => by
    have hn : ¬ S q := fun z => by obtain ⟨⟨t, ht⟩, -⟩ := hS q z ho; rw [hq] at ht; cases ht
    have := o.2 q (j_nn hq)
    exact fun k => ⟨(this.2.2 hn k).1, (this.2.2 hn k).2.2⟩
  have og : ∀ q c, j_kd h q = some (.inl c) → 4 ≤ c → c ≤ 8 → ∀ k, j_it h1 q k = j_it h q k ∧ j_rf h1 q k = j_rf h q k := fun q c hq h4 h8 => ob hq (Or.inl ⟨c, hq, h4, h8⟩)
  have ox := og x 8 w.1 (by decide) (by decide)
  refine z_same w I (fun i hi => ?_) (fun i k hi hk => ?_) (fun j => (ox j).1) (fun q c hq h4 h7 => og q c hq h4 (by omega))
  · obtain ⟨L, arr, t, e, kL, -⟩ := z_L w hi
    rw [j_sz_e e, j_sz_e (((ox i).2).trans e)]
    exact (ob kL (Or.inr ⟨i, L, hi, e, Or.inl rfl⟩) 2).1
  · obtain ⟨L, arr, t, e, kL, f1, f2, f4, b0, f6⟩ := z_L w hi
    unfold z_in at hk
    rw [j_sz_e e] at hk
    obtain ⟨y, y1, y2⟩ := f6 k hk
    have na : ¬ S arr := fun z => by
      have := (hS arr z (Or.inr ⟨i, L, hi, e, Or.inr f1⟩)).2
      omega
    rw [y2]
    exact z_el_of (((ox i).2).trans e) (((ob kL (Or.inr ⟨i, L, hi, e, Or.inl rfl⟩) 1).2).trans f1) ((((o.2 arr (j_nn f2)).2.2 na k).2.2).trans y1)
noncomputable def q_touch (z : j_Z) (a b : Int32) : Int := j_cq (0 ≤ a.toInt ∧ a.toInt < (z.1 0).toInt) (j_cq (0 ≤ b.toInt ∧ b.toInt ≤ 100) 0 2) 1
