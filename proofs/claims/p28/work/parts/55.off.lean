/-! what x keeps when others change; what a call on x and out leaves -/
theorem j_WF.off {S : Nat → Prop} {h h1 : j_H} {x : Nat} (w : j_WF h x) (o : j_On S h h1) (hS : ∀ q, S q → ¬ j_ow h x q) (new : ∀ q c, j_kd h1 q = some (.inl c) → 4 ≤ c → c ≤ 8 → j_kd h q = some (.inl c)) : j_WF h1 x ∧ ∀ q, j_ow h1 x q → j_kd h q ≠ none → j_ow h x q := by
  have all : ∀ q, j_ow h x q → j_kd h q ≠ none → j_kd h1 q = j_kd h q ∧ j_ln h1 q = j_ln h q ∧ ∀ k, j_it h1 q k = j_it h q k ∧ j_rf h1 q k = j_rf h q k := fun q hq hz =>
    ⟨(o.2 q hz).1, (o.2 q hz).2.1, fun k => ⟨((o.2 q hz).2.2 (fun z => hS q z hq) k).1, ((o.2 q hz).2.2 (fun z => hS q z hq) k).2.2⟩⟩
  have w9 := w
  obtain ⟨kx, ⟨g1, g2, g3, g4, g5⟩, L0, L1, L2, e0, l0, e1, l1, e2, l2, ⟨p1, p2, p3⟩, pn⟩ := w
  have ob : ∀ {q c}, j_kd h q = some (.inl c) → 4 ≤ c → c ≤ 8 → j_kd h1 q = some (.inl c) ∧ ∀ k, j_it h1 q k = j_it h q k ∧ j_rf h1 q k = j_rf h q k := fun {q c} hq h4 h8 => by
    have := all q (Or.inl ⟨c, hq, h4, h8⟩) (j_nn hq)
    exact ⟨this.1.trans hq, this.2.2⟩
  have ls : ∀ {k L c M}, k < 3 → j_rf h x k = some L → j_LI h L c M → 4 ≤ c → c ≤ 8 → j_LI h1 L c M ∧ (∀ k, j_it h1 L k = j_it h L k ∧ j_rf h1 L k = j_rf h L k) ∧ ∀ a, j_rf h L 1 = some a → (j_ln h1 a = j_ln h a ∧ ∀ k, j_rf h1 a k = j_rf h a k) := fun {k L c M} hk e l h4 h8 => by
    obtain ⟨kL, b0, b1, arr, t, f1, f2, f3, f4, f5, f6⟩ := l
    have a1 := all L (Or.inr ⟨k, L, hk, e, Or.inl rfl⟩) (j_nn kL)
    have a2 := all arr (Or.inr ⟨k, L, hk, e, Or.inr f1⟩) (j_nn f2)
    have i2 := (a1.2.2 2).1
    refine ⟨⟨a1.1.trans kL, by rw [i2]; exact b0, by rw [i2]; exact b1, arr, t, ((a1.2.2 1).2).trans f1, a2.1.trans f2, f3, by rw [i2, a2.2.1]; exact f4, by rw [a2.2.1, o.1]; exact f5, fun j hj => ?_⟩, a1.2.2, fun a ha => ?_⟩
    · rw [i2] at hj
      obtain ⟨y, y1, y2⟩ := f6 j hj
      exact ⟨y, ((a2.2.2 j).2).trans y1, (ob y2 h4 h8).1⟩
    · obtain rfl : arr = a := Option.some.inj (f1.symm.trans ha)
      exact ⟨a2.2.1, fun k => (a2.2.2 k).2⟩
  have x9 := (ob kx (by decide) (by decide))
  have s0 := ls (by decide) e0 l0 (by decide) (by decide)
  have s1 := ls (by decide) e1 l1 (by decide) (by decide)
  have s2 := ls (by decide) e2 l2 (by decide) (by decide)
  refine ⟨⟨x9.1, ⟨fun a ha => ?_, fun a ha => ?_, fun a ha => ?_, fun a ha => ?_, fun a ha => ?_⟩, L0, L1, L2, ((x9.2 0).2).trans e0, s0.1, ((x9.2 1).2).trans e1, s1.1, ((x9.2 2).2).trans e2, s2.1, ⟨p1.mv (s0.2.1 1).2 (s1.2.1 1).2 (fun a ha => (s0.2.2 a ha).1), p2.mv (s0.2.1 1).2 (s2.2.1 1).2 (fun a ha => (s0.2.2 a ha).1), p3.mv (s1.2.1 1).2 (s2.2.1 1).2 (fun a ha => (s1.2.2 a ha).1)⟩, ?_⟩, fun q hq hz => ?_⟩
  · have ha := new a 4 ha (by decide) (by decide)
    obtain ⟨b, f1, f2⟩ := g1 a ha
    exact ⟨b, (((ob ha (by decide) (by decide)).2 1).2).trans f1, (ob f2 (by decide) (by decide)).1⟩
  · have ha := new a 4 ha (by decide) (by decide)
    obtain ⟨b, f1, f2⟩ := g2 a ha
    exact ⟨b, (((ob ha (by decide) (by decide)).2 2).2).trans f1, (ob f2 (by decide) (by decide)).1⟩
  · have ha := new a 7 ha (by decide) (by decide)
    obtain ⟨b, f1, f2⟩ := g3 a ha
    exact ⟨b, (((ob ha (by decide) (by decide)).2 6).2).trans f1, (ob f2 (by decide) (by decide)).1⟩
  · have ha := new a 6 ha (by decide) (by decide)
    obtain ⟨b, f1, f2⟩ := g4 a ha
    exact ⟨b, (((ob ha (by decide) (by decide)).2 1).2).trans f1, (ob f2 (by decide) (by decide)).1⟩
  · have ha := new a 6 ha (by decide) (by decide)
    have ra := (ob ha (by decide) (by decide)).2
    rcases g5 a ha with f | ⟨b, f1, f2, f3, f4⟩
    · exact Or.inl (((ra 3).2).trans f)
    · have rb := ob f2 (by decide) (by decide)
      refine Or.inr ⟨b, ((ra 3).2).trans f1, rb.1, ?_, ?_⟩
      · rw [(rb.2 0).1]; exact f3
      · rw [(rb.2 0).1, (ra 0).1]; exact f4
  · intro arr r1 j y hj r2
    rw [(s2.2.1 1).2] at r1
    rw [(s2.2.1 2).1] at hj ⊢
    rw [(s2.2.2 arr r1).2 j] at r2
    obtain ⟨kL, b0, b1, arr', t, f1, f2, f3, f4, f5, f6⟩ := l2
    obtain rfl : arr' = arr := Option.some.inj (f1.symm.trans r1)
    obtain ⟨y', y1, y2⟩ := f6 j hj
    obtain rfl : y' = y := Option.some.inj (y1.symm.trans r2)
    rw [((ob y2 (by decide) (by decide)).2 0).1]
    exact pn arr' f1 j y' hj y1
  · rcases hq with ⟨c, q1, q2⟩ | ⟨k, L, hk, q1, q2⟩
    · exact Or.inl ⟨c, ((o.2 q hz).1).symm.trans q1, q2⟩
    · rw [(x9.2 k).2] at q1
      have kL := (w9.own hk q1).1
      have aL := all L (Or.inr ⟨k, L, hk, q1, Or.inl rfl⟩) (j_nn kL)
      rw [(aL.2.2 1).2] at q2
      exact Or.inr ⟨k, L, hk, q1, q2⟩
/-- one of x's own numbers written -/
theorem j_Fs.x {h : j_H} {x k : Nat} {a : Int32} (w : j_WF h x) (hk : 3 ≤ k) : j_Fs x h (j_up h x k (j_i a)) ∧ ∀ j, j_aK j = true → j_ax (j_up h x k (j_i a)) x j = j_u1 (j_ax h x) k a j := by
  have s : j_Sc (fun c j => Nat.beq c 8 && Nat.beq j k) h (j_u (j_it h) x k a) := j_Sc.rf.put w.1 (by
    have hb : ∀ n, Nat.beq n n = true := fun n => by
      induction n with
      | zero => rfl
      | succ n ih => exact ih
    show (true && Nat.beq k k) = true
    rw [hb k]
    rfl)
  refine ⟨⟨w.sc s ⟨fun _ => rfl, rfl⟩, j_On.up (Or.inl ⟨8, w.1, by decide, by decide⟩), fun q hq _ => ?_⟩, fun j hj => ?_⟩
  · rcases hq with ⟨c, h1, h2⟩ | ⟨k, L, hk, h1, h2⟩
    · exact Or.inl ⟨c, h1, h2⟩
    · exact Or.inr ⟨k, L, hk, h1, h2⟩
  · have lk : ∀ j L, j < 2 → j_rf h x j = some L → j_it (j_up h x k (j_i a)) L 2 = j_it h L 2 := fun j L hj e => by
      have kL := (w.own (by omega) e).1
      exact (j_up_ne h (j_i a) (fun z => by rw [z, w.1] at kL; cases kL) 2).1
    obtain ⟨kx, g, L0, L1, L2, e0, l0, e1, l1, -⟩ := w
    have n : ∀ j, 3 ≤ j → j_it (j_up h x k (j_i a)) x j = if j = k then a else j_it h x j := fun j _ => by
      by_cases z : j = k
      · rw [if_pos z, z]; exact j_upi
      · rw [if_neg z]; exact j_upm z
    unfold j_u1
    rcases j_aKc hj with rfl | rfl | rfl | rfl | rfl | rfl
    · rw [if_neg (by omega)]
      show j_sz (j_up h x k (j_i a)) x 0 = j_sz h x 0
      rw [j_sz_e e0, j_sz_e (h := j_up h x k (j_i a)) e0]
      exact lk 0 L0 (by decide) e0
    · rw [if_neg (by omega)]
      show j_sz (j_up h x k (j_i a)) x 1 = j_sz h x 1
      rw [j_sz_e e1, j_sz_e (h := j_up h x k (j_i a)) e1]
      exact lk 1 L1 (by decide) e1
    · exact n 3 (by decide)
    · exact n 4 (by decide)
    · exact n 5 (by decide)
    · exact n 6 (by decide)
