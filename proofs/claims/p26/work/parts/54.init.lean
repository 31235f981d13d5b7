/-! a new object of the class -/
theorem j_G.on {h h1 : j_H} {S : Nat → Prop} (g : j_G h) (o : j_On S h h1) (hS : ∀ q c, S q → j_kd h q = some (.inl c) → c = 3 ∨ c = 8) (new : ∀ q c, j_kd h1 q = some (.inl c) → j_kd h q = some (.inl c) ∨ c = 3 ∨ c = 8) : j_G h1 := by
  have old : ∀ q c, c ≠ 3 → c ≠ 8 → j_kd h1 q = some (.inl c) → j_kd h q = some (.inl c) := fun q c z3 z8 hq => by
    rcases new q c hq with r | r | r
    · exact r
    · exact absurd r z3
    · exact absurd r z8
  have up : ∀ q c, j_kd h q = some (.inl c) → j_kd h1 q = some (.inl c) := fun q c hq => ((o.2 q (j_nn hq)).1).trans hq
  have sm : ∀ q c, c ≠ 3 → c ≠ 8 → j_kd h q = some (.inl c) → ∀ k, j_it h1 q k = j_it h q k ∧ j_rf h1 q k = j_rf h q k := fun q c z3 z8 hq k => by
    have := (o.2 q (j_nn hq)).2.2 (fun z => by
      rcases hS q c z hq with r | r
      · exact z3 r
      · exact z8 r) k
    exact ⟨this.1, this.2.2⟩
  obtain ⟨g1, g2, g3, g4, g5⟩ := g
  refine ⟨fun a ha => ?_, fun a ha => ?_, fun a ha => ?_, fun a ha => ?_, fun a ha => ?_⟩
  · have ha := old a 4 (by decide) (by decide) ha
    obtain ⟨b, f1, f2⟩ := g1 a ha
    exact ⟨b, ((sm a 4 (by decide) (by decide) ha 1).2).trans f1, up _ _ f2⟩
  · have ha := old a 4 (by decide) (by decide) ha
    obtain ⟨b, f1, f2⟩ := g2 a ha
    exact ⟨b, ((sm a 4 (by decide) (by decide) ha 2).2).trans f1, up _ _ f2⟩
  · have ha := old a 7 (by decide) (by decide) ha
    obtain ⟨b, f1, f2⟩ := g3 a ha
    exact ⟨b, ((sm a 7 (by decide) (by decide) ha 6).2).trans f1, up _ _ f2⟩
  · have ha := old a 6 (by decide) (by decide) ha
    obtain ⟨b, f1, f2⟩ := g4 a ha
    exact ⟨b, ((sm a 6 (by decide) (by decide) ha 1).2).trans f1, up _ _ f2⟩
  · have ha := old a 6 (by decide) (by decide) ha
    rcases g5 a ha with f | ⟨b, f1, f2, f3, f4⟩
    · exact Or.inl (((sm a 6 (by decide) (by decide) ha 3).2).trans f)
    · refine Or.inr ⟨b, ((sm a 6 (by decide) (by decide) ha 3).2).trans f1, up _ _ f2, ?_, ?_⟩
      · rw [(sm b 6 (by decide) (by decide) f2 0).1]; exact f3
      · rw [(sm b 6 (by decide) (by decide) f2 0).1, (sm a 6 (by decide) (by decide) ha 0).1]; exact f4
