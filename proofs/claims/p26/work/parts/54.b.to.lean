/-! a contract that says less; what is told by cases -/
theorem j_Ct.to {n fr lo mc ms : Nat} {as : j_S} {h : j_H} {P P' : Option j_V → j_H → Prop} {X X' : Nat → j_H → Prop} (c : j_Ct n fr lo mc ms as h P X) (hp : ∀ v h', P v h' → P' v h') (hx : ∀ k h', X k h' → X' k h') : j_Ct n fr lo mc ms as h P' X' := by
  intro l hl D T A p e ha hc hk s m args below hf happ hP hK
  obtain ⟨n, o, h1, h2, h3, hq⟩ := c l hl D T A p e ha hc hk s m args below hf happ hP hK
  refine ⟨n, o, h1, h2, h3, ?_⟩
  rcases hq with ⟨⟨⟨v, h', q1, q2, q3⟩, q4⟩, q5⟩ | ⟨q, e1, E, ce, L, ⟨k, h', x1, x2, x3⟩, x4⟩
  · exact Or.inl ⟨⟨⟨v, h', q1, hp v h' q2, q3⟩, q4⟩, q5⟩
  · exact Or.inr ⟨q, e1, E, ce, L, ⟨k, h', x1, hx k h' x2, x3⟩, x4⟩
noncomputable def j_cq (p : Prop) (x y : Int) : Int := @ite Int p (Classical.propDecidable p) x y
theorem j_cqp {p : Prop} {x y : Int} (h : p) : j_cq p x y = x := by
  unfold j_cq
  exact if_pos h
theorem j_cqn {p : Prop} {x y : Int} (h : ¬ p) : j_cq p x y = y := by
  unfold j_cq
  exact if_neg h
