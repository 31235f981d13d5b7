/-! text, and the law's call of it -/
theorem j_Fr.bx {N : Nat → Prop} {x : Nat} {h h' : j_H} (w : j_WF h x) (b : j_Bx N h h') (hN : ∀ q, N q → j_kd h q = none) : j_Fr x h h' := by
  have o : j_On (fun _ => False) h h' := b.2.1.mono (fun q hq n => hq (hN q n))
  exact j_Fr.keep w o (w.off o (fun _ z => z.elim) (fun q c z h4 _ => b.2.2 q c z (by omega))).1.2.1
