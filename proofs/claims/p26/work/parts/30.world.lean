/-! what holds of the class's things: lists, grains, runs, prints; which ints may change -/
abbrev j_wi (h : j_H) (it : Nat → Nat → Int32) : j_H := (h.1, it, h.2.2)
/-- ints that notes are kept in: of grains from the sixth on, of runs the tenth -/
def j_sf (c k : Nat) : Bool := (Nat.beq c 4 && Nat.ble 6 k) || (Nat.beq c 7 && Nat.beq k 10)
/-- only ints of the fields that S names have changed -/
def j_Sc (S : Nat → Nat → Bool) (h : j_H) (it : Nat → Nat → Int32) : Prop := ∀ q k, (∀ c, j_kd h q = some (.inl c) → S c k = false) → it q k = j_it h q k
theorem j_Sc.rf {S : Nat → Nat → Bool} {h : j_H} : j_Sc S h (j_it h) := fun _ _ _ => rfl
theorem j_Sc.put {S : Nat → Nat → Bool} {h : j_H} {it : Nat → Nat → Int32} (a : j_Sc S h it) {q c k : Nat} {x : Int32} (hq : j_kd h q = some (.inl c)) (hS : S c k = true) : j_Sc S h (j_u it q k x) := by
  intro b j hb
  unfold j_u
  by_cases hj : j = k
  · rw [if_pos hj]
    by_cases hbq : b = q
    · subst hj hbq
      rw [hb c hq] at hS
      cases hS
    · rw [if_neg hbq]; exact a b j hb
  · rw [if_neg hj]; exact a b j hb
theorem j_Sc.trans {S S1 : Nat → Nat → Bool} {h : j_H} {it it1 : Nat → Nat → Int32} (a : j_Sc S h it) (b : j_Sc S1 (j_wi h it) it1) (hS : ∀ c k, S1 c k = true → S c k = true) : j_Sc S h it1 := fun q k hq =>
  (b q k (fun c hc => by
    cases hz : S1 c k with
    | false => rfl
    | true => have h1 := hS c k hz; rw [hq c hc] at h1; cases h1)).trans (a q k hq)
theorem j_Sc.mono {S S1 : Nat → Nat → Bool} {h : j_H} {it : Nat → Nat → Int32} (a : j_Sc S h it) (hS : ∀ c k, S c k = true → S1 c k = true) : j_Sc S1 h it := fun q k hq => a q k (fun c hc => by
  cases hz : S c k with
  | false => rfl
  | true => have h1 := hS c k hz; rw [hq c hc] at h1; cases h1)
/-- a list of things of class c, M of them at most -/
def j_LK (h : j_H) (L : Nat) (kk : Nat ⊕ Nat) (M : Int) : Prop := j_kd h L = some (.inl 3) ∧ 0 ≤ (j_it h L 2).toInt ∧ (j_it h L 2).toInt ≤ M ∧ ∃ arr t, j_rf h L 1 = some arr ∧ j_kd h arr = some (.inr t) ∧ t % 10 = 2 ∧ (j_it h L 2).toInt ≤ (j_ln h arr : Int) ∧ (j_ln h arr < 1000 ∧ (t = 2 ∨ (j_ln h arr = 0 ∧ j_st h 0 = some arr))) ∧ ∀ j : Nat, (j : Int) < (j_it h L 2).toInt → ∃ e, j_rf h arr j = some e ∧ j_kd h e = some kk
abbrev j_LI (h : j_H) (L c : Nat) (M : Int) : Prop := j_LK h L (.inl c) M
/-- of each grain, run, print -/
def j_G (h : j_H) : Prop :=
  (∀ a, j_kd h a = some (.inl 4) → ∃ b, j_rf h a 1 = some b ∧ j_kd h b = some (.inl 5)) ∧
  (∀ a, j_kd h a = some (.inl 4) → ∃ b, j_rf h a 2 = some b ∧ j_kd h b = some (.inl 5)) ∧
  (∀ a, j_kd h a = some (.inl 7) → ∃ b, j_rf h a 6 = some b ∧ j_kd h b = some (.inl 4)) ∧
  (∀ a, j_kd h a = some (.inl 6) → ∃ b, j_rf h a 1 = some b ∧ j_kd h b = some (.inl 7)) ∧
  (∀ a, j_kd h a = some (.inl 6) → j_rf h a 3 = none ∨ ∃ b, j_rf h a 3 = some b ∧ j_kd h b = some (.inl 6) ∧ 0 ≤ (j_it h b 0).toInt ∧ (j_it h b 0).toInt < (j_it h a 0).toInt)
/-- two lists apart -/
def j_Ap (h : j_H) (L L' : Nat) : Prop := L ≠ L' ∧ ∀ a, j_rf h L 1 = some a → j_rf h L' 1 = some a → j_ln h a = 0
/-- the prints' numbers -/
def j_Pn (h : j_H) (L : Nat) : Prop := ∀ arr, j_rf h L 1 = some arr → ∀ (j e : Nat), (j : Int) < (j_it h L 2).toInt → j_rf h arr j = some e → 0 ≤ (j_it h e 0).toInt ∧ (j_it h e 0).toInt < (j_it h L 2).toInt
def j_WF (h : j_H) (x : Nat) : Prop := j_kd h x = some (.inl 8) ∧ j_G h ∧ ∃ L0 L1 L2, j_rf h x 0 = some L0 ∧ j_LI h L0 4 8 ∧ j_rf h x 1 = some L1 ∧ j_LI h L1 7 20 ∧ j_rf h x 2 = some L2 ∧ j_LI h L2 6 10 ∧ (j_Ap h L0 L1 ∧ j_Ap h L0 L2 ∧ j_Ap h L1 L2) ∧ j_Pn h L2
/-- S changes no int that the lists and the prints' order rest on -/
def j_Sk (S : Nat → Nat → Bool) : Prop := (∀ k, S 3 k = false) ∧ S 6 0 = false
theorem j_sf_ok : j_Sk j_sf := ⟨fun _ => rfl, rfl⟩
theorem j_Sc.at {S : Nat → Nat → Bool} {h : j_H} {it : Nat → Nat → Int32} (s : j_Sc S h it) {q c k : Nat} (hq : j_kd h q = some (.inl c)) (hS : S c k = false) : it q k = j_it h q k := s q k (fun c' hc' => by
  rw [hq] at hc'
  cases hc'
  exact hS)
theorem j_LK.sc {S : Nat → Nat → Bool} {h : j_H} {it : Nat → Nat → Int32} (s : j_Sc S h it) (hS : j_Sk S) {L : Nat} {kk : Nat ⊕ Nat} {M : Int} (l : j_LK h L kk M) : j_LK (j_wi h it) L kk M := by
  obtain ⟨k, a, b, arr, t, e1, e2, e3, e4, e5, e6⟩ := l
  have e : it L 2 = j_it h L 2 := s.at k (hS.1 2)
  refine ⟨k, ?_, ?_, arr, t, e1, e2, e3, ?_, e5, fun j hj => e6 j ?_⟩
  · show 0 ≤ (it L 2).toInt; rw [e]; exact a
  · show (it L 2).toInt ≤ M; rw [e]; exact b
  · show (it L 2).toInt ≤ _; rw [e]; exact e4
  · have hj : (j : Int) < (it L 2).toInt := hj
    rw [e] at hj; exact hj
theorem j_G.sc {S : Nat → Nat → Bool} {h : j_H} {it : Nat → Nat → Int32} (s : j_Sc S h it) (hS : j_Sk S) (g : j_G h) : j_G (j_wi h it) := by
  obtain ⟨g1, g2, g3, g4, g5⟩ := g
  refine ⟨g1, g2, g3, g4, fun a ha => ?_⟩
  rcases g5 a ha with e | ⟨b, e1, e2, e3, e4⟩
  · exact Or.inl e
  · refine Or.inr ⟨b, e1, e2, ?_, ?_⟩
    · show 0 ≤ (it b 0).toInt; rw [s.at e2 hS.2]; exact e3
    · show (it b 0).toInt < (it a 0).toInt; rw [s.at e2 hS.2, s.at ha hS.2]; exact e4
theorem j_WF.sc {S : Nat → Nat → Bool} {h : j_H} {it : Nat → Nat → Int32} (s : j_Sc S h it) (hS : j_Sk S) {x : Nat} (w : j_WF h x) : j_WF (j_wi h it) x := by
  obtain ⟨k, g, L0, L1, L2, e0, l0, e1, l1, e2, l2, ap, pn⟩ := w
  refine ⟨k, g.sc s hS, L0, L1, L2, e0, l0.sc s hS, e1, l1.sc s hS, e2, l2.sc s hS, ap, ?_⟩
  intro arr h1 j e hj h2
  obtain ⟨k2, a, b, arr', t, f1, f2, f3, f4, f5, f6⟩ := l2
  have ez : it L2 2 = j_it h L2 2 := s.at k2 (hS.1 2)
  have hj : (j : Int) < (it L2 2).toInt := hj
  rw [ez] at hj
  obtain rfl : arr' = arr := Option.some.inj (f1.symm.trans h1)
  obtain ⟨e', g1, g2⟩ := f6 j hj
  obtain rfl : e' = e := Option.some.inj (g1.symm.trans h2)
  show 0 ≤ (it e' 0).toInt ∧ (it e' 0).toInt < (it L2 2).toInt
  rw [ez, s.at g2 hS.2]
  exact pn arr' h1 j e' hj h2
theorem j_inc1 {x : Int32} (h : x.toInt < 2147483647) : (x + Int32.ofInt 1).toInt = x.toInt + 1 := by
  have h1 := Int32.minValue_le_toInt x
  rw [Int32.toInt_add]
  have e : (Int32.ofInt 1).toInt = 1 := by decide
  rw [e]
  have e2 : Int32.minValue.toInt = -2147483648 := by decide
  rw [e2] at h1
  rw [Int.bmod_def]
  omega
theorem j_ub (x : Int32) : x.toInt ≤ 2147483647 := by
  have h := Int32.toInt_le x
  have e : Int32.maxValue.toInt = 2147483647 := by decide
  rw [e] at h
  exact h
theorem j_lb (x : Int32) : -2147483648 ≤ x.toInt := by
  have h := Int32.minValue_le_toInt x
  have e : Int32.minValue.toInt = -2147483648 := by decide
  rw [e] at h
  exact h
