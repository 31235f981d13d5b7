/-! what the model answers to pace and slip -/
/-- a pace told: the model's cells -/
theorem j_MX.putP {ρ : Nat → Nat} {h : j_H} {m P G R Q i : Nat} {a : Int32} (w : j_MX ρ h m P G R Q) (ha : a ≠ 0) : j_MX ρ (j_ui h P i a) m P G R Q := by
  have ne : ∀ q s, j_kd h q = some s → (s ≠ .inr 0 ∨ ρ q ≠ 1) → ∀ k, j_it (j_ui h P i a) q k = j_it h q k := fun q s hq hs k => (j_up_ne h (j_i a) (fun z => by
    rcases hs with hs | hs
    · rw [z, w.kP] at hq; exact hs (Option.some.inj hq).symm
    · exact hs (by rw [z]; exact w.rP)) k).1
  have lk : ∀ L kk M, j_LK h L kk M → j_LK (j_ui h P i a) L kk M := fun L kk M l => by
    obtain ⟨kL, b0, b1, arr, t, f1, f2, f3, f4, f5, f6⟩ := l
    have i2 := ne L _ kL (Or.inl (fun z => nomatch z)) 2
    exact ⟨kL, by rw [i2]; exact b0, by rw [i2]; exact b1, arr, t, f1, f2, f3, by rw [i2]; exact f4, f5, fun j hj => f6 j (by rw [i2] at hj; exact hj)⟩
  have el : ∀ {L kk M}, j_LK h L kk M → ∀ arr, j_rf h L 1 = some arr → ∀ j e : Nat, (j : Int) < (j_it h L 2).toInt → j_rf h arr j = some e → j_kd h e = some kk := fun {L kk M} l a ha j e hj he => by
    obtain ⟨kL, b0, b1, arr, t, f1, f2, f3, f4, f5, f6⟩ := l
    obtain rfl : arr = a := Option.some.inj (f1.symm.trans ha)
    obtain ⟨y, y1, y2⟩ := f6 j hj
    obtain rfl : y = e := Option.some.inj (y1.symm.trans he)
    exact y2
  have iG := ne G _ w.lG.1 (Or.inl (fun z => nomatch z)) 2
  have iR := ne R _ w.lR.1 (Or.inl (fun z => nomatch z)) 2
  have iQ := ne Q _ w.lQ.1 (Or.inl (fun z => nomatch z)) 2
  refine ⟨w.km, ⟨w.eP, w.kP, w.nP, w.rP, fun k hk => ?_⟩, ⟨w.eG, lk _ _ _ w.lG⟩, ⟨w.eR, lk _ _ _ w.lR⟩, ⟨w.eQ, lk _ _ _ w.lQ⟩, w.ap, ?_, ?_, ?_, w.rz⟩
  · by_cases e : k = i
    · rw [e, show j_it (j_ui h P i a) P i = a from j_u_at]; exact ha
    · rw [show j_it (j_ui h P i a) P k = j_it h P k from j_u_nk e]; exact w.zP k hk
  · intro arr a1 j e hj a2
    rw [iG] at hj
    exact w.aG arr a1 j e hj a2
  · intro arr a1 j e hj a2
    rw [iR] at hj
    have ke := el w.lR arr a1 j e hj a2
    unfold j_rA
    rw [ne e _ ke (Or.inl (fun z => nomatch z)) 1]
    exact w.aR arr a1 j e hj a2
  · intro arr a1 j e hj a2
    rw [iQ] at hj
    have ke := el w.lQ arr a1 j e hj a2
    obtain ⟨g1, g2, g3, g4, g5⟩ := w.aQ arr a1 j e hj a2
    have n := ne e _ ke (Or.inr (by rw [g1]; decide))
    exact ⟨g1, g2, by rw [n 0]; exact g3, by rw [n 0, iR]; exact g4, by rw [n 2]; exact g5⟩
theorem j_pf34 (a : Int32) : (a.toInt = 0 ∧ j_pf a = 3) ∨ (a.toInt ≠ 0 ∧ j_pf a = 4) := by
  unfold j_pf
  by_cases z : a.toInt = 0
  · exact Or.inl ⟨z, if_pos z⟩
  · exact Or.inr ⟨z, if_neg z⟩
theorem c_Mo_slipq {ρ : Nat → Nat} {h : j_H} {m P G R Q : Nat} {a : Int32} (w : j_MX ρ h m P G R Q) : j_Ct 212 1 22 0 0 [j_r (some m), j_i a] h (j_MQ m P G R Q h (q_slip a) (j_am h m P G R 5) (j_u1 (j_am h m P G R) 5 a)) j_no := by
  refine (c_Mo_slipx w.km).to (fun v h' g => ?_) (fun _ _ z => z)
  have f1 : j_Mf ρ m h (j_up h m 0 (j_i (Int32.ofInt 0))) := j_Mf.fi w.km (by decide)
  have w1 := w.f f1
  have g1 := f1.mg w
  rcases g with ⟨c1, rfl, e⟩ | ⟨c1, rfl, e⟩
  · rw [e]
    refine j_MQ.ok ⟨ρ, w1.wm⟩ ⟨g1.1.trans (j_On.up (Or.inl (Or.inl ⟨12, w.km, by decide⟩))), fun q hq hz => g1.2.1 q hq hz, fun q c hq h3 h9 => g1.2.2 q c hq h3 h9⟩ ((j_upm (by decide)).trans j_upi) (j_cqp c1) (fun k hk => ?_) rfl
    have nG : G ≠ m := fun z => by have := w.lG.1; rw [z, w.km] at this; cases this
    have nR : R ≠ m := fun z => by have := w.lR.1; rw [z, w.km] at this; cases this
    have nP : P ≠ m := fun z => by have := w.kP; rw [z, w.km] at this; cases this
    rcases j_aKc hk with rfl | rfl | rfl | rfl | rfl | rfl
    · exact ((j_up_ne _ _ nG 2).1).trans (f1.am w 0 rfl)
    · exact ((j_up_ne _ _ nR 2).1).trans (f1.am w 1 rfl)
    · exact ((j_up_ne _ _ nP 0).1).trans (f1.am w 3 rfl)
    · exact ((j_up_ne _ _ nP 1).1).trans (f1.am w 4 rfl)
    · exact j_upi
    · exact (j_upm (by decide)).trans (f1.am w 6 rfl)
  · rw [e]
    exact j_MQ.no w (f1.tr (j_Mf.fi (h := j_up h m 0 (j_i (Int32.ofInt 0))) w.km (by decide))) j_upi (j_cqn c1) (by decide)
theorem c_Mo_paceq {ρ : Nat → Nat} {h : j_H} {m P G R Q : Nat} {a b : Int32} (w : j_MX ρ h m P G R Q) : j_Ct 205 1 22 0 0 [j_r (some m), j_i a, j_i b] h (j_MQ m P G R Q h (q_pace a b) (j_am h m P G R (j_pf a)) (j_u1 (j_am h m P G R) (j_pf a) b)) j_no := by
  refine (c_Mo_pacex w).to (fun v h' g => ?_) (fun _ _ z => z)
  have f1 : j_Mf ρ m h (j_up h m 0 (j_i (Int32.ofInt 0))) := j_Mf.fi w.km (by decide)
  have w1 := w.f f1
  have g1 := f1.mg w
  rcases g with ⟨⟨c1, c2⟩, rfl, e⟩ | ⟨c1, rfl, e⟩ | ⟨c1, c2, rfl, e⟩
  · have hb : b ≠ 0 := fun z => by rw [z] at c2; exact absurd c2.1 (by decide)
    have cl : (a.toNatClampNeg : Int) = a.toInt := j_clamp (by omega)
    have ip : (a.toNatClampNeg = 0 ∧ j_pf a = 3) ∨ (a.toNatClampNeg = 1 ∧ j_pf a = 4) := by
      rcases j_pf34 a with ⟨q1, q2⟩ | ⟨q1, q2⟩
      · exact Or.inl ⟨by omega, q2⟩
      · exact Or.inr ⟨by omega, q2⟩
    have va : j_it h P a.toNatClampNeg = j_am h m P G R (j_pf a) := by
      rcases ip with ⟨q1, q2⟩ | ⟨q1, q2⟩
      · rw [q1, q2]; rfl
      · rw [q1, q2]; rfl
    rw [e]
    refine j_MQ.ok ⟨ρ, w1.putP hb⟩ ⟨g1.1.trans (j_On.up (v := j_i b) (Or.inl (Or.inr w.kP))), fun q hq hz => g1.2.1 q hq hz, fun q c hq h3 h9 => g1.2.2 q c hq h3 h9⟩ ((j_t0i w1.km w1.kP (by decide)).trans j_upi) ((j_cqp c1).trans (j_cqp c2)) (fun k hk => ?_) va
    have ne : ∀ q s, j_kd h q = some s → s ≠ .inr 0 → ∀ j, j_it (j_ui (j_up h m 0 (j_i (Int32.ofInt 0))) P a.toNatClampNeg b) q j = j_it (j_up h m 0 (j_i (Int32.ofInt 0))) q j := fun q s hq hs j => (j_up_ne _ (j_i b) (fun z => by rw [z, w.kP] at hq; exact hs (Option.some.inj hq).symm) j).1
    have pe : ∀ j, j_it (j_ui (j_up h m 0 (j_i (Int32.ofInt 0))) P a.toNatClampNeg b) P j = if j = a.toNatClampNeg then b else j_it (j_up h m 0 (j_i (Int32.ofInt 0))) P j := fun j => by
      by_cases z : j = a.toNatClampNeg
      · rw [if_pos z, z]; exact j_u_at
      · rw [if_neg z]; exact j_u_nk z
    unfold j_u1
    rcases j_aKc hk with rfl | rfl | rfl | rfl | rfl | rfl
    · rw [if_neg (by omega)]; exact (ne G _ w.lG.1 (by decide) 2).trans (f1.am w 0 rfl)
    · rw [if_neg (by omega)]; exact (ne R _ w.lR.1 (by decide) 2).trans (f1.am w 1 rfl)
    · refine (pe 0).trans ?_
      rcases ip with ⟨q1, q2⟩ | ⟨q1, q2⟩
      · rw [q1, q2, if_pos rfl, if_pos rfl]
      · rw [q1, q2, if_neg (by decide), if_neg (by decide)]; exact f1.am w 3 rfl
    · refine (pe 1).trans ?_
      rcases ip with ⟨q1, q2⟩ | ⟨q1, q2⟩
      · rw [q1, q2, if_neg (by decide), if_neg (by decide)]; exact f1.am w 4 rfl
      · rw [q1, q2, if_pos rfl, if_pos rfl]
    · rw [if_neg (by omega)]; exact (ne m _ w.km (by decide) 3).trans (f1.am w 5 rfl)
    · rw [if_neg (by omega)]; exact (ne m _ w.km (by decide) 2).trans (f1.am w 6 rfl)
  · rw [e]
    exact j_MQ.no w (f1.tr (j_Mf.fi (h := j_up h m 0 (j_i (Int32.ofInt 0))) w.km (by decide))) j_upi (j_cqn c1) (by decide)
  · rw [e]
    exact j_MQ.no w (f1.tr (j_Mf.fi (h := j_up h m 0 (j_i (Int32.ofInt 0))) w.km (by decide))) j_upi ((j_cqp c1).trans (j_cqn c2)) (by decide)
