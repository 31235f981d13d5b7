/-! the law's turns: object and model side by side -/
theorem j_WF.arr {h : j_H} {x k L : Nat} (w : j_WF h x) (hk : k < 3) (e : j_rf h x k = some L) : j_kd h L = some (.inl 3) ∧ ∃ arr t, j_rf h L 1 = some arr ∧ j_kd h arr = some (.inr t) ∧ t % 10 = 2 := by
  obtain ⟨kx, g, L0, L1, L2, e0, l0, e1, l1, e2, l2, -⟩ := w
  have one : ∀ {c M}, j_LI h L c M → j_kd h L = some (.inl 3) ∧ ∃ arr t, j_rf h L 1 = some arr ∧ j_kd h arr = some (.inr t) ∧ t % 10 = 2 := fun l => by
    obtain ⟨kL, -, -, arr, t, f1, f2, f3, -⟩ := l
    exact ⟨kL, arr, t, f1, f2, f3⟩
  match k, hk, e with
  | 0, _, e => obtain rfl : L0 = L := Option.some.inj (e0.symm.trans e); exact one l0
  | 1, _, e => obtain rfl : L1 = L := Option.some.inj (e1.symm.trans e); exact one l1
  | 2, _, e => obtain rfl : L2 = L := Option.some.inj (e2.symm.trans e); exact one l2
  | n + 3, hk, _ => omega
theorem j_ow_ex {h : j_H} {x q : Nat} (w : j_WF h x) (o : j_ow h x q) : j_kd h q ≠ none := by
  rcases o with ⟨c, h1, -⟩ | ⟨k, L, hk, h1, h2⟩
  · exact j_nn h1
  · obtain ⟨kL, arr, t, f1, f2, -⟩ := w.arr hk h1
    rcases h2 with rfl | h2
    · exact j_nn kL
    · obtain rfl : arr = q := Option.some.inj (f1.symm.trans h2)
      exact j_nn f2
theorem j_ow_nr {h : j_H} {x q t : Nat} (w : j_WF h x) (k : j_kd h q = some (.inr t)) (ht : t % 10 ≠ 2) : ¬ j_ow h x q := by
  rintro (⟨c, h1, -⟩ | ⟨k', L, hk, h1, h2⟩)
  · rw [k] at h1; cases h1
  · obtain ⟨kL, arr, t', f1, f2, f3⟩ := w.arr hk h1
    rcases h2 with rfl | h2
    · rw [k] at kL; cases kL
    · obtain rfl : arr = q := Option.some.inj (f1.symm.trans h2)
      rw [k] at f2; cases f2; exact ht f3
/-- what x keeps when others change, arrays without length shared -/
theorem j_WF.off2 {S : Nat → Prop} {h h1 : j_H} {x : Nat} (w : j_WF h x) (o : j_On S h h1) (hS : ∀ q, S q → j_ow h x q → (∃ t, j_kd h q = some (.inr t)) ∧ j_ln h q = 0) (new : ∀ q c, j_kd h1 q = some (.inl c) → 4 ≤ c → c ≤ 8 → j_kd h q = some (.inl c)) : j_WF h1 x ∧ (∀ q, j_ow h1 x q → j_ow h x q) ∧ ∀ k, j_aK k = true → j_ax h1 x k = j_ax h x k := by
  have ob : ∀ {q c}, j_kd h q = some (.inl c) → j_ow h x q → j_kd h1 q = some (.inl c) ∧ ∀ k, j_it h1 q k = j_it h q k ∧ j_rf h1 q k = j_rf h q k := fun {q c} hq ho => by
    have hn : ¬ S q := fun z => by obtain ⟨⟨t, ht⟩, -⟩ := hS q z ho; rw [hq] at ht; cases ht
    have := o.2 q (j_nn hq)
    exact ⟨this.1.trans hq, fun k => ⟨(this.2.2 hn k).1, (this.2.2 hn k).2.2⟩⟩
  have w9 := w
  obtain ⟨kx, ⟨g1, g2, g3, g4, g5⟩, L0, L1, L2, e0, l0, e1, l1, e2, l2, ⟨p1, p2, p3⟩, pn⟩ := w
  have og : ∀ {q c}, j_kd h q = some (.inl c) → 4 ≤ c → c ≤ 8 → j_kd h1 q = some (.inl c) ∧ ∀ k, j_it h1 q k = j_it h q k ∧ j_rf h1 q k = j_rf h q k := fun {q c} hq h4 h8 => ob hq (Or.inl ⟨c, hq, h4, h8⟩)
  have ls : ∀ {k L c M}, k < 3 → j_rf h x k = some L → j_LI h L c M → 4 ≤ c → c ≤ 8 → j_LI h1 L c M ∧ (∀ k, j_it h1 L k = j_it h L k ∧ j_rf h1 L k = j_rf h L k) ∧ ∀ a, j_rf h L 1 = some a → (j_ln h1 a = j_ln h a ∧ ∀ k : Nat, (k : Int) < (j_it h L 2).toInt → j_rf h1 a k = j_rf h a k) := fun {k L c M} hk e l h4 h8 => by
    obtain ⟨kL, b0, b1, arr, t, f1, f2, f3, f4, f5, f6⟩ := l
    have a1 := ob kL (Or.inr ⟨k, L, hk, e, Or.inl rfl⟩)
    have a2 := o.2 arr (j_nn f2)
    have a3 : ∀ k : Nat, (k : Int) < (j_it h L 2).toInt → j_rf h1 arr k = j_rf h arr k := fun j hj => by
      have hn : ¬ S arr := fun z => by
        have := (hS arr z (Or.inr ⟨k, L, hk, e, Or.inr f1⟩)).2
        omega
      exact (a2.2.2 hn j).2.2
    have i2 := (a1.2 2).1
    refine ⟨⟨a1.1, by rw [i2]; exact b0, by rw [i2]; exact b1, arr, t, ((a1.2 1).2).trans f1, a2.1.trans f2, f3, by rw [i2, a2.2.1]; exact f4, by rw [a2.2.1, o.1]; exact f5, fun j hj => ?_⟩, a1.2, fun a ha => ?_⟩
    · rw [i2] at hj
      obtain ⟨y, y1, y2⟩ := f6 j hj
      exact ⟨y, (a3 j hj).trans y1, (og y2 h4 h8).1⟩
    · obtain rfl : arr = a := Option.some.inj (f1.symm.trans ha)
      exact ⟨a2.2.1, a3⟩
  have x9 := (og kx (by decide) (by decide))
  have s0 := ls (by decide) e0 l0 (by decide) (by decide)
  have s1 := ls (by decide) e1 l1 (by decide) (by decide)
  have s2 := ls (by decide) e2 l2 (by decide) (by decide)
  refine ⟨⟨x9.1, ⟨fun a ha => ?_, fun a ha => ?_, fun a ha => ?_, fun a ha => ?_, fun a ha => ?_⟩, L0, L1, L2, ((x9.2 0).2).trans e0, s0.1, ((x9.2 1).2).trans e1, s1.1, ((x9.2 2).2).trans e2, s2.1, ⟨p1.mv (s0.2.1 1).2 (s1.2.1 1).2 (fun a ha => (s0.2.2 a ha).1), p2.mv (s0.2.1 1).2 (s2.2.1 1).2 (fun a ha => (s0.2.2 a ha).1), p3.mv (s1.2.1 1).2 (s2.2.1 1).2 (fun a ha => (s1.2.2 a ha).1)⟩, ?_⟩, fun q hq => ?_, j_ax_of w9 (fun k _ _ => (x9.2 k).1) (fun k _ => (x9.2 k).2) (fun k L hk e => ((ob (w9.arr (by omega) e).1 (Or.inr ⟨k, L, by omega, e, Or.inl rfl⟩)).2 2).1)⟩
  · have ha := new a 4 ha (by decide) (by decide)
    obtain ⟨b, f1, f2⟩ := g1 a ha
    exact ⟨b, (((og ha (by decide) (by decide)).2 1).2).trans f1, (og f2 (by decide) (by decide)).1⟩
  · have ha := new a 4 ha (by decide) (by decide)
    obtain ⟨b, f1, f2⟩ := g2 a ha
    exact ⟨b, (((og ha (by decide) (by decide)).2 2).2).trans f1, (og f2 (by decide) (by decide)).1⟩
  · have ha := new a 7 ha (by decide) (by decide)
    obtain ⟨b, f1, f2⟩ := g3 a ha
    exact ⟨b, (((og ha (by decide) (by decide)).2 6).2).trans f1, (og f2 (by decide) (by decide)).1⟩
  · have ha := new a 6 ha (by decide) (by decide)
    obtain ⟨b, f1, f2⟩ := g4 a ha
    exact ⟨b, (((og ha (by decide) (by decide)).2 1).2).trans f1, (og f2 (by decide) (by decide)).1⟩
  · have ha := new a 6 ha (by decide) (by decide)
    have ra := (og ha (by decide) (by decide)).2
    rcases g5 a ha with f | ⟨b, f1, f2, f3, f4⟩
    · exact Or.inl (((ra 3).2).trans f)
    · have rb := og f2 (by decide) (by decide)
      refine Or.inr ⟨b, ((ra 3).2).trans f1, rb.1, ?_, ?_⟩
      · rw [(rb.2 0).1]; exact f3
      · rw [(rb.2 0).1, (ra 0).1]; exact f4
  · intro arr r1 j y hj r2
    rw [(s2.2.1 1).2] at r1
    rw [(s2.2.1 2).1] at hj ⊢
    rw [(s2.2.2 arr r1).2 j hj] at r2
    obtain ⟨kL, b0, b1, arr', t, f1, f2, f3, f4, f5, f6⟩ := l2
    obtain rfl : arr' = arr := Option.some.inj (f1.symm.trans r1)
    obtain ⟨y', y1, y2⟩ := f6 j hj
    obtain rfl : y' = y := Option.some.inj (y1.symm.trans r2)
    rw [((og y2 (by decide) (by decide)).2 0).1]
    exact pn arr' f1 j y' hj y1
  · rcases hq with ⟨c, q1, q2, q3⟩ | ⟨k, L, hk, q1, q2⟩
    · exact Or.inl ⟨c, new q c q1 q2 q3, q2, q3⟩
    · rw [(x9.2 k).2] at q1
      obtain ⟨kL, -⟩ := w9.arr hk q1
      rw [((ob kL (Or.inr ⟨k, L, hk, q1, Or.inl rfl⟩)).2 1).2] at q2
      exact Or.inr ⟨k, L, hk, q1, q2⟩
/-- what the model keeps when others change -/
theorem j_MX.off {S : Nat → Prop} {ρ : Nat → Nat} {h h1 : j_H} {m P G R Q : Nat} (w : j_MX ρ h m P G R Q) (o : j_On S h h1) (s1 : ∀ q c, j_kd h q = some (.inl c) → 10 ≤ c → ¬ S q) (s2 : ∀ q, j_kd h q = some (.inr 0) → ¬ S q) (s3 : ∀ q, (q = G ∨ q = R ∨ q = Q) → ¬ S q) (s4 : ∀ q, j_bk h G R Q q → ¬ S q ∨ j_ln h q = 0) :
    j_MX ρ h1 m P G R Q ∧ (∀ q, j_bk h1 G R Q q → j_bk h G R Q q) ∧ z_eq (z_d h1 m P G R Q) (z_d h m P G R Q) := by
  have ob : ∀ {q s}, j_kd h q = some s → ¬ S q → j_kd h1 q = some s ∧ j_ln h1 q = j_ln h q ∧ ∀ k, j_it h1 q k = j_it h q k ∧ j_rf h1 q k = j_rf h q k := fun {q s} hq hn => by
    have := o.2 q (j_nn hq)
    exact ⟨this.1.trans hq, this.2.1, fun k => ⟨(this.2.2 hn k).1, (this.2.2 hn k).2.2⟩⟩
  have om := ob w.km (s1 m 12 w.km (by decide))
  have oP := ob w.kP (s2 P w.kP)
  have oG := ob w.lG.1 (s3 G (Or.inl rfl))
  have oR := ob w.lR.1 (s3 R (Or.inr (Or.inl rfl)))
  have oQ := ob w.lQ.1 (s3 Q (Or.inr (Or.inr rfl)))
  have cont : ∀ {L kk M}, j_LK h L kk M → ((∀ a, j_rf h L 1 = some a → ¬ S a ∨ j_ln h a = 0)) → ∀ a, j_rf h L 1 = some a → ∀ j : Nat, (j : Int) < (j_it h L 2).toInt → j_rf h1 a j = j_rf h a j := fun {L kk M} l hs a ha j hj => by
    obtain ⟨kL, b0, b1, arr, t, f1, f2, f3, f4, f5, f6⟩ := l
    obtain rfl : arr = a := Option.some.inj (f1.symm.trans ha)
    rcases hs arr f1 with n | n
    · exact ((o.2 arr (j_nn f2)).2.2 n j).2.2
    · omega
  have hG : ∀ a, j_rf h G 1 = some a → ¬ S a ∨ j_ln h a = 0 := fun a ha => s4 a (Or.inl ha)
  have hR : ∀ a, j_rf h R 1 = some a → ¬ S a ∨ j_ln h a = 0 := fun a ha => s4 a (Or.inr (Or.inl ha))
  have hQ : ∀ a, j_rf h Q 1 = some a → ¬ S a ∨ j_ln h a = 0 := fun a ha => s4 a (Or.inr (Or.inr ha))
  have lnk : ∀ {L kk M}, j_LK h L kk M → ∀ a, j_rf h L 1 = some a → j_ln h1 a = j_ln h a := fun {L kk M} l a ha => by
    obtain ⟨kL, b0, b1, arr, t, f1, f2, -⟩ := l
    obtain rfl : arr = a := Option.some.inj (f1.symm.trans ha)
    exact (o.2 arr (j_nn f2)).2.1
  have el : ∀ {L kk M}, j_LK h L kk M → ∀ a, j_rf h L 1 = some a → ∀ j e : Nat, (j : Int) < (j_it h L 2).toInt → j_rf h a j = some e → j_kd h e = some kk := fun {L kk M} l a ha j e hj he => by
    obtain ⟨kL, b0, b1, arr, t, f1, f2, f3, f4, f5, f6⟩ := l
    obtain rfl : arr = a := Option.some.inj (f1.symm.trans ha)
    obtain ⟨y, y1, y2⟩ := f6 j hj
    obtain rfl : y = e := Option.some.inj (y1.symm.trans he)
    exact y2
  refine ⟨⟨om.1, ⟨((om.2.2 1).2).trans w.eP, oP.1, oP.2.1.trans w.nP, w.rP, fun i hi => by rw [(oP.2.2 i).1]; exact w.zP i hi⟩, ⟨((om.2.2 4).2).trans w.eG, w.lG.keep o (s3 G (Or.inl rfl)) hG⟩, ⟨((om.2.2 5).2).trans w.eR, w.lR.keep o (s3 R (Or.inr (Or.inl rfl))) hR⟩, ⟨((om.2.2 6).2).trans w.eQ, w.lQ.keep o (s3 Q (Or.inr (Or.inr rfl))) hQ⟩,
    ⟨w.ap.1.mv (oG.2.2 1).2 (oR.2.2 1).2 (lnk w.lG), w.ap.2.1.mv (oG.2.2 1).2 (oQ.2.2 1).2 (lnk w.lG), w.ap.2.2.mv (oR.2.2 1).2 (oQ.2.2 1).2 (lnk w.lR)⟩, ?_, ?_, ?_, fun q hq => w.rz q ?_, ?_, ?_, ?_⟩, fun q hq => ?_, ?_⟩
  · intro arr a1 j e hj a2
    rw [(oG.2.2 1).2] at a1
    rw [(oG.2.2 2).1] at hj
    rw [cont w.lG hG arr a1 j hj] at a2
    have ke := el w.lG arr a1 j e hj a2
    have oe := ob ke (s1 e 10 ke (by decide))
    intro k hk
    obtain ⟨b, b1, b2, b3, b4⟩ := w.aG arr a1 j e hj a2 k hk
    have obb := ob b2 (s2 b b2)
    exact ⟨b, ((oe.2.2 k).2).trans b1, obb.1, obb.2.1.trans b3, b4⟩
  · intro arr a1 j e hj a2
    rw [(oR.2.2 1).2] at a1
    rw [(oR.2.2 2).1] at hj
    rw [cont w.lR hR arr a1 j hj] at a2
    have ke := el w.lR arr a1 j e hj a2
    have oe := ob ke (s1 e 11 ke (by decide))
    unfold j_rA
    rw [(oe.2.2 1).1]
    exact w.aR arr a1 j e hj a2
  · intro arr a1 j e hj a2
    rw [(oQ.2.2 1).2] at a1
    rw [(oQ.2.2 2).1] at hj
    rw [cont w.lQ hQ arr a1 j hj] at a2
    have ke := el w.lQ arr a1 j e hj a2
    have oe := ob ke (s2 e ke)
    obtain ⟨g1, g2, g3, g4, g5⟩ := w.aQ arr a1 j e hj a2
    exact ⟨g1, oe.2.1.trans g2, by rw [(oe.2.2 0).1]; exact g3, by rw [(oe.2.2 0).1, (oR.2.2 2).1]; exact g4, by rw [(oe.2.2 2).1]; exact g5⟩
  · cases z : j_kd h q with
    | none => rfl
    | some k => rw [(o.2 q (j_nn z)).1, z] at hq; cases hq
  · intro arr a1 j e hj a2
    rw [(oG.2.2 1).2] at a1
    rw [(oG.2.2 2).1] at hj
    rw [cont w.lG hG arr a1 j hj] at a2
    exact w.y.1 arr a1 j e hj a2
  · intro arr a1 j e hj a2
    rw [(oR.2.2 1).2] at a1
    rw [(oR.2.2 2).1] at hj
    rw [cont w.lR hR arr a1 j hj] at a2
    exact w.y.2.1 arr a1 j e hj a2
  · obtain ⟨-, -, ν, y3⟩ := w.y
    refine ⟨ν, fun arr a1 j e hj a2 t b ht hb => ?_⟩
    rw [(oG.2.2 1).2] at a1
    rw [(oG.2.2 2).1] at hj
    rw [cont w.lG hG arr a1 j hj] at a2
    have oe := ob (el w.lG arr a1 j e hj a2) (s1 e 10 (el w.lG arr a1 j e hj a2) (by decide))
    rw [(oe.2.2 t).2] at hb
    exact y3 arr a1 j e hj a2 t b ht hb
  · unfold j_bk at hq ⊢
    rw [(oG.2.2 1).2, (oR.2.2 1).2, (oQ.2.2 1).2] at hq
    exact hq
  · have ml : ∀ {L kk M}, j_LK h L kk M → (∀ k, j_it h1 L k = j_it h L k ∧ j_rf h1 L k = j_rf h L k) → (∀ a, j_rf h L 1 = some a → ¬ S a ∨ j_ln h a = 0) → ∀ k : Nat, (k : Int) < (j_it h L 2).toInt → z_ml h1 L k = z_ml h L k := fun {L kk M} l oL hL k hk => by
      obtain ⟨arr, e1, e2, -⟩ := z_mk l hk
      exact z_ml_of (((oL 1).2).trans e1) ((cont l hL arr e1 k hk).trans e2)
    have nG : j_it h1 G 2 = j_it h G 2 := (oG.2.2 2).1
    have nR : j_it h1 R 2 = j_it h R 2 := (oR.2.2 2).1
    have nQ : j_it h1 Q 2 = j_it h Q 2 := (oQ.2.2 2).1
    refine ⟨fun k hk => ?_, fun k i t hk hi ht => ?_, fun k f hk hf => ?_, fun k f hk hf => ?_, fun k f hk hf => ?_⟩
    · match k, hk with
      | 0, _ => exact nG
      | 1, _ => exact nR
      | 2, _ => exact nQ
      | 3, _ => exact (oP.2.2 0).1
      | 4, _ => exact (oP.2.2 1).1
      | 5, _ => exact (om.2.2 3).1
      | 6, _ => exact (om.2.2 2).1
      | n + 7, hk => omega
    · have hk : (k : Int) < (j_it h1 G 2).toInt := hk
      rw [nG] at hk
      obtain ⟨b, b1, b2, b3, b4, b5⟩ := w.ga hk ht
      show z_dm h1 G k i t = z_dm h G k i t
      rw [b5]
      unfold z_dm
      rw [ml w.lG oG.2.2 hG k hk, ((ob (w.g hk).1 (s1 _ 10 (w.g hk).1 (by decide))).2.2 t).2, b1, Option.getD_some]
      exact ((ob b2 (s2 b b2)).2.2 i).1
    · have hk : (k : Int) < (j_it h1 G 2).toInt := hk
      rw [nG] at hk
      show z_dg h1 G k f = z_dg h G k f
      unfold z_dg
      rw [ml w.lG oG.2.2 hG k hk]
      exact ((ob (w.g hk).1 (s1 _ 10 (w.g hk).1 (by decide))).2.2 _).1
    · have hk : (k : Int) < (j_it h1 R 2).toInt := hk
      rw [nR] at hk
      have q := fun j => ((ob (w.r hk).1 (s1 _ 11 (w.r hk).1 (by decide))).2.2 j).1
      show z_dr h1 R k f = z_dr h R k f
      rw [z_dr_E, z_dr_E, ml w.lR oR.2.2 hR k hk]
      unfold z_drE
      rw [q 6, q f]
    · have hk : (k : Int) < (j_it h1 Q 2).toInt := hk
      rw [nQ] at hk
      show z_dp h1 Q k f = z_dp h Q k f
      unfold z_dp
      rw [ml w.lQ oQ.2.2 hQ k hk]
      exact ((ob (w.p hk).1 (s2 _ (w.p hk).1)).2.2 _).1
theorem j_bk_k {ρ : Nat → Nat} {h : j_H} {m P G R Q q : Nat} (w : j_MX ρ h m P G R Q) (b : j_bk h G R Q q) : ∃ t, j_kd h q = some (.inr t) := by
  have one : ∀ {L kk M}, j_LK h L kk M → j_rf h L 1 = some q → ∃ t, j_kd h q = some (.inr t) := fun l e => by
    obtain ⟨kL, b0, b1, arr, t, f1, f2, -⟩ := l
    obtain rfl : arr = q := Option.some.inj (f1.symm.trans e)
    exact ⟨t, f2⟩
  rcases b with b | b | b
  · exact one w.lG b
  · exact one w.lR b
  · exact one w.lQ b
/-- apart -/
def j_Dj (h : j_H) (x G R Q : Nat) : Prop := ∀ q, j_ow h x q → (q = G ∨ q = R ∨ q = Q) ∨ j_bk h G R Q q → (∃ t, j_kd h q = some (.inr t)) ∧ j_ln h q = 0
def j_L0 (L sc x m out P G R Q : Nat) (h : j_H) : Prop := j_WF h x ∧ (∃ ρ, j_MX ρ h m P G R Q) ∧ j_kd h out = some (.inl 9) ∧ j_SA h ∧ j_Dj h x G R Q ∧ j_kd h sc = some (.inr 10) ∧ j_ln h sc = L
theorem j_L0.cls {L sc x m out P G R Q : Nat} {h h1 : j_H} (l : j_L0 L sc x m out P G R Q h) (w1 : j_WF h1 x) (o : j_On (fun q => j_ow h x q ∨ q = out) h h1) (cl : ∀ q, j_ow h1 x q → j_kd h q ≠ none → j_ow h x q) : j_L0 L sc x m out P G R Q h1 ∧ (∀ k, j_it h1 sc k = j_it h sc k) ∧ z_eq (z_d h1 m P G R Q) (z_d h m P G R Q) := by
  obtain ⟨w, ⟨ρ, mx⟩, ko, sa, dj, ks, ls⟩ := l
  have nL : ∀ q, (q = G ∨ q = R ∨ q = Q) → j_kd h q = some (.inl 3) := fun q hq => by rcases hq with rfl | rfl | rfl; exact mx.lG.1; exact mx.lR.1; exact mx.lQ.1
  have os := mx.off o (fun q c hq hc z => by
    rcases z with z | z
    · exact j_now w hq (by omega) z
    · rw [z, ko] at hq; cases hq; omega) (fun q hq z => by
    rcases z with z | z
    · exact j_ow_nr w hq (by decide) z
    · rw [z, ko] at hq; cases hq) (fun q hq z => by
    have kq := nL q hq
    rcases z with z | z
    · obtain ⟨⟨t, ht⟩, -⟩ := dj q z (Or.inl hq); rw [kq] at ht; cases ht
    · rw [z, ko] at kq; cases kq) (fun q hq => by
    by_cases z : j_ow h x q
    · exact Or.inr (dj q z (Or.inr hq)).2
    · refine Or.inl (fun y => ?_)
      rcases y with y | y
      · exact z y
      · obtain ⟨t, ht⟩ := j_bk_k mx hq
        rw [y, ko] at ht; cases ht)
  have nsc : ¬ (j_ow h x sc ∨ sc = out) := fun z => by
    rcases z with z | z
    · exact j_ow_nr w ks (by decide) z
    · rw [z, ko] at ks; cases ks
  have s9 := o.2 sc (j_nn ks)
  refine ⟨⟨w1, ⟨ρ, os.1⟩, (o.2 out (j_nn ko)).1.trans ko, sa.on o, fun q hq hb => ?_, s9.1.trans ks, s9.2.1.trans ls⟩, fun k => (s9.2.2 nsc k).1, os.2.2⟩
  have hb0 : (q = G ∨ q = R ∨ q = Q) ∨ j_bk h G R Q q := hb.imp id (os.2.1 q)
  have kq : j_kd h q ≠ none := by
    rcases hb0 with z | z
    · exact j_nn (nL q z)
    · obtain ⟨t, ht⟩ := j_bk_k mx z; exact j_nn ht
  obtain ⟨⟨t, ht⟩, hl⟩ := dj q (cl q hq kq) hb0
  exact ⟨⟨t, (o.2 q kq).1.trans ht⟩, (o.2 q kq).2.1.trans hl⟩
theorem j_L0.mod {L sc x m out P G R Q : Nat} {h h1 : j_H} (l : j_L0 L sc x m out P G R Q h) (I : z_I h x) (w1 : ∃ ρ', j_MX ρ' h1 m P G R Q) (o : j_On (j_mo h G R Q) h h1) (cb : ∀ q, j_bk h1 G R Q q → j_kd h q ≠ none → j_bk h G R Q q) (nk : ∀ q c, j_kd h1 q = some (.inl c) → 3 ≤ c → c ≤ 9 → j_kd h q = some (.inl c)) : j_L0 L sc x m out P G R Q h1 ∧ (∀ k, j_it h1 sc k = j_it h sc k) ∧ (z_I h1 x ∧ z_eq (z_c h1 x) (z_c h x)) ∧ ∀ k, j_lg h1 out k = j_lg h out k := by
  obtain ⟨w, ⟨ρ, mx⟩, ko, sa, dj, ks, ls⟩ := l
  have nL : ∀ q, (q = G ∨ q = R ∨ q = Q) → j_kd h q = some (.inl 3) := fun q hq => by rcases hq with rfl | rfl | rfl; exact mx.lG.1; exact mx.lR.1; exact mx.lQ.1
  have nmi : ∀ q, j_ow h x q → ¬ j_mi h q := fun q ho z => by
    rcases z with ⟨c, z, z1⟩ | z
    · rcases ho with ⟨c', h1, h2, h3⟩ | ⟨k', L, hk, h1, h2⟩
      · rw [z] at h1; cases h1; omega
      · obtain ⟨kL, arr, t', f1, f2, f3⟩ := w.arr hk h1
        rcases h2 with rfl | h2
        · rw [z] at kL; cases kL; omega
        · obtain rfl : arr = q := Option.some.inj (f1.symm.trans h2)
          rw [z] at f2; cases f2
    · exact j_ow_nr w z (by decide) ho
  have hS : ∀ q, j_mo h G R Q q → j_ow h x q → (∃ t, j_kd h q = some (.inr t)) ∧ j_ln h q = 0 := fun q hq ho => by
    rcases hq with z | z
    · exact absurd z (nmi q ho)
    · exact dj q ho z
  have of2 := w.off2 o hS (fun q c hq h4 h8 => nk q c hq (by omega) (by omega))
  have ofz := z_off w I o hS
  have nsc : ¬ j_mo h G R Q sc := fun z => by
    rcases z with (⟨c, z, -⟩ | z) | z | z
    · rw [ks] at z; cases z
    · rw [ks] at z; cases z
    · have := nL sc z; rw [ks] at this; cases this
    · have one : ∀ {L' kk M}, j_LK h L' kk M → j_rf h L' 1 = some sc → False := fun l e => by
        obtain ⟨kL, b0, b1, arr, t, f1, f2, f3, -⟩ := l
        obtain rfl : arr = sc := Option.some.inj (f1.symm.trans e)
        rw [ks] at f2; cases f2; exact absurd f3 (by decide)
      rcases z with z | z | z
      · exact one mx.lG z
      · exact one mx.lR z
      · exact one mx.lQ z
  have nout : ¬ j_mo h G R Q out := fun z => by
    rcases z with (⟨c, z, z1⟩ | z) | z | z
    · rw [ko] at z; cases z; omega
    · rw [ko] at z; cases z
    · have := nL out z; rw [ko] at this; cases this
    · obtain ⟨t, ht⟩ := j_bk_k mx z; rw [ko] at ht; cases ht
  have s9 := o.2 sc (j_nn ks)
  have t9 := o.2 out (j_nn ko)
  refine ⟨⟨of2.1, w1, t9.1.trans ko, sa.on o, fun q hq hb => ?_, s9.1.trans ks, s9.2.1.trans ls⟩, fun k => (s9.2.2 nsc k).1, ofz, fun k => (t9.2.2 nout k).2.1⟩
  have hq0 := of2.2.1 q hq
  have kq := j_ow_ex w hq0
  obtain ⟨⟨t, ht⟩, hl⟩ := dj q hq0 (hb.imp id (fun z => cb q z kq))
  exact ⟨⟨t, (o.2 q kq).1.trans ht⟩, (o.2 q kq).2.1.trans hl⟩
/-- further values: the years, the beds, the years of runs -/
def z_B1 (z : j_Z) : Prop := (0 ≤ (z.1 6).toInt ∧ (z.1 6).toInt ≤ 3000) ∧ (∀ k, z_lt z 0 k → 0 ≤ (z.2.2.1 k 0).toInt ∧ (z.2.2.1 k 0).toInt ≤ 5) ∧ ∀ k, z_lt z 1 k → 0 ≤ (z.2.2.2.1 k 5).toInt ∧ (z.2.2.2.1 k 5).toInt ≤ 3000
theorem z_B1.eq {A B : j_Z} (v : z_B1 A) (e : z_eq B A) : z_B1 B := by
  obtain ⟨v1, v2, v3⟩ := v
  refine ⟨by rw [e.1 6 (by decide)]; exact v1, fun k hk => ?_, fun k hk => ?_⟩
  · rw [e.2.2.1 k 0 hk (by decide)]
    exact v2 k (e.lt (by decide) hk)
  · rw [e.2.2.2.1 k 5 hk (by decide)]
    exact v3 k (e.lt (by decide) hk)
theorem z_B10 : z_B1 z_s0 := ⟨⟨by decide, by decide⟩, fun k hk => by
  have hk : (k : Int) < (j_s0 0).toInt := hk
  have : ((j_s0 0).toInt) = 0 := by decide
  omega, fun k hk => by
  have hk : (k : Int) < (j_s0 1).toInt := hk
  have : ((j_s0 1).toInt) = 0 := by decide
  omega⟩
/-- mothers, daughters and what is gone are all motes that ever were -/
def z_U (z : j_Z) : Prop := ∀ k i, z_lt z 0 k → i < 2 → z.2.1 k i 0 + z.2.1 k i 1 + z.2.1 k i 2 = z.2.1 k i 3
theorem z_U.eq {A B : j_Z} (v : z_U A) (e : z_eq B A) : z_U B := fun k i hk hi => by
  rw [e.2.1 k i 0 hk hi (by decide), e.2.1 k i 1 hk hi (by decide), e.2.1 k i 2 hk hi (by decide), e.2.1 k i 3 hk hi (by decide)]
  exact v k i (e.lt (by decide) hk) hi
theorem z_U0 : z_U z_s0 := fun k i hk _ => by
  have hk : (k : Int) < (j_s0 0).toInt := hk
  have : ((j_s0 0).toInt) = 0 := by decide
  omega
def z_B (z : j_Z) : Prop := z_B1 z ∧ z_U z
theorem z_B.eq {A B : j_Z} (v : z_B A) (e : z_eq B A) : z_B B := ⟨v.1.eq e, v.2.eq e⟩
theorem z_B0 : z_B z_s0 := ⟨z_B10, z_U0⟩
/-- both hold the same -/
def j_LW (L sc x m out P G R Q : Nat) (h : j_H) : Prop := j_L0 L sc x m out P G R Q h ∧ z_I h x ∧ (z_V (z_c h x) ∧ z_B (z_c h x)) ∧ z_eq (z_d h m P G R Q) (z_c h x)
section LW
variable {L sc x m out P G R Q : Nat} {h h1 h2 : j_H}
theorem j_LW.fo (l : j_LW L sc x m out P G R Q h) (f : z_Fo x out h h1) : j_LW L sc x m out P G R Q h1 ∧ ∀ k, j_it h1 sc k = j_it h sc k := by
  obtain ⟨a, b, c⟩ := l.1.cls f.1.1 f.1.2.1 f.1.2.2
  exact ⟨⟨a, f.2.1, ⟨l.2.2.1.1.eq f.2.2, l.2.2.1.2.eq f.2.2⟩, c.tr (l.2.2.2.tr f.2.2.sy)⟩, b⟩
theorem j_LW.mg (l : j_LW L sc x m out P G R Q h) (w1 : ∃ ρ', j_MX ρ' h1 m P G R Q) (g : j_Mg m G R Q h h1) (e : z_eq (z_d h1 m P G R Q) (z_d h m P G R Q)) : j_LW L sc x m out P G R Q h1 := by
  obtain ⟨a, b, ⟨c, c2⟩, d⟩ := l.1.mod l.2.1 w1 g.1 g.2.1 g.2.2
  exact ⟨a, c, ⟨l.2.2.1.1.eq c2, l.2.2.1.2.eq c2⟩, e.tr (l.2.2.2.tr c2.sy)⟩
theorem j_LW.mf {ρ : Nat → Nat} (l : j_LW L sc x m out P G R Q h) (w : j_MX ρ h m P G R Q) (f : j_Mf ρ m h h1) : j_LW L sc x m out P G R Q h1 := l.mg ⟨ρ, w.f f⟩ (f.mg w) (z_mfd w f)
theorem j_L0.lq {q : Int} {A : Int32} {N : j_Z} {v : Option j_V} (l : j_L0 L sc x m out P G R Q h) (a : z_LQ x out h q A N v h1) : j_L0 L sc x m out P G R Q h1 ∧ (∀ k, j_it h1 sc k = j_it h sc k) ∧ z_eq (z_d h1 m P G R Q) (z_d h m P G R Q) := l.cls a.2.1.1 a.2.1.2.1 a.2.1.2.2
/-- a turn in which both were told alike -/
theorem j_LW.told {q q' : Int} {A : Int32} {N N' : j_Z} {v : Option j_V} (l : j_LW L sc x m out P G R Q h) (a : z_LQ x out h q A N v h1) (b : z_MS m P G R Q h1 q' N' h2) (hq : q' = q) (hN : q = 0 → z_eq N' N) (hT : q = 0 → z_V N ∧ z_B N) : j_LW L sc x m out P G R Q h2 ∧ j_lg h2 out 0 = j_lg h1 out 0 := by
  obtain ⟨l1, -, m1⟩ := l.1.lq a
  obtain ⟨b1, b2, b4, b5⟩ := b
  obtain ⟨-, -, a3, a4, a5⟩ := a
  have I1 : z_I h1 x := by
    by_cases z : q = 0
    · exact (a3 z).1
    · exact (a4 z).1
  obtain ⟨c1, -, ⟨c3, c5⟩, c4⟩ := l1.mod I1 b1 b2.1 b2.2.1 b2.2.2
  refine ⟨⟨c1, c3, ?_, ?_⟩, c4 0⟩
  · by_cases z : q = 0
    · exact ⟨(hT z).1.eq (c5.tr (a3 z).2), (hT z).2.eq (c5.tr (a3 z).2)⟩
    · exact ⟨l.2.2.1.1.eq (c5.tr (a4 z).2), l.2.2.1.2.eq (c5.tr (a4 z).2)⟩
  · by_cases z : q = 0
    · exact (b4 (hq.trans z)).tr ((hN z).tr ((a3 z).2.sy.tr c5.sy))
    · exact (b5 (fun y => z (hq.symm.trans y))).tr (m1.tr (l.2.2.2.tr ((a4 z).2.sy.tr c5.sy)))
theorem z_amc (e : z_eq (z_d h1 m P G R Q) (z_c h x)) : ∀ k, j_aK k = true → j_am h1 m P G R k = z_cn h x k := fun k hk => by
  rcases j_aKc hk with rfl | rfl | rfl | rfl | rfl | rfl
  · exact e.1 0 (by decide)
  · exact e.1 1 (by decide)
  · exact e.1 3 (by decide)
  · exact e.1 4 (by decide)
  · exact e.1 5 (by decide)
  · exact e.1 6 (by decide)
end LW
theorem j_cqz {p : Prop} {x y : Int} (hy : y ≠ 0) (h : j_cq p x y = 0) : p ∧ x = 0 := by
  by_cases hp : p
  · exact ⟨hp, (j_cqp hp).symm.trans h⟩
  · exact absurd ((j_cqn hp).symm.trans h) hy
theorem q_touch_c {A B : j_Z} {a b : Int32} (e : z_eq A B) : q_touch A a b = q_touch B a b := by
  unfold q_touch
  rw [e.1 0 (by decide)]
theorem j_ltc {A : j_Z} {i : Nat} {a : Int32} (h0 : 0 ≤ a.toInt) (h1 : a.toInt < (A.1 i).toInt) : z_lt A i a.toNatClampNeg := by
  unfold z_lt
  rw [j_clamp h0]; exact h1
theorem q_grain_c {σ τ : Nat → Int32} {a b c : Int32} (e : ∀ k, j_aK k = true → σ k = τ k) : q_grain σ a b c = q_grain τ a b c := by
  unfold q_grain
  rw [e 0 rfl]
theorem q_run_c {σ τ : Nat → Int32} {a b c d : Int32} (e : ∀ k, j_aK k = true → σ k = τ k) : q_run σ a b c d = q_run τ a b c d := by
  unfold q_run j_okr j_oke
  rw [e 0 rfl, e 1 rfl, e 5 rfl]
theorem q_pace_z {a b : Int32} (h : q_pace a b = 0) : 2 ≤ b.toInt ∧ b.toInt ≤ 200 := by
  by_cases c1 : a.toInt = 0 ∨ a.toInt = 1
  · by_cases c2 : 2 ≤ b.toInt ∧ b.toInt ≤ 200
    · exact c2
    · have := ((j_cqp c1).trans (j_cqn c2)).symm.trans h
      exact absurd this (by decide)
  · have := (j_cqn c1).symm.trans h
    exact absurd this (by decide)
theorem q_slip_z {a : Int32} (h : q_slip a = 0) : 0 ≤ a.toInt ∧ a.toInt ≤ 9 := (j_cqz (by decide) h).1
section CV
variable {A B : j_Z} {a b c d : Int32}
theorem cN_grain (e : z_eq A B) (hs : (A.1 0).toInt ≤ 8) : z_eq (n_grainz A a b c) (n_grainz B a b c) := n_grainz_c e (by omega)
theorem cV_grain (v : z_V A) (h : q_grain A.1 a b c = 0) : z_V (n_grainz A a b c) := by
  obtain ⟨h1, h2⟩ := j_cqz (by decide) h
  have h3 := (j_cqz (by decide) h2).1
  exact v.grain ⟨h1.1.1, h1.1.2⟩ ⟨h1.2.1.1, h1.2.1.2⟩ (by omega)
theorem cN_run (e : z_eq A B) (hs : (A.1 1).toInt ≤ 20) (h : q_run A.1 a b c d = 0) : z_eq (n_runF A a b c d) (n_runF B a b c d) := by
  obtain ⟨h1, -⟩ := j_cqz (by decide) h
  exact n_runF_c e (j_ltc h1.1.1 h1.1.2) (by omega)
theorem cV_run (v : z_V A) (h : q_run A.1 a b c d = 0) : z_V (n_runF A a b c d) := by
  obtain ⟨h1, h2⟩ := j_cqz (by decide) h
  obtain ⟨h3, h4⟩ := j_cqz (by decide) h2
  have h5 := (j_cqz (by decide) h4).1
  have v2 := v.2.1
  unfold j_oke at h3
  unfold j_okr at h1
  have en : (-(A.1 5)).toInt = -(A.1 5).toInt := by
    rw [Int32.toInt_neg, Int.bmod_def]
    omega
  exact v.run (j_ltc h1.1.1 h1.1.2) (by omega) (by omega) (by omega) (by omega)
theorem cN_pass (e : z_eq A B) : z_eq (n_years A a) (n_years B a) := n_years_c e
theorem cV_touch {t0 : Nat} (ht : t0 < 2) (v : z_V A) (h : q_touch A a b = 0) : z_V (n_touch t0 A a b) := by
  obtain ⟨h1, h2⟩ := j_cqz (by decide) h
  have h3 := (j_cqz (by decide) h2).1
  exact v.touch ht h3.1 h3.2
theorem cN_swap (e : z_eq A B) (h : q_swap A a b = 0) : z_eq (n_swap A a b) (n_swap B a b) := by
  obtain ⟨h1, -⟩ := j_cqz (by decide) h
  exact n_swap_c e (j_ltc h1.1.1 h1.1.2) (j_ltc h1.2.1 h1.2.2)
theorem cN_print (e : z_eq A B) (hs : (A.1 2).toInt ≤ 10) (h : q_print A a b = 0) : z_eq (n_print A a b) (n_print B a b) := by
  obtain ⟨h1, -⟩ := j_cqz (by decide) h
  exact n_print_c e (j_ltc h1.1.1 h1.1.2) (by omega)
theorem cB1_grain (v : z_B1 A) (h : q_grain A.1 a b c = 0) : z_B1 (n_grainz A a b c) := by
  obtain ⟨h1, h2⟩ := j_cqz (by decide) h
  have h3 := (j_cqz (by decide) h2).1
  refine ⟨v.1, fun k hk => ?_, fun k hk => v.2.2 k (z_u1_lt (R' := A.2) (by decide) hk)⟩
  have hk : (k : Int) < (A.1 0 + Int32.ofInt 1).toInt := hk
  show 0 ≤ (if k = (A.1 0).toNatClampNeg then c else A.2.2.1 k 0).toInt ∧ (if k = (A.1 0).toNatClampNeg then c else A.2.2.1 k 0).toInt ≤ 5
  by_cases e : k = (A.1 0).toNatClampNeg
  · rw [if_pos e]; exact h1.2.2
  · rw [if_neg e]
    rw [j_inc1 (by omega)] at hk
    refine v.2.1 k ?_
    unfold z_lt
    by_cases q : 0 ≤ (A.1 0).toInt
    · have := j_clamp q; omega
    · omega
theorem cB1_run (v : z_B1 A) (h : q_run A.1 a b c d = 0) : z_B1 (n_runF A a b c d) := by
  obtain ⟨h1, h2⟩ := j_cqz (by decide) h
  obtain ⟨h3, h4⟩ := j_cqz (by decide) h2
  have h5 := (j_cqz (by decide) h4).1
  refine ⟨v.1, fun k hk => v.2.1 k (z_u1_lt (R' := A.2) (by decide) hk), fun k hk => ?_⟩
  have hk : (k : Int) < (A.1 1 + Int32.ofInt 1).toInt := hk
  by_cases e : k = (A.1 1).toNatClampNeg
  · have f : (n_runF A a b c d).2.2.2.1 k 5 = A.1 6 := if_pos e
    rw [f]; exact v.1
  · have f : (n_runF A a b c d).2.2.2.1 k 5 = A.2.2.2.1 k 5 := if_neg e
    rw [f]
    rw [j_inc1 (by omega)] at hk
    refine v.2.2 k ?_
    unfold z_lt
    by_cases q : 0 ≤ (A.1 1).toInt
    · have := j_clamp q; omega
    · omega
theorem cB1_pass (v : z_B1 A) (h : q_pass A.1 a = 0) : z_B1 (n_years A a) := by
  obtain ⟨h1, h2⟩ := j_cqz (by decide) h
  have h3 := (j_cqz (by decide) h2).1
  have v1 := v.1
  have e : (A.1 6 + a).toInt = (A.1 6).toInt + a.toInt := j_addI (by omega) (by omega)
  refine ⟨?_, fun k hk => v.2.1 k (z_u1_lt (R' := A.2) (by decide) hk), fun k hk => v.2.2 k (z_u1_lt (R' := A.2) (by decide) hk)⟩
  show 0 ≤ (A.1 6 + a).toInt ∧ (A.1 6 + a).toInt ≤ 3000
  omega
theorem cB1_touch {t0 : Nat} (v : z_B1 A) : z_B1 (n_touch t0 A a b) := by
  refine ⟨v.1, fun k hk => ?_, v.2.2⟩
  show 0 ≤ (if k = a.toNatClampNeg then A.2.2.1 k 0 else A.2.2.1 k 0).toInt ∧ (if k = a.toNatClampNeg then A.2.2.1 k 0 else A.2.2.1 k 0).toInt ≤ 5
  have hk : z_lt A 0 k := hk
  by_cases e : k = a.toNatClampNeg
  · rw [if_pos e]; exact v.2.1 k hk
  · rw [if_neg e]; exact v.2.1 k hk
theorem cB1_pace (v : z_B1 A) : z_B1 (n_pacez A a b) := by
  have up : ∀ i k, i < 3 → z_lt (n_pacez A a b) i k → z_lt A i k := fun i k hi h => z_u1_lt (R' := A.2) (by rcases j_pf34' a with ⟨_, q⟩ | ⟨_, q⟩ <;> rw [q] <;> omega) h
  refine ⟨?_, fun k hk => v.2.1 k (up 0 k (by decide) hk), fun k hk => v.2.2 k (up 1 k (by decide) hk)⟩
  show 0 ≤ (j_u1 A.1 (j_pf a) b 6).toInt ∧ (j_u1 A.1 (j_pf a) b 6).toInt ≤ 3000
  rcases j_pf34' a with ⟨_, q⟩ | ⟨_, q⟩
  · rw [q]; exact v.1
  · rw [q]; exact v.1
theorem cB1_slip (v : z_B1 A) : z_B1 (n_slipz A a) := ⟨v.1, fun k hk => v.2.1 k (z_u1_lt (R' := A.2) (by decide) hk), fun k hk => v.2.2 k (z_u1_lt (R' := A.2) (by decide) hk)⟩
theorem cB1_withdraw (v : z_B1 A) : z_B1 (n_withdraw A a) := by
  refine ⟨v.1, v.2.1, fun k hk => ?_⟩
  show 0 ≤ (if k = a.toNatClampNeg then A.2.2.2.1 k 5 else A.2.2.2.1 k 5).toInt ∧ (if k = a.toNatClampNeg then A.2.2.2.1 k 5 else A.2.2.2.1 k 5).toInt ≤ 3000
  have hk : z_lt A 1 k := hk
  by_cases e : k = a.toNatClampNeg
  · rw [if_pos e]; exact v.2.2 k hk
  · rw [if_neg e]; exact v.2.2 k hk
theorem cB1_swap (v : z_B1 A) : z_B1 (n_swap A a b) := ⟨v.1, v.2.1, fun k hk => v.2.2 k hk⟩
theorem cB1_print (v : z_B1 A) : z_B1 (n_print A a b) := ⟨v.1, fun k hk => v.2.1 k (z_u1_lt (R' := A.2) (by decide) hk), fun k hk => v.2.2 k (z_u1_lt (R' := A.2) (by decide) hk)⟩
theorem z_rg {l d m g : Int32} : l + (d + (m - l)) + g = m + d + g := by
  have e : l + (d + (m - l)) = m + d := by
    have t : d + (m + -l) = (m + d) + -l := by rw [← Int32.add_assoc, Int32.add_comm d m]
    rw [Int32.sub_eq_add_neg, t, Int32.add_comm l, Int32.add_assoc (m + d), Int32.add_left_neg, Int32.add_zero]
  rw [e]
theorem z_rt0 {k d m g : Int32} : (m - k) + d + (g + k) = m + d + g := by
  rw [Int32.sub_eq_add_neg, Int32.add_assoc m, Int32.add_comm (-k) d, ← Int32.add_assoc m, Int32.add_assoc (m + d), Int32.add_comm g k, ← Int32.add_assoc (-k), Int32.add_left_neg, Int32.zero_add]
theorem z_rt1 {k d m g : Int32} : m + (d - k) + (g + k) = m + d + g := by
  rw [Int32.sub_eq_add_neg, ← Int32.add_assoc m, Int32.add_assoc (m + d), Int32.add_comm g k, ← Int32.add_assoc (-k), Int32.add_left_neg, Int32.zero_add]
theorem cU_grain (v : z_U A) (h : q_grain A.1 a b c = 0) : z_U (n_grainz A a b c) := by
  obtain ⟨h1, h2⟩ := j_cqz (by decide) h
  have h3 := (j_cqz (by decide) h2).1
  intro k i hk hi
  have hk : (k : Int) < (A.1 0 + Int32.ofInt 1).toInt := hk
  by_cases e : k = (A.1 0).toNatClampNeg
  · have f : ∀ t, (n_grainz A a b c).2.1 k i t = (if t = 0 ∨ t = 3 then (if i = 0 then a else b) else Int32.ofInt 0) := fun t => if_pos e
    rw [f, f, f, f, if_pos (show (0 : Nat) = 0 ∨ (0 : Nat) = 3 from Or.inl rfl), if_neg (show ¬ ((1 : Nat) = 0 ∨ (1 : Nat) = 3) by decide), if_neg (show ¬ ((2 : Nat) = 0 ∨ (2 : Nat) = 3) by decide), if_pos (show (3 : Nat) = 0 ∨ (3 : Nat) = 3 from Or.inr rfl)]
    exact (Int32.add_zero _).trans (Int32.add_zero _)
  · have f : ∀ t, (n_grainz A a b c).2.1 k i t = A.2.1 k i t := fun t => if_neg e
    rw [f, f, f, f]
    rw [j_inc1 (by omega)] at hk
    refine v k i ?_ hi
    unfold z_lt
    by_cases q : 0 ≤ (A.1 0).toInt
    · have := j_clamp q; omega
    · omega
theorem cU_pass (v : z_U A) : z_U (n_years A a) := by
  intro k i hk hi
  have hk : z_lt A 0 k := z_u1_lt (R' := A.2) (by decide) hk
  show z_lf A a k i + (A.2.1 k i 1 + (A.2.1 k i 0 - z_lf A a k i)) + A.2.1 k i 2 = A.2.1 k i 3
  rw [z_rg]
  exact v k i hk hi
theorem cU_touch {t0 : Nat} (ht : t0 < 2) (v : z_U A) : z_U (n_touch t0 A a b) := by
  intro k i hk hi
  have hk : z_lt A 0 k := hk
  by_cases e : k = a.toNatClampNeg
  · have f : ∀ t, (n_touch t0 A a b).2.1 k i t = (if t = t0 then A.2.1 k i t0 - z_take (A.2.1 k i t0) b else if t = 2 then A.2.1 k i 2 + z_take (A.2.1 k i t0) b else A.2.1 k i t) := fun t => if_pos e
    rw [f, f, f, f]
    match t0, ht with
    | 0, _ =>
      rw [if_pos (show (0 : Nat) = 0 from rfl), if_neg (show ¬ (1 : Nat) = 0 by decide), if_neg (show ¬ (1 : Nat) = 2 by decide), if_neg (show ¬ (2 : Nat) = 0 by decide), if_pos (show (2 : Nat) = 2 from rfl), if_neg (show ¬ (3 : Nat) = 0 by decide), if_neg (show ¬ (3 : Nat) = 2 by decide), z_rt0]
      exact v k i hk hi
    | 1, _ =>
      rw [if_neg (show ¬ (0 : Nat) = 1 by decide), if_neg (show ¬ (0 : Nat) = 2 by decide), if_pos (show (1 : Nat) = 1 from rfl), if_neg (show ¬ (2 : Nat) = 1 by decide), if_pos (show (2 : Nat) = 2 from rfl), if_neg (show ¬ (3 : Nat) = 1 by decide), if_neg (show ¬ (3 : Nat) = 2 by decide), z_rt1]
      exact v k i hk hi
    | n + 2, ht => omega
  · have f : ∀ t, (n_touch t0 A a b).2.1 k i t = A.2.1 k i t := fun t => if_neg e
    rw [f, f, f, f]
    exact v k i hk hi
theorem cB_grain (v : z_B A) (h : q_grain A.1 a b c = 0) : z_B (n_grainz A a b c) := ⟨cB1_grain v.1 h, cU_grain v.2 h⟩
theorem cB_run (v : z_B A) (h : q_run A.1 a b c d = 0) : z_B (n_runF A a b c d) := ⟨cB1_run v.1 h, fun k i hk hi => v.2 k i (z_u1_lt (R' := A.2) (by decide) hk) hi⟩
theorem cB_pass (v : z_B A) (h : q_pass A.1 a = 0) : z_B (n_years A a) := ⟨cB1_pass v.1 h, cU_pass v.2⟩
theorem cB_touch {t0 : Nat} (ht : t0 < 2) (v : z_B A) : z_B (n_touch t0 A a b) := ⟨cB1_touch v.1, cU_touch ht v.2⟩
theorem cB_pace (v : z_B A) : z_B (n_pacez A a b) := ⟨cB1_pace v.1, fun k i hk hi => v.2 k i (z_u1_lt (R' := A.2) (by rcases j_pf34' a with ⟨_, q⟩ | ⟨_, q⟩ <;> rw [q] <;> omega) hk) hi⟩
theorem cB_slip (v : z_B A) : z_B (n_slipz A a) := ⟨cB1_slip v.1, fun k i hk hi => v.2 k i (z_u1_lt (R' := A.2) (by decide) hk) hi⟩
theorem cB_withdraw (v : z_B A) : z_B (n_withdraw A a) := ⟨cB1_withdraw v.1, v.2⟩
theorem cB_swap (v : z_B A) : z_B (n_swap A a b) := ⟨cB1_swap v.1, v.2⟩
theorem cB_print (v : z_B A) : z_B (n_print A a b) := ⟨cB1_print v.1, fun k i hk hi => v.2 k i (z_u1_lt (R' := A.2) (by decide) hk) hi⟩
end CV
