/-! the model: what holds of it, and what its calls leave as it was -/
def j_gA (ρ : Nat → Nat) (h : j_H) (e : Nat) : Prop := ∀ k, k < 4 → ∃ b, j_rf h e k = some b ∧ j_kd h b = some (.inr 0) ∧ j_ln h b = 2 ∧ ρ b = 2
def j_rA (h : j_H) (e : Nat) : Prop := 0 ≤ (j_it h e 1).toInt ∧ (j_it h e 1).toInt ≤ 1
def j_pA (ρ : Nat → Nat) (h : j_H) (R j e : Nat) : Prop := ρ e = 3 ∧ j_ln h e = 3 ∧ 0 ≤ (j_it h e 0).toInt ∧ (j_it h e 0).toInt < (j_it h R 2).toInt ∧ ((j_it h e 2).toInt = -1 ∨ (0 ≤ (j_it h e 2).toInt ∧ (j_it h e 2).toInt < (j : Int)))
/-- of each thing of a list -/
def j_ea (h : j_H) (L : Nat) (Pr : Nat → Nat → Prop) : Prop := ∀ arr, j_rf h L 1 = some arr → ∀ (j e : Nat), (j : Int) < (j_it h L 2).toInt → j_rf h arr j = some e → Pr j e
/-- the things of the lists by their roles; the grains' arrays apart -/
def j_MY (ρ : Nat → Nat) (h : j_H) (G R : Nat) : Prop := j_ea h G (fun j e => ρ e = 1000 + j) ∧ j_ea h R (fun j e => ρ e = 2000 + j) ∧ ∃ ν : Nat → Nat, j_ea h G (fun j e => ∀ t b, t < 4 → j_rf h e t = some b → ν b = 4 * j + t)
def j_MX (ρ : Nat → Nat) (h : j_H) (m P G R Q : Nat) : Prop := j_kd h m = some (.inl 12) ∧ (j_rf h m 1 = some P ∧ j_kd h P = some (.inr 0) ∧ j_ln h P = 2 ∧ ρ P = 1 ∧ ∀ i, i < 2 → j_it h P i ≠ 0) ∧
  (j_rf h m 4 = some G ∧ j_LK h G (.inl 10) 8) ∧ (j_rf h m 5 = some R ∧ j_LK h R (.inl 11) 20) ∧ (j_rf h m 6 = some Q ∧ j_LK h Q (.inr 0) 10) ∧ (j_Ap h G R ∧ j_Ap h G Q ∧ j_Ap h R Q) ∧ j_ea h G (fun _ e => j_gA ρ h e) ∧ j_ea h R (fun _ e => j_rA h e) ∧ j_ea h Q (fun j e => j_pA ρ h R j e) ∧ (∀ q, j_kd h q = none → ρ q = 0) ∧ j_MY ρ h G R
section MX
variable {ρ : Nat → Nat} {h h1 h2 : j_H} {m P G R Q : Nat}
theorem j_MX.km (w : j_MX ρ h m P G R Q) : j_kd h m = some (.inl 12) := w.1
theorem j_MX.eP (w : j_MX ρ h m P G R Q) : j_rf h m 1 = some P := w.2.1.1
theorem j_MX.kP (w : j_MX ρ h m P G R Q) : j_kd h P = some (.inr 0) := w.2.1.2.1
theorem j_MX.nP (w : j_MX ρ h m P G R Q) : j_ln h P = 2 := w.2.1.2.2.1
theorem j_MX.rP (w : j_MX ρ h m P G R Q) : ρ P = 1 := w.2.1.2.2.2.1
theorem j_MX.zP (w : j_MX ρ h m P G R Q) : ∀ i, i < 2 → j_it h P i ≠ 0 := w.2.1.2.2.2.2
theorem j_MX.eG (w : j_MX ρ h m P G R Q) : j_rf h m 4 = some G := w.2.2.1.1
theorem j_MX.lG (w : j_MX ρ h m P G R Q) : j_LK h G (.inl 10) 8 := w.2.2.1.2
theorem j_MX.eR (w : j_MX ρ h m P G R Q) : j_rf h m 5 = some R := w.2.2.2.1.1
theorem j_MX.lR (w : j_MX ρ h m P G R Q) : j_LK h R (.inl 11) 20 := w.2.2.2.1.2
theorem j_MX.eQ (w : j_MX ρ h m P G R Q) : j_rf h m 6 = some Q := w.2.2.2.2.1.1
theorem j_MX.lQ (w : j_MX ρ h m P G R Q) : j_LK h Q (.inr 0) 10 := w.2.2.2.2.1.2
theorem j_MX.ap (w : j_MX ρ h m P G R Q) : j_Ap h G R ∧ j_Ap h G Q ∧ j_Ap h R Q := w.2.2.2.2.2.1
theorem j_MX.aG (w : j_MX ρ h m P G R Q) : j_ea h G (fun _ e => j_gA ρ h e) := w.2.2.2.2.2.2.1
theorem j_MX.aR (w : j_MX ρ h m P G R Q) : j_ea h R (fun _ e => j_rA h e) := w.2.2.2.2.2.2.2.1
theorem j_MX.aQ (w : j_MX ρ h m P G R Q) : j_ea h Q (fun j e => j_pA ρ h R j e) := w.2.2.2.2.2.2.2.2.1
theorem j_MX.rz (w : j_MX ρ h m P G R Q) : ∀ q, j_kd h q = none → ρ q = 0 := w.2.2.2.2.2.2.2.2.2.1
theorem j_MX.y (w : j_MX ρ h m P G R Q) : j_MY ρ h G R := w.2.2.2.2.2.2.2.2.2.2
theorem j_MX.b (w : j_MX ρ h m P G R Q) : (0 ≤ (j_it h G 2).toInt ∧ (j_it h G 2).toInt ≤ 8) ∧ (0 ≤ (j_it h R 2).toInt ∧ (j_it h R 2).toInt ≤ 20) ∧ (0 ≤ (j_it h Q 2).toInt ∧ (j_it h Q 2).toInt ≤ 10) := ⟨⟨w.lG.2.1, w.lG.2.2.1⟩, ⟨w.lR.2.1, w.lR.2.2.1⟩, ⟨w.lQ.2.1, w.lQ.2.2.1⟩⟩
theorem j_ea.get {L e : Nat} {i : Int32} {Pr : Nat → Nat → Prop} (a : j_ea h L Pr) (h0 : 0 ≤ i.toInt) (h1 : i.toInt < (j_it h L 2).toInt) (g : ∃ arr, j_rf h L 1 = some arr ∧ j_rf h arr i.toNatClampNeg = some e) : Pr i.toNatClampNeg e := by
  obtain ⟨arr, e1, e2⟩ := g
  exact a arr e1 _ e (by rw [j_clamp h0]; exact h1) e2
/-- what the model's calls may change -/
def j_mi (h : j_H) (q : Nat) : Prop := (∃ c, j_kd h q = some (.inl c) ∧ (c ≤ 2 ∨ (10 ≤ c ∧ c ≤ 12))) ∨ j_kd h q = some (.inr 0)
/-- what its asking calls may change: thrown and sum, iterators and texts, what isn't in use -/
def j_sg (ρ : Nat → Nat) (m : Nat) (h : j_H) (q : Nat) : Prop := (q = m ∧ j_kd h q = some (.inl 12)) ∨ (∃ c, j_kd h q = some (.inl c) ∧ c ≤ 2) ∨ ((j_kd h q = some (.inr 0) ∨ j_kd h q = some (.inl 10) ∨ j_kd h q = some (.inl 11)) ∧ ρ q = 0)
theorem j_sg.mi {q : Nat} (z : j_sg ρ m h q) : j_mi h q := by
  rcases z with ⟨_, z⟩ | ⟨c, z, hc⟩ | ⟨z | z | z, _⟩
  · exact Or.inl ⟨12, z, by decide⟩
  · exact Or.inl ⟨c, z, Or.inl hc⟩
  · exact Or.inr z
  · exact Or.inl ⟨10, z, by decide⟩
  · exact Or.inl ⟨11, z, by decide⟩
def j_Mf (ρ : Nat → Nat) (m : Nat) (h h1 : j_H) : Prop := j_On (j_sg ρ m h) h h1 ∧ ((∀ k, k = 1 ∨ (4 ≤ k ∧ k ≤ 6) → j_rf h1 m k = j_rf h m k) ∧ ∀ k, k = 2 ∨ k = 3 → j_it h1 m k = j_it h m k) ∧ (∀ e, j_kd h e = some (.inl 10) → ∀ k, k < 4 → j_rf h1 e k = j_rf h e k) ∧
  (∀ e, j_kd h e = some (.inl 11) → j_rA h e → j_rA h1 e) ∧ (∀ b, j_kd h b = some (.inr 0) → ρ b = 3 → ∀ k, j_it h1 b k = j_it h b k) ∧ (∀ b, j_kd h b = some (.inr 0) → ρ b = 1 → ∀ k, j_it h1 b k = j_it h b k) ∧ ∀ q c, j_kd h1 q = some (.inl c) → 3 ≤ c → c ≤ 9 → j_kd h q = some (.inl c)
theorem j_sg.on {q : Nat} {S : Nat → Prop} (o : j_On S h h1) (hq : j_kd h q ≠ none) : j_sg ρ m h1 q ↔ j_sg ρ m h q := by
  unfold j_sg
  rw [(o.2 q hq).1]
theorem j_mi.on {q : Nat} {S : Nat → Prop} (o : j_On S h h1) (hq : j_kd h q ≠ none) : j_mi h1 q ↔ j_mi h q := by
  unfold j_mi
  rw [(o.2 q hq).1]
theorem j_Mf.rf : j_Mf ρ m h h := ⟨j_On.rf, ⟨fun _ _ => rfl, fun _ _ => rfl⟩, fun _ _ _ _ => rfl, fun _ _ z => z, fun _ _ _ _ => rfl, fun _ _ _ _ => rfl, fun _ _ z _ _ => z⟩
theorem j_Mf.kd {q : Nat} {s : Nat ⊕ Nat} (f : j_Mf ρ m h h1) (k : j_kd h q = some s) : j_kd h1 q = some s := (f.1.2 q (j_nn k)).1.trans k
theorem j_Mf.ln {q : Nat} {s : Nat ⊕ Nat} (f : j_Mf ρ m h h1) (k : j_kd h q = some s) : j_ln h1 q = j_ln h q := (f.1.2 q (j_nn k)).2.1
theorem j_Mf.tr (a : j_Mf ρ m h h1) (b : j_Mf ρ m h1 h2) : j_Mf ρ m h h2 := by
  have a9 := a
  obtain ⟨a1, ⟨a2, a3⟩, a4, a5, a6, a7, a8⟩ := a
  obtain ⟨b1, ⟨b2, b3⟩, b4, b5, b6, b7, b8⟩ := b
  refine ⟨⟨b1.1.trans a1.1, fun q hq => ?_⟩, ⟨fun k hk => (b2 k hk).trans (a2 k hk), fun k hk => (b3 k hk).trans (a3 k hk)⟩, fun e he k hk => (b4 e (a9.kd he) k hk).trans (a4 e he k hk), fun e he r => b5 e (a9.kd he) (a5 e he r), fun b hb r k => (b6 b (a9.kd hb) r k).trans (a6 b hb r k), fun b hb r k => (b7 b (a9.kd hb) r k).trans (a7 b hb r k), fun q c z hc h9 => a8 q c (b8 q c z hc h9) hc h9⟩
  obtain ⟨u1, u2, u3⟩ := a1.2 q hq
  have hq1 : j_kd h1 q ≠ none := by rw [u1]; exact hq
  obtain ⟨v1, v2, v3⟩ := b1.2 q hq1
  refine ⟨v1.trans u1, v2.trans u2, fun hn k => ?_⟩
  have p := u3 hn k
  have r := v3 (fun z => hn ((j_sg.on a1 hq).mp z)) k
  exact ⟨r.1.trans p.1, r.2.1.trans p.2.1, r.2.2.trans p.2.2⟩
theorem j_Mf.sm {q : Nat} {s : Nat ⊕ Nat} (f : j_Mf ρ m h h1) (k : j_kd h q = some s) (hs : s = .inl 3 ∨ ∃ t, s = .inr t ∧ t % 10 = 2) : ∀ j, j_it h1 q j = j_it h q j ∧ j_rf h1 q j = j_rf h q j := fun j => by
  have hn : ¬ j_sg ρ m h q := by
    rintro (⟨-, z⟩ | ⟨c, z, z1⟩ | ⟨z | z | z, -⟩)
    all_goals
      rw [k] at z
      rcases hs with rfl | ⟨t, rfl, ht⟩
    · cases z
    · cases z
    · cases z; omega
    · cases z
    · cases z
    · cases z; omega
    · cases z
    · cases z
    · cases z
    · cases z
  have := (f.1.2 q (j_nn k)).2.2 hn j
  exact ⟨this.1, this.2.2⟩
theorem j_Mf.lk {L : Nat} {kk : Nat ⊕ Nat} {M : Int} (f : j_Mf ρ m h h1) (l : j_LK h L kk M) : j_LK h1 L kk M ∧ (j_it h1 L 2 = j_it h L 2 ∧ j_rf h1 L 1 = j_rf h L 1) ∧ ∀ arr, j_rf h L 1 = some arr → j_ln h1 arr = j_ln h arr ∧ ∀ j, j_rf h1 arr j = j_rf h arr j := by
  obtain ⟨kL, b0, b1, arr, t, f1, f2, f3, f4, f5, f6⟩ := l
  have sL := f.sm kL (Or.inl rfl)
  have sA := f.sm f2 (Or.inr ⟨t, rfl, f3⟩)
  have i2 := (sL 2).1
  refine ⟨⟨f.kd kL, by rw [i2]; exact b0, by rw [i2]; exact b1, arr, t, ((sL 1).2).trans f1, f.kd f2, f3, by rw [i2, f.ln f2]; exact f4, by rw [f.ln f2, f.1.1]; exact f5, fun j hj => ?_⟩, ⟨i2, (sL 1).2⟩, fun a ha => ?_⟩
  · rw [i2] at hj
    obtain ⟨y, y1, y2⟩ := f6 j hj
    exact ⟨y, ((sA j).2).trans y1, f.kd y2⟩
  · obtain rfl : arr = a := Option.some.inj (f1.symm.trans ha)
    exact ⟨f.ln f2, fun j => (sA j).2⟩
theorem j_ea.mf {L : Nat} {kk : Nat ⊕ Nat} {M : Int} {Pr Pr1 : Nat → Nat → Prop} (a : j_ea h L Pr) (f : j_Mf ρ m h h1) (l : j_LK h L kk M) (hp : ∀ j e, j_kd h e = some kk → Pr j e → Pr1 j e) : j_ea h1 L Pr1 := by
  obtain ⟨-, ⟨i2, r1⟩, r2⟩ := f.lk l
  intro arr e1 j e hj e2
  rw [r1] at e1
  rw [i2] at hj
  rw [(r2 arr e1).2 j] at e2
  obtain ⟨kL, b0, b1, arr', t, f1, f2, f3, f4, f5, f6⟩ := l
  obtain rfl : arr' = arr := Option.some.inj (f1.symm.trans e1)
  obtain ⟨y, y1, y2⟩ := f6 j hj
  obtain rfl : y = e := Option.some.inj (y1.symm.trans e2)
  exact hp j y y2 (a arr' e1 j y hj e2)
theorem j_MX.f (w : j_MX ρ h m P G R Q) (f : j_Mf ρ m h h1) : j_MX ρ h1 m P G R Q := by
  have f9 := f
  obtain ⟨a1, ⟨a2, a3⟩, a4, a5, a6, a7, a8⟩ := f
  obtain ⟨gG, ⟨iG, rG⟩, cG⟩ := f9.lk w.lG
  obtain ⟨gR, ⟨iR, rR⟩, cR⟩ := f9.lk w.lR
  obtain ⟨gQ, ⟨iQ, rQ⟩, cQ⟩ := f9.lk w.lQ
  refine ⟨f9.kd w.km, ⟨(a2 1 (Or.inl rfl)).trans w.eP, f9.kd w.kP, (f9.ln w.kP).trans w.nP, w.rP, fun i hi => by rw [a7 P w.kP w.rP i]; exact w.zP i hi⟩, ⟨(a2 4 (Or.inr ⟨by decide, by decide⟩)).trans w.eG, gG⟩, ⟨(a2 5 (Or.inr ⟨by decide, by decide⟩)).trans w.eR, gR⟩, ⟨(a2 6 (Or.inr ⟨by decide, by decide⟩)).trans w.eQ, gQ⟩, ⟨w.ap.1.mv rG rR (fun a ha => (cG a ha).1), w.ap.2.1.mv rG rQ (fun a ha => (cG a ha).1), w.ap.2.2.mv rR rQ (fun a ha => (cR a ha).1)⟩, ?_, ?_, ?_, fun q hq => w.rz q ?_, ?_⟩
  · refine w.aG.mf f9 w.lG (fun j e ke g k hk => ?_)
    obtain ⟨b, b1, b2, b3, b4⟩ := g k hk
    exact ⟨b, (a4 e ke k hk).trans b1, f9.kd b2, (f9.ln b2).trans b3, b4⟩
  · exact w.aR.mf f9 w.lR (fun j e ke g => a5 e ke g)
  · refine w.aQ.mf f9 w.lQ (fun j e ke g => ?_)
    obtain ⟨g1, g2, g3, g4, g5⟩ := g
    have i := a6 e ke g1
    exact ⟨g1, (f9.ln ke).trans g2, by rw [i]; exact g3, by rw [i, iR]; exact g4, by rw [i]; exact g5⟩
  · cases z : j_kd h q with
    | none => rfl
    | some k => rw [f9.kd z] at hq; cases hq
  · obtain ⟨y1, y2, ν, y3⟩ := w.y
    exact ⟨y1.mf f9 w.lG (fun j e _ z => z), y2.mf f9 w.lR (fun j e _ z => z), ν, y3.mf f9 w.lG (fun j e ke z t b ht eb => z t b ht (by rw [← a4 e ke t ht]; exact eb))⟩
theorem j_Mf.sz {L : Nat} (f : j_Mf ρ m h h1) (k : j_kd h L = some (.inl 3)) : j_it h1 L 2 = j_it h L 2 := (f.sm k (Or.inl rfl) 2).1
/-- the steps -/
theorem j_Mf.fi {k : Nat} {x : Int32} (km : j_kd h m = some (.inl 12)) (hk : k ≠ 2 ∧ k ≠ 3) : j_Mf ρ m h (j_up h m k (j_i x)) := by
  refine ⟨j_On.up (Or.inl ⟨rfl, km⟩), ⟨fun _ _ => rfl, fun j hj => j_upm (fun z => by rcases hj with rfl | rfl; exact hk.1 z.symm; exact hk.2 z.symm)⟩, fun _ _ _ _ => rfl, fun e he r => ?_, fun b hb _ k => ?_, fun b hb _ k => ?_, fun _ _ z _ _ => z⟩
  · have ne : e ≠ m := fun z => by rw [z, km] at he; cases he
    unfold j_rA
    rw [(j_up_ne h (j_i x) ne 1).1]
    exact r
  · have ne : b ≠ m := fun z => by rw [z, km] at hb; cases hb
    exact (j_up_ne h (j_i x) ne k).1
  · have ne : b ≠ m := fun z => by rw [z, km] at hb; cases hb
    exact (j_up_ne h (j_i x) ne k).1
theorem j_Mf.fl {k : Nat} {x : Int64} (km : j_kd h m = some (.inl 12)) : j_Mf ρ m h (j_up h m k (j_l x)) :=
  ⟨j_On.up (Or.inl ⟨rfl, km⟩), ⟨fun _ _ => rfl, fun _ _ => rfl⟩, fun _ _ _ _ => rfl, fun _ _ z => z, fun _ _ _ _ => rfl, fun _ _ _ _ => rfl, fun _ _ z _ _ => z⟩
theorem j_Mf.ar {b i : Nat} {x : Int32} (km : j_kd h m = some (.inl 12)) (kb : j_kd h b = some (.inr 0)) (hb : ρ b = 0 ∧ (ρ b = 1 → False)) : j_Mf ρ m h (j_ui h b i x) := by
  have nm : m ≠ b := fun z => by rw [z, kb] at km; cases km
  refine ⟨j_On.up (v := j_i x) (Or.inr (Or.inr ⟨Or.inl kb, hb.1⟩)), ⟨fun _ _ => rfl, fun j _ => (j_up_ne h (j_i x) nm j).1⟩, fun _ _ _ _ => rfl, fun e' he r => ?_, fun b' hb' r k => ?_, fun b' hb' r k => ?_, fun _ _ z _ _ => z⟩
  · have ne : e' ≠ b := fun z => by rw [z, kb] at he; cases he
    unfold j_rA
    rw [show j_it (j_ui h b i x) e' 1 = j_it h e' 1 from (j_up_ne h (j_i x) ne 1).1]; exact r
  · have ne : b' ≠ b := fun z => by rw [z, hb.1] at r; exact absurd r (by decide)
    exact (j_up_ne h (j_i x) ne k).1
  · have ne : b' ≠ b := fun z => by rw [z] at r; exact hb.2 r
    exact (j_up_ne h (j_i x) ne k).1
theorem j_Mf.on (km : j_kd h m = some (.inl 12)) (b : j_On (fun _ => False) h h1) (nk : ∀ q c, j_kd h1 q = some (.inl c) → 3 ≤ c → c ≤ 9 → j_kd h q = some (.inl c)) : j_Mf ρ m h h1 := by
  have o : ∀ q, j_kd h q ≠ none → ∀ k, j_it h1 q k = j_it h q k ∧ j_rf h1 q k = j_rf h q k := fun q hq k => by
    have := (b.2 q hq).2.2 (fun z => z) k
    exact ⟨this.1, this.2.2⟩
  refine ⟨b.mono (fun q hq z => z.elim), ⟨fun k _ => (o m (j_nn km) k).2, fun k _ => (o m (j_nn km) k).1⟩, fun e he k _ => (o e (j_nn he) k).2, fun e he r => ?_, fun b hb _ k => (o b (j_nn hb) k).1, fun b hb _ k => (o b (j_nn hb) k).1, nk⟩
  · unfold j_rA
    rw [(o e (j_nn he) 1).1]; exact r
theorem j_Mf.bx {N : Nat → Prop} (km : j_kd h m = some (.inl 12)) (b : j_Bx N h h1) (hN : ∀ q, N q → j_kd h q = none) : j_Mf ρ m h h1 :=
  j_Mf.on km (b.2.1.mono (fun q hq z => hq (hN q z))) (fun q c z hc _ => b.2.2 q c z (by omega))
theorem j_Mf.nw {b n : Nat} {kd : Nat ⊕ Nat} (km : j_kd h m = some (.inl 12)) (hb : j_kd h b = none) (hk : ∀ c, kd = .inl c → c < 3 ∨ 9 < c) : j_Mf ρ m h (j_nw h b kd n) := by
  refine j_Mf.on km (j_On.nw hb) (fun q c z hc h9 => ?_)
  by_cases e : q = b
  · have z : (if q = b then some kd else j_kd h q) = some (.inl c) := z
    rw [if_pos e] at z
    have := hk c (Option.some.inj z)
    omega
  · exact (if_neg e).symm.trans z
/-- the model's numbers, numbered as the class's -/
def j_am (h : j_H) (m P G R k : Nat) : Int32 := match k with
  | 0 => j_it h G 2
  | 1 => j_it h R 2
  | 3 => j_it h P 0
  | 4 => j_it h P 1
  | 5 => j_it h m 3
  | 6 => j_it h m 2
  | _ => 0
def j_Bt (h : j_H) (m P G R : Nat) (σ : Nat → Int32) : Prop := ∀ k, j_aK k = true → j_am h m P G R k = σ k
theorem j_Mf.am (w : j_MX ρ h m P G R Q) (f : j_Mf ρ m h h1) : ∀ k, j_aK k = true → j_am h1 m P G R k = j_am h m P G R k := by
  intro k hk
  rcases j_aKc hk with rfl | rfl | rfl | rfl | rfl | rfl
  · exact f.sz w.lG.1
  · exact f.sz w.lR.1
  · exact f.2.2.2.2.2.1 P w.kP w.rP 0
  · exact f.2.2.2.2.2.1 P w.kP w.rP 1
  · exact f.2.1.2 3 (Or.inr rfl)
  · exact f.2.1.2 2 (Or.inl rfl)
/-- grains, runs, prints, paces stay -/
theorem j_Mf.ob {q c : Nat} (f : j_Mf ρ m h h1) (k : j_kd h q = some (.inl c)) (hc : c = 10 ∨ c = 11) (hr : ρ q ≠ 0) : ∀ j, j_it h1 q j = j_it h q j ∧ j_rf h1 q j = j_rf h q j := fun j => by
  have hn : ¬ j_sg ρ m h q := by
    rintro (⟨-, z⟩ | ⟨c', z, z1⟩ | ⟨-, z⟩)
    · rw [k] at z; cases z; omega
    · rw [k] at z; cases z; omega
    · exact hr z
  have := (f.1.2 q (j_nn k)).2.2 hn j
  exact ⟨this.1, this.2.2⟩
theorem j_Mf.a0 {q : Nat} (f : j_Mf ρ m h h1) (k : j_kd h q = some (.inr 0)) (hr : ρ q ≠ 0) : ∀ j, j_it h1 q j = j_it h q j := fun j => by
  have hn : ¬ j_sg ρ m h q := by
    rintro (⟨-, z⟩ | ⟨c', z, z1⟩ | ⟨-, z⟩)
    · rw [k] at z; cases z
    · rw [k] at z; cases z
    · exact hr z
  exact ((f.1.2 q (j_nn k)).2.2 hn j).1
end MX
