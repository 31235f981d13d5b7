/-! what x keeps when others change; what a call on x and out leaves -/
theorem j_WF.off {S : Nat → Prop} {h h1 : j_H} {x : Nat} (w : j_WF h x) (o : j_On S h h1) (hS : ∀ q, S q → ¬ j_ow h x q) (new : ∀ q c, j_kd h1 q = some (.inl c) → 4 ≤ c → c ≤ 8 → j_kd h q = some (.inl c)) : j_WF h1 x ∧ ∀ q, j_ow h1 x q → j_kd h q ≠ none → j_ow h x q := by
  have all : ∀ q, j_ow h x q → j_kd h q ≠ none → j_kd h1 q = j_kd h q ∧ j_ln h1 q = j_ln h q ∧ ∀ k, j_it h1 q k = j_it h q k ∧ j_rf h1 q k = j_rf h q k := fun q hq hz =>
    ⟨(o.2 q hz).1, (o.2 q hz).2.1, fun k => ⟨((o.2 q hz).2.2 (fun z => hS q z hq) k).1, ((o.2 q hz).2.2 (fun z => hS q z hq) k).2.2⟩⟩
  have w9 := w
  obtain ⟨kx, ⟨g1, g2, g3, g4, g5⟩, L0, L1, L2, e0, l0, e1, l1, e2, l2, ⟨p1, p2, p3⟩, pn⟩ := w
  have ob : ∀ {q c}, j_kd h q = some (.inl c) → 4 ≤ c → c ≤ 8 → j_kd h1 q = some (.inl c) ∧ ∀ k, j_it h1 q k = j_it h q k ∧ j_rf h1 q k = j_rf h q k := fun {q c} hq h4 h8 => by
    have := all q (Or.inl ⟨c, hq, h4, h8⟩) (j_nn hq)
    exact ⟨this.1.trans hq, this.2.2⟩
  have ls : ∀ {k L c M}, k < 3 → j_rf h x k = some L → j_LI h L c M → 4 ≤ c → c ≤ 8 → j_LI h1 L c M ∧ (∀ k, j_it h1 L k = j_it h L k ∧ j_rf h1 L k = j_rf h L k) ∧ ∀ a, j_rf h L 1 = some a → (j_ln h1 a = j_ln h a ∧ ∀ k, j_rf h1 a k = j_rf h a k) := fun {k L c M} hk e l h4 h8 => by
    obtain ⟨kL, b0, b1, arr, t, f1, f2, f3, f4, f5, f6⟩ := l
    have a1 := all L (Or.inr ⟨k, L, hk, e, Or.inl rfl⟩) (j_nn kL)
    have a2 := all arr (Or.inr ⟨k, L, hk, e, Or.inr f1⟩) (j_nn f2)
    have i2 := (a1.2.2 2).1
    refine ⟨⟨a1.1.trans kL, by rw [i2]; exact b0, by rw [i2]; exact b1, arr, t, ((a1.2.2 1).2).trans f1, a2.1.trans f2, f3, by rw [i2, a2.2.1]; exact f4, by rw [a2.2.1, o.1]; exact f5, fun j hj => ?_⟩, a1.2.2, fun a ha => ?_⟩
    · rw [i2] at hj
      obtain ⟨y, y1, y2⟩ := f6 j hj
      exact ⟨y, ((a2.2.2 j).2).trans y1, (ob y2 h4 h8).1⟩
    · obtain rfl : arr = a := Option.some.inj (f1.symm.trans ha)
      exact ⟨a2.2.1, fun k => (a2.2.2 k).2⟩
  have x9 := (ob kx (by decide) (by decide))
  have s0 := ls (by decide) e0 l0 (by decide) (by decide)
  have s1 := ls (by decide) e1 l1 (by decide) (by decide)
  have s2 := ls (by decide) e2 l2 (by decide) (by decide)
  refine ⟨⟨x9.1, ⟨fun a ha => ?_, fun a ha => ?_, fun a ha => ?_, fun a ha => ?_, fun a ha => ?_⟩, L0, L1, L2, ((x9.2 0).2).trans e0, s0.1, ((x9.2 1).2).trans e1, s1.1, ((x9.2 2).2).trans e2, s2.1, ⟨p1.mv (s0.2.1 1).2 (s1.2.1 1).2 (fun a ha => (s0.2.2 a ha).1), p2.mv (s0.2.1 1).2 (s2.2.1 1).2 (fun a ha => (s0.2.2 a ha).1), p3.mv (s1.2.1 1).2 (s2.2.1 1).2 (fun a ha => (s1.2.2 a ha).1)⟩, ?_⟩, fun q hq hz => ?_⟩
  · have ha := new a 4 ha (by decide) (by decide)
    obtain ⟨b, f1, f2⟩ := g1 a ha
    exact ⟨b, (((ob ha (by decide) (by decide)).2 1).2).trans f1, (ob f2 (by decide) (by decide)).1⟩
  · have ha := new a 4 ha (by decide) (by decide)
    obtain ⟨b, f1, f2⟩ := g2 a ha
    exact ⟨b, (((ob ha (by decide) (by decide)).2 2).2).trans f1, (ob f2 (by decide) (by decide)).1⟩
  · have ha := new a 7 ha (by decide) (by decide)
    obtain ⟨b, f1, f2⟩ := g3 a ha
    exact ⟨b, (((ob ha (by decide) (by decide)).2 6).2).trans f1, (ob f2 (by decide) (by decide)).1⟩
  · have ha := new a 6 ha (by decide) (by decide)
    obtain ⟨b, f1, f2⟩ := g4 a ha
    exact ⟨b, (((ob ha (by decide) (by decide)).2 1).2).trans f1, (ob f2 (by decide) (by decide)).1⟩
  · have ha := new a 6 ha (by decide) (by decide)
    have ra := (ob ha (by decide) (by decide)).2
    rcases g5 a ha with f | ⟨b, f1, f2, f3, f4⟩
    · exact Or.inl (((ra 3).2).trans f)
    · have rb := ob f2 (by decide) (by decide)
      refine Or.inr ⟨b, ((ra 3).2).trans f1, rb.1, ?_, ?_⟩
      · rw [(rb.2 0).1]; exact f3
      · rw [(rb.2 0).1, (ra 0).1]; exact f4
  · intro arr r1 j y hj r2
    rw [(s2.2.1 1).2] at r1
    rw [(s2.2.1 2).1] at hj ⊢
    rw [(s2.2.2 arr r1).2 j] at r2
    obtain ⟨kL, b0, b1, arr', t, f1, f2, f3, f4, f5, f6⟩ := l2
    obtain rfl : arr' = arr := Option.some.inj (f1.symm.trans r1)
    obtain ⟨y', y1, y2⟩ := f6 j hj
    obtain rfl : y' = y := Option.some.inj (y1.symm.trans r2)
    rw [((ob y2 (by decide) (by decide)).2 0).1]
    exact pn arr' f1 j y' hj y1
  · rcases hq with ⟨c, q1, q2⟩ | ⟨k, L, hk, q1, q2⟩
    · exact Or.inl ⟨c, ((o.2 q hz).1).symm.trans q1, q2⟩
    · rw [(x9.2 k).2] at q1
      have kL := (w9.own hk q1).1
      have aL := all L (Or.inr ⟨k, L, hk, q1, Or.inl rfl⟩) (j_nn kL)
      rw [(aL.2.2 1).2] at q2
      exact Or.inr ⟨k, L, hk, q1, q2⟩
def j_Fo (x out : Nat) (h h' : j_H) : Prop := j_WF h' x ∧ j_On (fun q => j_ow h x q ∨ q = out) h h' ∧ (∀ q, j_ow h' x q → j_kd h q ≠ none → j_ow h x q) ∧ ∀ k, j_aK k = true → j_ax h' x k = j_ax h x k
/-- without x's numbers -/
def j_Fq (x out : Nat) (h h' : j_H) : Prop := j_WF h' x ∧ j_On (fun q => j_ow h x q ∨ q = out) h h' ∧ ∀ q, j_ow h' x q → j_kd h q ≠ none → j_ow h x q
theorem j_Fo.fq {x out : Nat} {h h' : j_H} (f : j_Fo x out h h') : j_Fq x out h h' := ⟨f.1, f.2.1, f.2.2.1⟩
theorem j_Fr.fo {x out : Nat} {h h' : j_H} (f : j_Fr x h h') : j_Fo x out h h' := ⟨f.1, f.2.1.mono (fun _ _ z => Or.inl z), f.2.2⟩
theorem j_now {h : j_H} {x q c : Nat} (w : j_WF h x) (k : j_kd h q = some (.inl c)) (hc : 9 ≤ c) : ¬ j_ow h x q := by
  rintro (⟨c', h1, h2, h3⟩ | ⟨k', L, hk, h1, h2⟩)
  · rw [k] at h1; cases h1; omega
  · obtain ⟨kL, arr, t, f1, f2⟩ := w.own hk h1
    rcases h2 with rfl | h2
    · rw [k] at kL; cases kL; omega
    · obtain rfl : arr = q := Option.some.inj (f1.symm.trans h2)
      rw [k] at f2; cases f2
theorem j_Fs.out {x out k : Nat} {h h' : j_H} {v : j_V} (f : j_Fs x h h') (ko : j_kd h out = some (.inl 9)) : j_Fq x out h (j_up h' out k v) ∧ ∀ j, j_aK j = true → j_ax (j_up h' out k v) x j = j_ax h' x j := by
  have ko' : j_kd h' out = some (.inl 9) := ((f.2.1.2 out (j_nn ko)).1).trans ko
  have kk := (j_up_kd h' out k v).1
  obtain ⟨w2, q2⟩ := f.1.off (S := fun q => q = out) (h1 := j_up h' out k v) (j_On.up rfl) (fun q hq => by rw [hq]; exact j_now f.1 ko' (by decide)) (fun q c hq _ _ => (congrFun kk q).symm.trans hq)
  have nx : x ≠ out := fun z => by have := f.1.1; rw [z, ko'] at this; cases this
  refine ⟨⟨w2, (f.2.1.mono (fun _ _ z => Or.inl z)).trans (j_On.up (Or.inr rfl)), fun q hq hz => f.2.2 q (q2 q hq (by rw [(f.2.1.2 q hz).1]; exact hz)) hz⟩, ?_⟩
  refine j_ax_of f.1 (fun j _ _ => (j_up_ne h' v nx j).1) (fun j _ => (j_up_ne h' v nx j).2.2) (fun j L hj e => ?_)
  have kL := (f.1.own (by omega) e).1
  exact (j_up_ne h' v (fun z => by rw [z, ko'] at kL; cases kL) 2).1
theorem j_Fr.out {x out k : Nat} {h h' : j_H} {v : j_V} (f : j_Fr x h h') (ko : j_kd h out = some (.inl 9)) : j_Fo x out h (j_up h' out k v) := by
  obtain ⟨a, b⟩ := f.fs.out (k := k) (v := v) ko
  exact ⟨a.1, a.2.1, a.2.2, fun j hj => (b j hj).trans (f.2.2.2 j hj)⟩
/-- one of x's own numbers written -/
theorem j_Fs.x {h : j_H} {x k : Nat} {a : Int32} (w : j_WF h x) (hk : 3 ≤ k) : j_Fs x h (j_up h x k (j_i a)) ∧ ∀ j, j_aK j = true → j_ax (j_up h x k (j_i a)) x j = j_u1 (j_ax h x) k a j := by
  have s : j_Sc (fun c j => Nat.beq c 8 && Nat.beq j k) h (j_u (j_it h) x k a) := j_Sc.rf.put w.1 (by
    have hb : ∀ n, Nat.beq n n = true := fun n => by
      induction n with
      | zero => rfl
      | succ n ih => exact ih
    show (true && Nat.beq k k) = true
    rw [hb k]
    rfl)
  refine ⟨⟨w.sc s ⟨fun _ => rfl, rfl⟩, j_On.up (Or.inl ⟨8, w.1, by decide, by decide⟩), fun q hq _ => ?_⟩, fun j hj => ?_⟩
  · rcases hq with ⟨c, h1, h2⟩ | ⟨k, L, hk, h1, h2⟩
    · exact Or.inl ⟨c, h1, h2⟩
    · exact Or.inr ⟨k, L, hk, h1, h2⟩
  · have lk : ∀ j L, j < 2 → j_rf h x j = some L → j_it (j_up h x k (j_i a)) L 2 = j_it h L 2 := fun j L hj e => by
      have kL := (w.own (by omega) e).1
      exact (j_up_ne h (j_i a) (fun z => by rw [z, w.1] at kL; cases kL) 2).1
    obtain ⟨kx, g, L0, L1, L2, e0, l0, e1, l1, -⟩ := w
    have n : ∀ j, 3 ≤ j → j_it (j_up h x k (j_i a)) x j = if j = k then a else j_it h x j := fun j _ => by
      by_cases z : j = k
      · rw [if_pos z, z]; exact j_upi
      · rw [if_neg z]; exact j_upm z
    unfold j_u1
    rcases j_aKc hj with rfl | rfl | rfl | rfl | rfl | rfl
    · rw [if_neg (by omega)]
      show j_sz (j_up h x k (j_i a)) x 0 = j_sz h x 0
      rw [j_sz_e e0, j_sz_e (h := j_up h x k (j_i a)) e0]
      exact lk 0 L0 (by decide) e0
    · rw [if_neg (by omega)]
      show j_sz (j_up h x k (j_i a)) x 1 = j_sz h x 1
      rw [j_sz_e e1, j_sz_e (h := j_up h x k (j_i a)) e1]
      exact lk 1 L1 (by decide) e1
    · exact n 3 (by decide)
    · exact n 4 (by decide)
    · exact n 5 (by decide)
    · exact n 6 (by decide)
/-- what the law's call of a method leaves: its number, the answer, x's numbers -/
def j_LQ (x out : Nat) (h : j_H) (q : Int) (A : Int32) (N : Nat → Int32) (v : Option j_V) (h' : j_H) : Prop := v = some (j_i (Int32.ofInt q)) ∧ j_Fq x out h h' ∧ (q = 0 → j_At h' x N) ∧ (q ≠ 0 → j_At h' x (j_ax h x)) ∧ (q = 0 → j_lg h' out 0 = A.toInt64)
theorem j_LQ.no {x out : Nat} {h : j_H} {q n : Int} {A : Int32} {N : Nat → Int32} (w : j_WF h x) (e : q = n) (hn : n ≠ 0) : j_LQ x out h q A N (some (j_i (Int32.ofInt n))) h :=
  ⟨by rw [e], ⟨w, j_On.rf, fun _ z _ => z⟩, fun z => absurd (e.symm.trans z) hn, fun _ _ _ => rfl, fun z => absurd (e.symm.trans z) hn⟩
theorem j_LQ.ok {x out : Nat} {h h' : j_H} {q : Int} {A : Int32} {N : Nat → Int32} (ko : j_kd h out = some (.inl 9)) (e : q = 0) (f : j_Fs x h h') (t : j_At h' x N) : j_LQ x out h q A N (some (j_i (Int32.ofInt 0))) (j_up h' out 0 (j_l A.toInt64)) := by
  obtain ⟨a, b⟩ := f.out (k := 0) (v := j_l A.toInt64) ko
  refine ⟨by rw [e], a, fun _ j hj => (b j hj).trans (t j hj), fun z => absurd e z, fun _ => ?_⟩
  show j_u _ out 0 A.toInt64 out 0 = A.toInt64
  exact j_u_at
