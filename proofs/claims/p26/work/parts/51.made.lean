/-! what constructors make -/
/-- a is filled -/
def j_Fi (h h' : j_H) (a : Nat) : Prop := j_On (fun q => q = a) h h' ∧ (∀ q, j_kd h' q = j_kd h q) ∧ ∀ q, q ≠ a → ∀ k, j_it h' q k = j_it h q k ∧ j_rf h' q k = j_rf h q k
theorem j_Fi.rf {h : j_H} {a : Nat} : j_Fi h h a := ⟨j_On.rf, fun _ => rfl, fun _ _ _ => ⟨rfl, rfl⟩⟩
theorem j_Fi.up {h h1 : j_H} {a k : Nat} {v : j_V} (f : j_Fi h h1 a) : j_Fi h (j_up h1 a k v) a := ⟨f.1.trans (j_On.up rfl), fun q => (congrFun (j_up_kd h1 a k v).1 q).trans (f.2.1 q), fun q hq j => ⟨(j_up_ne h1 v hq j).1.trans (f.2.2 q hq j).1, (j_up_ne h1 v hq j).2.2.trans (f.2.2 q hq j).2⟩⟩
theorem j_upr {h : j_H} {a k : Nat} {o : Option Nat} : j_rf (j_up h a k (j_r o)) a k = o := by
  show j_u _ a k o a k = _
  exact j_u_at
theorem j_upn {h : j_H} {a k j : Nat} {v : j_V} (hj : j ≠ k) : j_rf (j_up h a k v) a j = j_rf h a j := by
  rcases v with x | x | o
  · rfl
  · rfl
  · show j_u _ a k o a j = _
    exact j_u_nk hj
theorem j_upi {h : j_H} {a k : Nat} {x : Int32} : j_it (j_up h a k (j_i x)) a k = x := by
  show j_u _ a k x a k = _
  exact j_u_at
theorem j_upm {h : j_H} {a k j : Nat} {v : j_V} (hj : j ≠ k) : j_it (j_up h a k v) a j = j_it h a j := by
  rcases v with x | x | o
  · show j_u _ a k x a j = _
    exact j_u_nk hj
  · rfl
  · rfl
/-! the class's things after a list has grown -/
theorem j_LK.keep {h h1 : j_H} {L : Nat} {kk : Nat ⊕ Nat} {M : Int} {S : Nat → Prop} (l : j_LK h L kk M) (o : j_On S h h1) (hL : ¬ S L) (ha : ∀ a, j_rf h L 1 = some a → ¬ S a ∨ j_ln h a = 0) : j_LK h1 L kk M := by
  obtain ⟨k, b0, b1, arr, t, e1, e2, e3, e4, e5, e6⟩ := l
  obtain ⟨o1, o2, o3⟩ := o.2 L (by rw [k]; exact fun z => nomatch z)
  obtain ⟨p1, p2, p3⟩ := o.2 arr (by rw [e2]; exact fun z => nomatch z)
  have i2 := (o3 hL 2).1
  refine ⟨o1.trans k, by rw [i2]; exact b0, by rw [i2]; exact b1, arr, t, ((o3 hL 1).2.2).trans e1, p1.trans e2, e3, by rw [i2, p2]; exact e4, by rw [p2, o.1]; exact e5, fun j hj => ?_⟩
  rw [i2] at hj
  rcases ha arr e1 with n | n
  · obtain ⟨e, f1, f2⟩ := e6 j hj
    exact ⟨e, ((p3 n j).2.2).trans f1, ((o.2 e (by rw [f2]; exact fun z => nomatch z)).1).trans f2⟩
  · omega
theorem j_LK.ad {h h' : j_H} {L e arr : Nat} {kk : Nat ⊕ Nat} {M : Int} (l : j_LK h L kk M) (e1 : j_rf h L 1 = some arr) (a : j_Ad h h' L arr (j_it h L 2).toNatClampNeg e) (hM : (j_it h L 2).toInt + 1 ≤ M) (h26 : M ≤ 26) (ke : j_kd h e = some kk) : j_LK h' L kk M := by
  obtain ⟨k, b0, b1, arr', t, e1', e2, e3, e4, e5, e6⟩ := l
  obtain rfl : arr' = arr := Option.some.inj (e1'.symm.trans e1)
  obtain ⟨b, a1, a2, a3, a4, a5, a6, a7, a8, a9, a10⟩ := a
  have hc := j_clamp b0
  have z1 : (j_it h' L 2).toInt = (j_it h L 2).toInt + 1 := by rw [a5]; exact j_inc1 (by omega)
  refine ⟨((a3.2 L (by rw [k]; exact fun z => nomatch z)).1).trans k, by omega, by omega, b, 2, a1, a6, rfl, by omega, ⟨a8, Or.inl rfl⟩, fun j hj => ?_⟩
  by_cases hj2 : j < (j_it h L 2).toNatClampNeg
  · obtain ⟨y, f1, f2⟩ := e6 j (by omega)
    exact ⟨y, (a9 j hj2).trans f1, ((a3.2 y (by rw [f2]; exact fun z => nomatch z)).1).trans f2⟩
  · have : j = (j_it h L 2).toNatClampNeg := by omega
    rw [this]
    exact ⟨e, a10, ((a3.2 e (by rw [ke]; exact fun z => nomatch z)).1).trans ke⟩
theorem j_G.ad {h h' : j_H} {L arr n e : Nat} (g : j_G h) (k : j_kd h L = some (.inl 3)) (e2 : ∃ t, j_kd h arr = some (.inr t)) (a : j_Ad h h' L arr n e) : j_G h' := by
  obtain ⟨t, e2⟩ := e2
  obtain ⟨b, a1, a2, a3, a4, a5, a6, a7, a8, a9, a10⟩ := a
  have old : ∀ q c, j_kd h' q = some (.inl c) → j_kd h q = some (.inl c) := fun q c hq => by
    have : q ≠ b := fun z => by rw [z, a6] at hq; cases hq
    exact (a4 q this).symm.trans hq
  have new : ∀ q c, j_kd h q = some (.inl c) → j_kd h' q = some (.inl c) := fun q c hq => ((a3.2 q (by rw [hq]; exact fun z => nomatch z)).1).trans hq
  have same : ∀ q c, c ≠ 3 → j_kd h q = some (.inl c) → ∀ k, j_it h' q k = j_it h q k ∧ j_rf h' q k = j_rf h q k := fun q c hc hq j => by
    have := (a3.2 q (by rw [hq]; exact fun z => nomatch z)).2.2 (fun z => by
      rcases z with rfl | rfl
      · rw [k] at hq; cases hq; exact hc rfl
      · rw [e2] at hq; cases hq) j
    exact ⟨this.1, this.2.2⟩
  obtain ⟨g1, g2, g3, g4, g5⟩ := g
  refine ⟨fun q hq => ?_, fun q hq => ?_, fun q hq => ?_, fun q hq => ?_, fun q hq => ?_⟩
  · obtain ⟨y, f1, f2⟩ := g1 q (old _ _ hq)
    exact ⟨y, ((same q 4 (by decide) (old _ _ hq) 1).2).trans f1, new _ _ f2⟩
  · obtain ⟨y, f1, f2⟩ := g2 q (old _ _ hq)
    exact ⟨y, ((same q 4 (by decide) (old _ _ hq) 2).2).trans f1, new _ _ f2⟩
  · obtain ⟨y, f1, f2⟩ := g3 q (old _ _ hq)
    exact ⟨y, ((same q 7 (by decide) (old _ _ hq) 6).2).trans f1, new _ _ f2⟩
  · obtain ⟨y, f1, f2⟩ := g4 q (old _ _ hq)
    exact ⟨y, ((same q 6 (by decide) (old _ _ hq) 1).2).trans f1, new _ _ f2⟩
  · rcases g5 q (old _ _ hq) with f | ⟨y, f1, f2, f3, f4⟩
    · exact Or.inl (((same q 6 (by decide) (old _ _ hq) 3).2).trans f)
    · refine Or.inr ⟨y, ((same q 6 (by decide) (old _ _ hq) 3).2).trans f1, new _ _ f2, ?_, ?_⟩
      · rw [(same y 6 (by decide) f2 0).1]; exact f3
      · rw [(same y 6 (by decide) f2 0).1, (same q 6 (by decide) (old _ _ hq) 0).1]; exact f4
theorem j_Ap.sy {h : j_H} {L L' : Nat} (p : j_Ap h L L') : j_Ap h L' L := ⟨fun z => p.1 z.symm, fun a x y => p.2 a y x⟩
theorem j_Ap.mv {h h' : j_H} {L L' : Nat} (p : j_Ap h L L') (r1 : j_rf h' L 1 = j_rf h L 1) (r2 : j_rf h' L' 1 = j_rf h L' 1) (hl : ∀ a, j_rf h L 1 = some a → j_ln h' a = j_ln h a) : j_Ap h' L L' := ⟨p.1, fun a x y => by
  rw [r1] at x
  rw [r2] at y
  rw [hl a x]
  exact p.2 a x y⟩
/-- what a grown list leaves of another thing -/
theorem j_Ad.of {h h' : j_H} {L arr n e : Nat} (a : j_Ad h h' L arr n e) {q : Nat} (hq : j_kd h q ≠ none) (h1 : q ≠ L) (h2 : q ≠ arr) : j_kd h' q = j_kd h q ∧ j_ln h' q = j_ln h q ∧ ∀ k, j_it h' q k = j_it h q k ∧ j_rf h' q k = j_rf h q k := by
  obtain ⟨b, a1, a2, a3, -⟩ := a
  obtain ⟨o1, o2, o3⟩ := a3.2 q hq
  exact ⟨o1, o2, fun k => ⟨(o3 (fun z => z.elim h1 h2) k).1, (o3 (fun z => z.elim h1 h2) k).2.2⟩⟩
theorem j_Ad.li {h h' : j_H} {L arr n e t L' : Nat} {kk : Nat ⊕ Nat} {M : Int} (a : j_Ad h h' L arr n e) (kL : j_kd h L = some (.inl 3)) (e1 : j_rf h L 1 = some arr) (e2 : j_kd h arr = some (.inr t)) (p : j_Ap h L L') (l : j_LK h L' kk M) : j_LK h' L' kk M ∧ (∀ k, j_it h' L' k = j_it h L' k ∧ j_rf h' L' k = j_rf h L' k) ∧ j_Ap h' L L' := by
  have l9 := l
  obtain ⟨k, b0, b1, arr', t', f1, f2, f3, f4, f5, f6⟩ := l
  have n1 : L' ≠ L := fun z => p.1 z.symm
  have n2 : L' ≠ arr := fun z => by rw [z, e2] at k; cases k
  have s := (a.of (by rw [k]; exact fun z => nomatch z) n1 n2).2.2
  obtain ⟨b, a1, a2, a3, a4, a5, a6, a7, a8, -⟩ := a
  refine ⟨l9.keep a3 (fun z => z.elim n1 n2) (fun q hq => ?_), s, p.1, fun q x y => ?_⟩
  · obtain rfl : arr' = q := Option.some.inj (f1.symm.trans hq)
    by_cases z : arr' = arr
    · right
      exact p.2 arr' (by rw [z]; exact e1) f1
    · left
      rintro (z1 | z1)
      · rw [z1, kL] at f2; cases f2
      · exact z z1
  · rw [(s 1).2, f1] at y
    obtain rfl : arr' = q := Option.some.inj y
    rw [a1] at x
    obtain rfl : b = arr' := Option.some.inj x
    rcases a2 with rfl | a2
    · rw [(a3.2 b (by rw [f2]; exact fun z => nomatch z)).2.1]
      exact p.2 b e1 f1
    · rw [f2] at a2; cases a2
theorem j_Pn.li {h h' : j_H} {L arr n e t L' : Nat} {M : Int} (pn : j_Pn h L') (a : j_Ad h h' L arr n e) (kL : j_kd h L = some (.inl 3)) (e1 : j_rf h L 1 = some arr) (e2 : j_kd h arr = some (.inr t)) (p : j_Ap h L L') (l : j_LI h L' 6 M) : j_Pn h' L' := by
  have s := (a.li kL e1 e2 p l).2.1
  intro arr1 r1 j y hj r2
  obtain ⟨k, b0, b1, arr', t', f1, f2, f3, f4, f5, f6⟩ := l
  rw [(s 2).1] at hj ⊢
  rw [(s 1).2, f1] at r1
  obtain rfl : arr' = arr1 := Option.some.inj r1
  by_cases z : arr' = arr
  · have := p.2 arr' (by rw [z]; exact e1) f1
    omega
  · have z1 : arr' ≠ L := fun z => by rw [z, kL] at f2; cases f2
    rw [((a.of (by rw [f2]; exact fun z => nomatch z) z1 z).2.2 j).2] at r2
    obtain ⟨y', g1, g2⟩ := f6 j hj
    obtain rfl : y' = y := Option.some.inj (g1.symm.trans r2)
    have w1 : y' ≠ L := fun z => by rw [z, kL] at g2; cases g2
    have w2 : y' ≠ arr := fun z => by rw [z, e2] at g2; cases g2
    rw [((a.of (by rw [g2]; exact fun z => nomatch z) w1 w2).2.2 0).1]
    exact pn arr' f1 j y' hj r2
theorem j_Pn.ad {h h' : j_H} {L arr e : Nat} (pn : j_Pn h L) (l : j_LI h L 6 10) (e1 : j_rf h L 1 = some arr) (a : j_Ad h h' L arr (j_it h L 2).toNatClampNeg e) (ke : j_kd h e = some (.inl 6)) (hn : (j_it h e 0).toInt = (j_it h L 2).toInt) : j_Pn h' L := by
  have a9 := a
  obtain ⟨k, b0, b1, arr', t, e1', e2, e3, e4, e5, e6⟩ := l
  obtain rfl : arr' = arr := Option.some.inj (e1'.symm.trans e1)
  have old : ∀ y, j_kd h y = some (.inl 6) → j_it h' y 0 = j_it h y 0 := fun y g2 => by
    have w1 : y ≠ L := fun z => by rw [z, k] at g2; cases g2
    have w2 : y ≠ arr' := fun z => by rw [z, e2] at g2; cases g2
    exact ((a9.of (by rw [g2]; exact fun z => nomatch z) w1 w2).2.2 0).1
  obtain ⟨b, a1, a2, a3, a4, a5, a6, a7, a8, a9', a10⟩ := a
  have hc := j_clamp b0
  have z1 : (j_it h' L 2).toInt = (j_it h L 2).toInt + 1 := by rw [a5]; exact j_inc1 (by omega)
  intro arr1 r1 j y hj r2
  obtain rfl : b = arr1 := Option.some.inj (a1.symm.trans r1)
  by_cases hj2 : j < (j_it h L 2).toNatClampNeg
  · obtain ⟨y', f1, f2⟩ := e6 j (by omega)
    obtain rfl : y' = y := Option.some.inj (f1.symm.trans ((a9' j hj2).symm.trans r2))
    have := pn arr' e1 j y' (by omega) f1
    rw [old y' f2]
    omega
  · have : j = (j_it h L 2).toNatClampNeg := by omega
    rw [this] at r2
    obtain rfl : e = y := Option.some.inj (a10.symm.trans r2)
    rw [old e ke]
    omega
theorem j_LK.size {h h' : j_H} {L arr e : Nat} {kk : Nat ⊕ Nat} {M : Int} (l : j_LK h L kk M) : j_kd h L = some (.inl 3) ∧ ∃ arr t, j_rf h L 1 = some arr ∧ j_kd h arr = some (.inr t) := by
  obtain ⟨k, b0, b1, arr', t, e1', e2, e3⟩ := l
  exact ⟨k, arr', t, e1', e2⟩
theorem j_WF.ad0 {h h' : j_H} {x L arr e : Nat} (w : j_WF h x) (eL : j_rf h x 0 = some L) (e1 : j_rf h L 1 = some arr) (hM : (j_it h L 2).toInt + 1 ≤ 8) (ke : j_kd h e = some (.inl 4)) (a : j_Ad h h' L arr (j_it h L 2).toNatClampNeg e) : j_WF h' x := by
  obtain ⟨kx, g, L0, L1, L2, e0', l0, e1', l1, e2', l2, ⟨p1, p2, p3⟩, pn⟩ := w
  obtain rfl : L0 = L := Option.some.inj (e0'.symm.trans eL)
  obtain ⟨kL, arr', t, f1, f2⟩ := l0.size (h' := h) (arr := 0) (e := 0)
  obtain rfl : arr' = arr := Option.some.inj (f1.symm.trans e1)
  have hx := a.of (q := x) (by rw [kx]; exact fun z => nomatch z) (fun z => by rw [z, kL] at kx; cases kx) (fun z => by rw [z, f2] at kx; cases kx)
  have m1 := a.li kL e1 f2 p1 l1
  have m2 := a.li kL e1 f2 p2 l2
  have la : ∀ q, j_rf h L1 1 = some q → j_ln h' q = j_ln h q := fun q hq => by
    obtain ⟨-, q', t', h1, h2⟩ := l1.size (h' := h) (arr := 0) (e := 0)
    obtain rfl : q' = q := Option.some.inj (h1.symm.trans hq)
    obtain ⟨b, -, -, a3, -⟩ := a
    exact (a3.2 q' (by rw [h2]; exact fun z => nomatch z)).2.1
  exact ⟨hx.1.trans kx, g.ad kL ⟨t, f2⟩ a, L0, L1, L2, ((hx.2.2 0).2).trans e0', l0.ad e1 a hM (by decide) ke, ((hx.2.2 1).2).trans e1', m1.1, ((hx.2.2 2).2).trans e2', m2.1, ⟨m1.2.2, m2.2.2, p3.mv (m1.2.1 1).2 (m2.2.1 1).2 la⟩, pn.li a kL e1 f2 p2 l2⟩
theorem j_WF.ad1 {h h' : j_H} {x L arr e : Nat} (w : j_WF h x) (eL : j_rf h x 1 = some L) (e1 : j_rf h L 1 = some arr) (hM : (j_it h L 2).toInt + 1 ≤ 20) (ke : j_kd h e = some (.inl 7)) (a : j_Ad h h' L arr (j_it h L 2).toNatClampNeg e) : j_WF h' x := by
  obtain ⟨kx, g, L0, L1, L2, e0', l0, e1', l1, e2', l2, ⟨p1, p2, p3⟩, pn⟩ := w
  obtain rfl : L1 = L := Option.some.inj (e1'.symm.trans eL)
  obtain ⟨kL, arr', t, f1, f2⟩ := l1.size (h' := h) (arr := 0) (e := 0)
  obtain rfl : arr' = arr := Option.some.inj (f1.symm.trans e1)
  have hx := a.of (q := x) (by rw [kx]; exact fun z => nomatch z) (fun z => by rw [z, kL] at kx; cases kx) (fun z => by rw [z, f2] at kx; cases kx)
  have m0 := a.li kL e1 f2 p1.sy l0
  have m2 := a.li kL e1 f2 p3 l2
  have la : ∀ q, j_rf h L0 1 = some q → j_ln h' q = j_ln h q := fun q hq => by
    obtain ⟨-, q', t', h1, h2⟩ := l0.size (h' := h) (arr := 0) (e := 0)
    obtain rfl : q' = q := Option.some.inj (h1.symm.trans hq)
    obtain ⟨b, -, -, a3, -⟩ := a
    exact (a3.2 q' (by rw [h2]; exact fun z => nomatch z)).2.1
  exact ⟨hx.1.trans kx, g.ad kL ⟨t, f2⟩ a, L0, L1, L2, ((hx.2.2 0).2).trans e0', m0.1, ((hx.2.2 1).2).trans e1', l1.ad e1 a hM (by decide) ke, ((hx.2.2 2).2).trans e2', m2.1, ⟨m0.2.2.sy, p2.mv (m0.2.1 1).2 (m2.2.1 1).2 la, m2.2.2⟩, pn.li a kL e1 f2 p3 l2⟩
theorem j_WF.ad2 {h h' : j_H} {x L arr e : Nat} (w : j_WF h x) (eL : j_rf h x 2 = some L) (e1 : j_rf h L 1 = some arr) (hM : (j_it h L 2).toInt + 1 ≤ 10) (ke : j_kd h e = some (.inl 6)) (hn : (j_it h e 0).toInt = (j_it h L 2).toInt) (a : j_Ad h h' L arr (j_it h L 2).toNatClampNeg e) : j_WF h' x := by
  obtain ⟨kx, g, L0, L1, L2, e0', l0, e1', l1, e2', l2, ⟨p1, p2, p3⟩, pn⟩ := w
  obtain rfl : L2 = L := Option.some.inj (e2'.symm.trans eL)
  obtain ⟨kL, arr', t, f1, f2⟩ := l2.size (h' := h) (arr := 0) (e := 0)
  obtain rfl : arr' = arr := Option.some.inj (f1.symm.trans e1)
  have hx := a.of (q := x) (by rw [kx]; exact fun z => nomatch z) (fun z => by rw [z, kL] at kx; cases kx) (fun z => by rw [z, f2] at kx; cases kx)
  have m0 := a.li kL e1 f2 p2.sy l0
  have m1 := a.li kL e1 f2 p3.sy l1
  have la : ∀ q, j_rf h L0 1 = some q → j_ln h' q = j_ln h q := fun q hq => by
    obtain ⟨-, q', t', h1, h2⟩ := l0.size (h' := h) (arr := 0) (e := 0)
    obtain rfl : q' = q := Option.some.inj (h1.symm.trans hq)
    obtain ⟨b, -, -, a3, -⟩ := a
    exact (a3.2 q' (by rw [h2]; exact fun z => nomatch z)).2.1
  exact ⟨hx.1.trans kx, g.ad kL ⟨t, f2⟩ a, L0, L1, L2, ((hx.2.2 0).2).trans e0', m0.1, ((hx.2.2 1).2).trans e1', m1.1, ((hx.2.2 2).2).trans e2', l2.ad e1 a hM (by decide) ke, ⟨p1.mv (m0.2.1 1).2 (m1.2.1 1).2 la, m0.2.2.sy, m1.2.2.sy⟩, pn.ad l2 e1 a ke hn⟩
theorem j_WF.keep {h h1 : j_H} {x : Nat} (w : j_WF h x) (o : j_On (fun _ => False) h h1) (g : j_G h1) : j_WF h1 x := by
  obtain ⟨kx, -, L0, L1, L2, e0, l0, e1, l1, e2, l2, ⟨p1, p2, p3⟩, pn⟩ := w
  have all : ∀ q, j_kd h q ≠ none → j_kd h1 q = j_kd h q ∧ j_ln h1 q = j_ln h q ∧ ∀ k, j_it h1 q k = j_it h q k ∧ j_rf h1 q k = j_rf h q k := fun q hq =>
    ⟨(o.2 q hq).1, (o.2 q hq).2.1, fun k => ⟨((o.2 q hq).2.2 (fun z => z) k).1, ((o.2 q hq).2.2 (fun z => z) k).2.2⟩⟩
  have nn : ∀ {q : Nat} {s : Nat ⊕ Nat}, j_kd h q = some s → j_kd h q ≠ none := fun hq z => by rw [hq] at z; cases z
  have li : ∀ {L c M}, j_LI h L c M → (∀ k, j_it h1 L k = j_it h L k ∧ j_rf h1 L k = j_rf h L k) ∧ ∀ a, j_rf h L 1 = some a → j_ln h1 a = j_ln h a := fun l => by
    obtain ⟨kL, arr, t, f1, f2⟩ := l.size (h' := h) (arr := 0) (e := 0)
    refine ⟨(all _ (nn kL)).2.2, fun a ha => ?_⟩
    obtain rfl : arr = a := Option.some.inj (f1.symm.trans ha)
    exact (all _ (nn f2)).2.1
  have fl : ∀ {L c M}, j_LI h L c M → j_LI h1 L c M := fun l => l.keep o (fun z => z) (fun _ _ => Or.inl (fun z => z))
  have x0 := (all x (nn kx)).2.2
  refine ⟨(all x (nn kx)).1.trans kx, g, L0, L1, L2, ((x0 0).2).trans e0, fl l0, ((x0 1).2).trans e1, fl l1, ((x0 2).2).trans e2, fl l2, ⟨p1.mv ((li l0).1 1).2 ((li l1).1 1).2 (li l0).2, p2.mv ((li l0).1 1).2 ((li l2).1 1).2 (li l0).2, p3.mv ((li l1).1 1).2 ((li l2).1 1).2 (li l1).2⟩, ?_⟩
  intro arr r1 j y hj r2
  have s := (li l2).1
  rw [(s 1).2] at r1
  rw [(s 2).1] at hj ⊢
  obtain ⟨k, b0, b1, arr', t, f1, f2, f3, f4, f5, f6⟩ := l2
  obtain rfl : arr' = arr := Option.some.inj (f1.symm.trans r1)
  rw [((all arr' (nn f2)).2.2 j).2] at r2
  obtain ⟨y', g1, g2⟩ := f6 j hj
  obtain rfl : y' = y := Option.some.inj (g1.symm.trans r2)
  rw [((all y' (nn g2)).2.2 0).1]
  exact pn arr' f1 j y' hj g1
