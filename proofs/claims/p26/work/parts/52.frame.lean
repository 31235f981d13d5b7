/-! what a call on x leaves as it was -/
def j_ow (h : j_H) (x q : Nat) : Prop := (∃ c, j_kd h q = some (.inl c) ∧ 4 ≤ c ∧ c ≤ 8) ∨ ∃ k L, k < 3 ∧ j_rf h x k = some L ∧ (q = L ∨ j_rf h L 1 = some q)
/-- x's numbers: how many grains, how many runs (0, 1); paces, slip, years (3, 4, 5, 6) -/
def j_sz (h : j_H) (x k : Nat) : Int32 := j_it h ((j_rf h x k).getD 0) 2
theorem j_sz_e {h : j_H} {x k L : Nat} (e : j_rf h x k = some L) : j_sz h x k = j_it h L 2 := by
  unfold j_sz
  rw [e]
  rfl
def j_ax (h : j_H) (x k : Nat) : Int32 := match k with
  | 0 => j_sz h x 0
  | 1 => j_sz h x 1
  | n + 2 => j_it h x (n + 2)
def j_aK (k : Nat) : Bool := (Nat.beq k 0 || Nat.beq k 1) || (Nat.ble 3 k && Nat.ble k 6)
def j_At (h : j_H) (x : Nat) (σ : Nat → Int32) : Prop := ∀ k, j_aK k = true → j_ax h x k = σ k
def j_u1 (σ : Nat → Int32) (k : Nat) (v : Int32) : Nat → Int32 := fun j => if j = k then v else σ j
theorem j_aKc {k : Nat} (h : j_aK k = true) : k = 0 ∨ k = 1 ∨ k = 3 ∨ k = 4 ∨ k = 5 ∨ k = 6 := by
  rcases (Bool.or_eq_true _ _).mp h with h | h
  · rcases (Bool.or_eq_true _ _).mp h with h | h
    · have := Nat.eq_of_beq_eq_true h; omega
    · have := Nat.eq_of_beq_eq_true h; omega
  · have h1 := Nat.le_of_ble_eq_true ((Bool.and_eq_true _ _).mp h).1
    have h2 := Nat.le_of_ble_eq_true ((Bool.and_eq_true _ _).mp h).2
    omega
theorem j_wkk {k : Nat} (h0 : 3 ≤ k) (h1 : k ≤ 6) : j_wk k = true := by
  unfold j_wk
  rw [Nat.ble_eq_true_of_le h0, Nat.ble_eq_true_of_le h1]
  rfl
/-- without x's numbers; with them all as they were -/
def j_Fs (x : Nat) (h h' : j_H) : Prop := j_WF h' x ∧ j_On (j_ow h x) h h' ∧ ∀ q, j_ow h' x q → j_kd h q ≠ none → j_ow h x q
def j_Fr (x : Nat) (h h' : j_H) : Prop := j_WF h' x ∧ j_On (j_ow h x) h h' ∧ (∀ q, j_ow h' x q → j_kd h q ≠ none → j_ow h x q) ∧ ∀ k, j_aK k = true → j_ax h' x k = j_ax h x k
theorem j_Fr.fs {x : Nat} {h h' : j_H} (f : j_Fr x h h') : j_Fs x h h' := ⟨f.1, f.2.1, f.2.2.1⟩
theorem j_ax_of {h h1 : j_H} {x : Nat} (w : j_WF h x) (hx : ∀ k, 3 ≤ k → k ≤ 6 → j_it h1 x k = j_it h x k) (hr : ∀ k, k < 2 → j_rf h1 x k = j_rf h x k) (hL : ∀ k L, k < 2 → j_rf h x k = some L → j_it h1 L 2 = j_it h L 2) : ∀ k, j_aK k = true → j_ax h1 x k = j_ax h x k := by
  intro k hk
  obtain ⟨kx, g, L0, L1, L2, e0, l0, e1, l1, e2, l2, -⟩ := w
  rcases j_aKc hk with rfl | rfl | rfl | rfl | rfl | rfl
  · show j_sz h1 x 0 = j_sz h x 0
    rw [j_sz_e e0, j_sz_e ((hr 0 (by decide)).trans e0)]
    exact hL 0 L0 (by decide) e0
  · show j_sz h1 x 1 = j_sz h x 1
    rw [j_sz_e e1, j_sz_e ((hr 1 (by decide)).trans e1)]
    exact hL 1 L1 (by decide) e1
  · exact hx 3 (by decide) (by decide)
  · exact hx 4 (by decide) (by decide)
  · exact hx 5 (by decide) (by decide)
  · exact hx 6 (by decide) (by decide)
theorem j_nn {h : j_H} {q : Nat} {s : Nat ⊕ Nat} (hq : j_kd h q = some s) : j_kd h q ≠ none := fun z => by rw [hq] at z; cases z
theorem j_Fr.tr {x : Nat} {h h1 h2 : j_H} (a : j_Fr x h h1) (b : j_Fr x h1 h2) : j_Fr x h h2 := by
  obtain ⟨-, a2, a3, a4⟩ := a
  obtain ⟨b1, b2, b3, b4⟩ := b
  refine ⟨b1, ⟨b2.1.trans a2.1, fun q hq => ?_⟩, fun q hq hz => a3 q (b3 q hq (by rw [(a2.2 q hz).1]; exact hz)) hz, fun k hk => (b4 k hk).trans (a4 k hk)⟩
  obtain ⟨u1, u2, u3⟩ := a2.2 q hq
  obtain ⟨v1, v2, v3⟩ := b2.2 q (by rw [u1]; exact hq)
  refine ⟨v1.trans u1, v2.trans u2, fun hn k => ?_⟩
  have p := u3 hn k
  have r := v3 (fun z => hn (a3 q z hq)) k
  exact ⟨r.1.trans p.1, r.2.1.trans p.2.1, r.2.2.trans p.2.2⟩
theorem j_Fs.tr {x : Nat} {h h1 h2 : j_H} (a : j_Fs x h h1) (b : j_Fs x h1 h2) : j_Fs x h h2 := by
  obtain ⟨-, a2, a3⟩ := a
  obtain ⟨b1, b2, b3⟩ := b
  refine ⟨b1, ⟨b2.1.trans a2.1, fun q hq => ?_⟩, fun q hq hz => a3 q (b3 q hq (by rw [(a2.2 q hz).1]; exact hz)) hz⟩
  obtain ⟨u1, u2, u3⟩ := a2.2 q hq
  obtain ⟨v1, v2, v3⟩ := b2.2 q (by rw [u1]; exact hq)
  refine ⟨v1.trans u1, v2.trans u2, fun hn k => ?_⟩
  have p := u3 hn k
  have r := v3 (fun z => hn (a3 q z hq)) k
  exact ⟨r.1.trans p.1, r.2.1.trans p.2.1, r.2.2.trans p.2.2⟩
/-- of x's own lists -/
theorem j_WF.own {h : j_H} {x k L : Nat} (w : j_WF h x) (hk : k < 3) (e : j_rf h x k = some L) : j_kd h L = some (.inl 3) ∧ ∃ arr t, j_rf h L 1 = some arr ∧ j_kd h arr = some (.inr t) := by
  obtain ⟨kx, g, L0, L1, L2, e0, l0, e1, l1, e2, l2, -⟩ := w
  match k, hk, e with
  | 0, _, e => obtain rfl : L0 = L := Option.some.inj (e0.symm.trans e); exact l0.size (h' := h) (arr := 0) (e := 0)
  | 1, _, e => obtain rfl : L1 = L := Option.some.inj (e1.symm.trans e); exact l1.size (h' := h) (arr := 0) (e := 0)
  | 2, _, e => obtain rfl : L2 = L := Option.some.inj (e2.symm.trans e); exact l2.size (h' := h) (arr := 0) (e := 0)
  | n + 3, hk, _ => omega
theorem j_Fr.keep {x : Nat} {h h1 : j_H} (w : j_WF h x) (o : j_On (fun _ => False) h h1) (g : j_G h1) : j_Fr x h h1 := by
  refine ⟨w.keep o g, o.mono (fun _ _ z => z.elim), fun q hq hz => ?_, j_ax_of w (fun k _ _ => ((o.2 x (j_nn w.1)).2.2 (fun z => z) k).1) (fun k _ => ((o.2 x (j_nn w.1)).2.2 (fun z => z) k).2.2) (fun k L hk e => ((o.2 L (j_nn (w.own (by omega) e).1)).2.2 (fun z => z) 2).1)⟩
  rcases hq with ⟨c, h1, h2⟩ | ⟨k, L, hk, h1, h2⟩
  · exact Or.inl ⟨c, ((o.2 q hz).1).symm.trans h1, h2⟩
  · have kx := w.1
    have r := ((o.2 x (j_nn kx)).2.2 (fun z => z) k).2.2
    rw [r] at h1
    have kL := (w.own hk h1).1
    have r2 := ((o.2 L (j_nn kL)).2.2 (fun z => z) 1).2.2
    rw [r2] at h2
    exact Or.inr ⟨k, L, hk, h1, h2⟩
theorem j_Fs.ad {x k L arr n e : Nat} {h h' : j_H} (w : j_WF h x) (hk : k < 3) (eL : j_rf h x k = some L) (e1 : j_rf h L 1 = some arr) (a : j_Ad h h' L arr n e) (w' : j_WF h' x) : j_Fs x h h' := by
  obtain ⟨kL, arr', t, f1, f2⟩ := w.own hk eL
  obtain rfl : arr' = arr := Option.some.inj (f1.symm.trans e1)
  have kx := w.1
  have hx := (a.of (q := x) (j_nn kx) (fun z => by rw [z, kL] at kx; cases kx) (fun z => by rw [z, f2] at kx; cases kx)).2.2
  have a9 := a
  obtain ⟨b, a1, a2, a3, -⟩ := a
  refine ⟨w', a3.mono (fun q _ z => Or.inr ⟨k, L, hk, eL, by rcases z with z | z; exact Or.inl z; exact Or.inr (by rw [z]; exact e1)⟩), fun q hq hz => ?_⟩
  rcases hq with ⟨c, h1, h2⟩ | ⟨k', L', hk', h1, h2⟩
  · exact Or.inl ⟨c, ((a3.2 q hz).1).symm.trans h1, h2⟩
  · rw [(hx k').2] at h1
    rcases h2 with h2 | h2
    · exact Or.inr ⟨k', L', hk', h1, Or.inl h2⟩
    · by_cases z : L' = L
      · rw [z, a1] at h2
        obtain rfl : b = q := Option.some.inj h2
        rcases a2 with a2 | a2
        · exact Or.inr ⟨k, L, hk, eL, Or.inr (by rw [a2]; exact e1)⟩
        · exact absurd a2 hz
      · have kL' := (w.own hk' h1).1
        rw [((a9.of (q := L') (j_nn kL') z (fun z => by rw [z, f2] at kL'; cases kL')).2.2 1).2] at h2
        exact Or.inr ⟨k', L', hk', h1, Or.inr h2⟩
theorem j_WF.ll {h : j_H} {x k j L L' : Nat} (w : j_WF h x) (hk : k < 3) (hj : j < 3) (n : k ≠ j) (e : j_rf h x k = some L) (e' : j_rf h x j = some L') : L ≠ L' := by
  obtain ⟨kx, g, L0, L1, L2, e0, l0, e1, l1, e2, l2, ⟨p1, p2, p3⟩, -⟩ := w
  have one : ∀ k, k < 3 → ∀ L, j_rf h x k = some L → (k = 0 ∧ L = L0) ∨ (k = 1 ∧ L = L1) ∨ (k = 2 ∧ L = L2) := fun k hk L e => by
    match k, hk, e with
    | 0, _, e => exact Or.inl ⟨rfl, Option.some.inj (e.symm.trans e0)⟩
    | 1, _, e => exact Or.inr (Or.inl ⟨rfl, Option.some.inj (e.symm.trans e1)⟩)
    | 2, _, e => exact Or.inr (Or.inr ⟨rfl, Option.some.inj (e.symm.trans e2)⟩)
    | n + 3, hk, _ => omega
  rcases one k hk L e with ⟨rfl, rfl⟩ | ⟨rfl, rfl⟩ | ⟨rfl, rfl⟩
  · rcases one j hj L' e' with ⟨rfl, rfl⟩ | ⟨rfl, rfl⟩ | ⟨rfl, rfl⟩
    · exact absurd rfl n
    · exact p1.1
    · exact p2.1
  · rcases one j hj L' e' with ⟨rfl, rfl⟩ | ⟨rfl, rfl⟩ | ⟨rfl, rfl⟩
    · exact fun z => p1.1 z.symm
    · exact absurd rfl n
    · exact p3.1
  · rcases one j hj L' e' with ⟨rfl, rfl⟩ | ⟨rfl, rfl⟩ | ⟨rfl, rfl⟩
    · exact fun z => p2.1 z.symm
    · exact fun z => p3.1 z.symm
    · exact absurd rfl n
/-- x's numbers when its k-th list has grown -/
theorem j_Ad.ax {x k L arr n e : Nat} {h h' : j_H} (w : j_WF h x) (hk : k < 3) (eL : j_rf h x k = some L) (e1 : j_rf h L 1 = some arr) (a : j_Ad h h' L arr n e) : ∀ j, j_aK j = true → j_ax h' x j = j_u1 (j_ax h x) k (j_ax h x k + Int32.ofInt 1) j := by
  obtain ⟨kL, arr', t, f1, f2⟩ := w.own hk eL
  obtain rfl : arr' = arr := Option.some.inj (f1.symm.trans e1)
  have kx := w.1
  have hx := (a.of (q := x) (j_nn kx) (fun z => by rw [z, kL] at kx; cases kx) (fun z => by rw [z, f2] at kx; cases kx)).2.2
  have sz : ∀ j, j < 2 → j_sz h' x j = if j = k then j_sz h x k + Int32.ofInt 1 else j_sz h x j := fun j hj => by
    have ex : ∃ M, j_rf h x j = some M := by
      obtain ⟨-, -, L0, L1, L2, e0, -, e1, -⟩ := w
      match j, hj with
      | 0, _ => exact ⟨L0, e0⟩
      | 1, _ => exact ⟨L1, e1⟩
      | n + 2, hj => omega
    obtain ⟨M, eM⟩ := ex
    rw [j_sz_e eM, j_sz_e (((hx j).2).trans eM)]
    by_cases z : j = k
    · subst z
      obtain rfl : M = L := Option.some.inj (eM.symm.trans eL)
      rw [if_pos rfl, j_sz_e eL]
      obtain ⟨b, a1, a2, a3, a4, a5, -⟩ := a
      exact a5
    · rw [if_neg z]
      have kM := (w.own (by omega) eM).1
      exact ((a.of (q := M) (j_nn kM) (w.ll (by omega) hk z eM eL) (fun z => by rw [z, f2] at kM; cases kM)).2.2 2).1
  intro j hj
  unfold j_u1
  rcases j_aKc hj with rfl | rfl | rfl | rfl | rfl | rfl
  · refine (sz 0 (by decide)).trans ?_
    by_cases z : 0 = k
    · subst z; rfl
    · rw [if_neg z, if_neg z]; rfl
  · refine (sz 1 (by decide)).trans ?_
    by_cases z : 1 = k
    · subst z; rfl
    · rw [if_neg z, if_neg z]; rfl
  · rw [if_neg (by omega)]; exact (hx 3).1
  · rw [if_neg (by omega)]; exact (hx 4).1
  · rw [if_neg (by omega)]; exact (hx 5).1
  · rw [if_neg (by omega)]; exact (hx 6).1
theorem j_Fr.ad2 {x L arr n e : Nat} {h h' : j_H} (w : j_WF h x) (eL : j_rf h x 2 = some L) (e1 : j_rf h L 1 = some arr) (a : j_Ad h h' L arr n e) (w' : j_WF h' x) : j_Fr x h h' := by
  have f := j_Fs.ad w (by decide) eL e1 a w'
  exact ⟨f.1, f.2.1, f.2.2, fun j hj => (a.ax w (by decide) eL e1 j hj).trans (if_neg (fun z => by rw [z] at hj; exact absurd hj (by decide)))⟩
theorem j_Fr.sc {S : Nat → Nat → Bool} {x : Nat} {h : j_H} {it : Nat → Nat → Int32} (w : j_WF h x) (s : j_Sc S h it) (hS : j_Sk S) (h8 : (∀ c k, S c k = true → 4 ≤ c ∧ c ≤ 8) ∧ ∀ k, j_wk k = true → S 8 k = false) : j_Fr x h (j_wi h it) := by
  refine ⟨w.sc s hS, ⟨rfl, fun q hq => ⟨rfl, rfl, fun hn k => ⟨s q k fun c hc => ?_, rfl, rfl⟩⟩⟩, fun q hq _ => hq, j_ax_of w (fun k h3 h6 => s.at w.1 (h8.2 k (j_wkk h3 h6))) (fun _ _ => rfl) (fun k L hk e => s.at (w.own (by omega) e).1 (hS.1 2))⟩
  cases hz : S c k with
  | false => rfl
  | true => exact (hn (Or.inl ⟨c, hc, h8.1 c k hz⟩)).elim
theorem j_G.new {h h1 : j_H} (N : Nat → Prop) (g : j_G h) (o : j_On (fun _ => False) h h1) (old : ∀ q, ¬ N q → j_kd h1 q = j_kd h q)
    (n1 : ∀ a, N a → j_kd h1 a = some (.inl 4) → ∃ b, j_rf h1 a 1 = some b ∧ j_kd h1 b = some (.inl 5)) (n2 : ∀ a, N a → j_kd h1 a = some (.inl 4) → ∃ b, j_rf h1 a 2 = some b ∧ j_kd h1 b = some (.inl 5))
    (n3 : ∀ a, N a → j_kd h1 a = some (.inl 7) → ∃ b, j_rf h1 a 6 = some b ∧ j_kd h1 b = some (.inl 4)) (n4 : ∀ a, N a → j_kd h1 a = some (.inl 6) → ∃ b, j_rf h1 a 1 = some b ∧ j_kd h1 b = some (.inl 7))
    (n5 : ∀ a, N a → j_kd h1 a = some (.inl 6) → j_rf h1 a 3 = none ∨ ∃ b, j_rf h1 a 3 = some b ∧ j_kd h1 b = some (.inl 6) ∧ 0 ≤ (j_it h1 b 0).toInt ∧ (j_it h1 b 0).toInt < (j_it h1 a 0).toInt) : j_G h1 := by
  obtain ⟨g1, g2, g3, g4, g5⟩ := g
  have up : ∀ q s, j_kd h q = some s → j_kd h1 q = some s := fun q s hq => ((o.2 q (j_nn hq)).1).trans hq
  have sm : ∀ q s, j_kd h q = some s → ∀ k, j_it h1 q k = j_it h q k ∧ j_rf h1 q k = j_rf h q k := fun q s hq k => ⟨((o.2 q (j_nn hq)).2.2 (fun z => z) k).1, ((o.2 q (j_nn hq)).2.2 (fun z => z) k).2.2⟩
  refine ⟨fun a ha => ?_, fun a ha => ?_, fun a ha => ?_, fun a ha => ?_, fun a ha => ?_⟩
  · by_cases hN : N a
    · exact n1 a hN ha
    · rw [old a hN] at ha
      obtain ⟨b, f1, f2⟩ := g1 a ha
      exact ⟨b, ((sm a _ ha 1).2).trans f1, up _ _ f2⟩
  · by_cases hN : N a
    · exact n2 a hN ha
    · rw [old a hN] at ha
      obtain ⟨b, f1, f2⟩ := g2 a ha
      exact ⟨b, ((sm a _ ha 2).2).trans f1, up _ _ f2⟩
  · by_cases hN : N a
    · exact n3 a hN ha
    · rw [old a hN] at ha
      obtain ⟨b, f1, f2⟩ := g3 a ha
      exact ⟨b, ((sm a _ ha 6).2).trans f1, up _ _ f2⟩
  · by_cases hN : N a
    · exact n4 a hN ha
    · rw [old a hN] at ha
      obtain ⟨b, f1, f2⟩ := g4 a ha
      exact ⟨b, ((sm a _ ha 1).2).trans f1, up _ _ f2⟩
  · by_cases hN : N a
    · exact n5 a hN ha
    · rw [old a hN] at ha
      rcases g5 a ha with f | ⟨b, f1, f2, f3, f4⟩
      · exact Or.inl (((sm a _ ha 3).2).trans f)
      · refine Or.inr ⟨b, ((sm a _ ha 3).2).trans f1, up _ _ f2, ?_, ?_⟩
        · rw [(sm b _ f2 0).1]; exact f3
        · rw [(sm b _ f2 0).1, (sm a _ ha 0).1]; exact f4
theorem j_fresh {h : j_H} {a b n : Nat} {s : Nat ⊕ Nat} (e : j_kd (j_nw h a s n) b = none) : b ≠ a ∧ j_kd h b = none := by
  have e : (if b = a then some s else j_kd h b) = none := e
  by_cases z : b = a
  · rw [if_pos z] at e; cases e
  · rw [if_neg z] at e; exact ⟨z, e⟩
/-- a run's label changed -/
theorem j_Fr.up7 {h : j_H} {x g b : Nat} (w : j_WF h x) (k : j_kd h g = some (.inl 7)) (kb : j_kd h b = some (.inl 4)) : j_Fr x h (j_up h g 6 (j_r (some b))) := by
  have nk : ∀ q j, j ≠ 6 → j_rf (j_up h g 6 (j_r (some b))) q j = j_rf h q j := fun q j hj => by
    show j_u _ g 6 (some b) q j = _
    exact j_u_nk hj
  have ne : ∀ q, q ≠ g → ∀ j, j_rf (j_up h g 6 (j_r (some b))) q j = j_rf h q j := fun q hq j => by
    show j_u _ g 6 (some b) q j = _
    exact j_u_ne hq
  have li : ∀ {L c M}, j_LI h L c M → j_LI (j_up h g 6 (j_r (some b))) L c M := fun {L c M} l => by
    obtain ⟨kL, b0, b1, arr, t, e1, e2, e3, e4, e5, e6⟩ := l
    have na : arr ≠ g := fun z => by rw [z, k] at e2; cases e2
    exact ⟨kL, b0, b1, arr, t, (nk L 1 (by decide)).trans e1, e2, e3, e4, e5, fun j hj => by
      obtain ⟨e, f1, f2⟩ := e6 j hj
      exact ⟨e, (ne arr na j).trans f1, f2⟩⟩
  have w9 := w
  obtain ⟨kx, ⟨g1, g2, g3, g4, g5⟩, L0, L1, L2, e0, l0, e1, l1, e2, l2, ⟨p1, p2, p3⟩, pn⟩ := w
  refine ⟨⟨kx, ⟨fun a ha => ?_, fun a ha => ?_, fun a ha => ?_, fun a ha => ?_, fun a ha => ?_⟩, L0, L1, L2, (nk x 0 (by decide)).trans e0, li l0, (nk x 1 (by decide)).trans e1, li l1, (nk x 2 (by decide)).trans e2, li l2, ⟨p1.mv (nk _ 1 (by decide)) (nk _ 1 (by decide)) (fun _ _ => rfl), p2.mv (nk _ 1 (by decide)) (nk _ 1 (by decide)) (fun _ _ => rfl), p3.mv (nk _ 1 (by decide)) (nk _ 1 (by decide)) (fun _ _ => rfl)⟩, ?_⟩, j_On.up (Or.inl ⟨7, k, by decide, by decide⟩), fun q hq hz => ?_, j_ax_of w9 (fun _ _ _ => rfl) (fun k _ => nk x k (by omega)) (fun _ _ _ _ => rfl)⟩
  · obtain ⟨y, f1, f2⟩ := g1 a ha
    exact ⟨y, (nk a 1 (by decide)).trans f1, f2⟩
  · obtain ⟨y, f1, f2⟩ := g2 a ha
    exact ⟨y, (nk a 2 (by decide)).trans f1, f2⟩
  · by_cases z : a = g
    · rw [z]
      exact ⟨b, j_upr, kb⟩
    · obtain ⟨y, f1, f2⟩ := g3 a ha
      exact ⟨y, (ne a z 6).trans f1, f2⟩
  · obtain ⟨y, f1, f2⟩ := g4 a ha
    exact ⟨y, (nk a 1 (by decide)).trans f1, f2⟩
  · rcases g5 a ha with f | ⟨y, f1, f2⟩
    · exact Or.inl ((nk a 3 (by decide)).trans f)
    · exact Or.inr ⟨y, (nk a 3 (by decide)).trans f1, f2⟩
  · intro arr r1 j y hj r2
    rw [nk _ 1 (by decide)] at r1
    obtain ⟨kL, b0, b1, arr', t, f1, f2, f3⟩ := l2
    obtain rfl : arr' = arr := Option.some.inj (f1.symm.trans r1)
    rw [ne arr' (fun z => by rw [z, k] at f2; cases f2)] at r2
    exact pn arr' f1 j y hj r2
  · rcases hq with hq | ⟨k', L', hk', h1, h2⟩
    · exact Or.inl hq
    · rw [nk x k' (by omega)] at h1
      rw [nk L' 1 (by decide)] at h2
      exact Or.inr ⟨k', L', hk', h1, h2⟩
/-- x's k-th list y made anew -/
theorem j_mkl {h : j_H} {x y k : Nat} (kx : j_kd h x = some (.inl 8)) (hy : j_kd h y = none) {h' : j_H} (e : h' = j_up (j_up (j_up (j_nw h y (.inl 3) 0) y 0 (j_i (Int32.ofInt 0))) y 1 (j_r (j_st h 0))) x k (j_r (some y))) :
    j_On (fun q => q = x) h h' ∧ j_kd h' y = some (.inl 3) ∧ (∀ q, q ≠ y → j_kd h' q = j_kd h q) ∧ j_rf h' y 1 = j_st h 0 ∧ (j_it h' y 2).toInt = 0 ∧ j_rf h' x k = some y ∧ (∀ j, j ≠ k → j_rf h' x j = j_rf h x j) ∧ x ≠ y := by
  have nx : x ≠ y := fun z => by rw [z, hy] at kx; cases kx
  subst e
  refine ⟨?_, if_pos rfl, fun q hq => if_neg hq, ?_, ?_, j_upr, fun j hj => ?_, nx⟩
  · exact ((((j_On.nw (S := fun q => q = x ∨ q = y) hy).trans (j_On.up (Or.inr rfl))).trans (j_On.up (Or.inr rfl))).trans (j_On.up (Or.inl rfl))).mono (fun q hq z => by
      rcases z with z | z
      · exact z
      · rw [z] at hq; exact absurd hy hq)
  · refine ((j_up_ne _ _ (fun z => nx z.symm) 1).2.2).trans ?_
    exact j_upr
  · have e2 : j_it (j_up (j_up (j_up (j_nw h y (.inl 3) 0) y 0 (j_i (Int32.ofInt 0))) y 1 (j_r (j_st h 0))) x k (j_r (some y))) y 2 = 0 := by
      refine ((j_up_ne _ _ (fun z => nx z.symm) 2).1).trans ?_
      refine (j_upm (by decide)).trans ((j_upm (by decide)).trans ?_)
      exact if_pos rfl
    rw [e2]
    rfl
  · refine (j_upn hj).trans ?_
    refine ((j_up_ne _ _ nx j).2.2).trans (((j_up_ne _ _ nx j).2.2).trans ?_)
    exact if_neg nx
