/-! what x holds, told by numbers: its own, the motes, the grains, the runs, the prints -/
abbrev j_Z : Type := (Nat → Int32) × (Nat → Nat → Nat → Int32) × (Nat → Nat → Int32) × (Nat → Nat → Int32) × (Nat → Nat → Int32)
def z_el (h : j_H) (x i k : Nat) : Nat := (j_rf h ((j_rf h ((j_rf h x i).getD 0) 1).getD 0) k).getD 0
def z_mo (h : j_H) (e i : Nat) : Nat := (j_rf h e (1 + i)).getD 0
/-- of motes: mothers, daughters, gone, born -/
def z_mf (t : Nat) : Nat := match t with
  | 0 => 1
  | 1 => 2
  | 2 => 3
  | _ => 0
/-- of a grain: bed, year, touched -/
def z_gf (f : Nat) : Nat := match f with
  | 0 => 3
  | 1 => 4
  | _ => 5
def z_cn (h : j_H) (x k : Nat) : Int32 := match k with
  | 0 => j_sz h x 0
  | 1 => j_sz h x 1
  | 2 => j_sz h x 2
  | n + 3 => j_it h x (n + 3)
def z_cm (h : j_H) (x k i t : Nat) : Int32 := j_it h (z_mo h (z_el h x 0 k) i) (z_mf t)
def z_cg (h : j_H) (x k f : Nat) : Int32 := j_it h (z_el h x 0 k) (z_gf f)
/-- of a run: its label, clock, mothers, daughters, slip, year, does it stand -/
def z_cr (h : j_H) (x k f : Nat) : Int32 := match f with
  | 0 => j_it h ((j_rf h (z_el h x 1 k) 6).getD 0) 0
  | 1 => j_it h (z_el h x 1 k) 1
  | 2 => j_it h (z_el h x 1 k) 2
  | 3 => j_it h (z_el h x 1 k) 3
  | 4 => j_it h (z_el h x 1 k) 4
  | 5 => j_it h (z_el h x 1 k) 5
  | _ => j_it h (z_el h x 1 k) 7
/-- of a print: its run, pace, the one below -/
def z_cp (h : j_H) (x k f : Nat) : Int32 := match f with
  | 0 => j_it h ((j_rf h (z_el h x 2 k) 1).getD 0) 0
  | 1 => j_it h (z_el h x 2 k) 2
  | _ => match j_rf h (z_el h x 2 k) 3 with
    | none => Int32.ofInt (-1)
    | some b => j_it h b 0
def z_c (h : j_H) (x : Nat) : j_Z := (z_cn h x, z_cm h x, z_cg h x, z_cr h x, z_cp h x)
/-- k is the number of a grain, a run, a print -/
def z_lt (A : j_Z) (i k : Nat) : Prop := (k : Int) < (A.1 i).toInt
def z_eq (A B : j_Z) : Prop := (∀ k, k < 7 → A.1 k = B.1 k) ∧ (∀ k i t, z_lt A 0 k → i < 2 → t < 4 → A.2.1 k i t = B.2.1 k i t) ∧ (∀ k f, z_lt A 0 k → f < 3 → A.2.2.1 k f = B.2.2.1 k f) ∧ (∀ k f, z_lt A 1 k → f < 7 → A.2.2.2.1 k f = B.2.2.2.1 k f) ∧ ∀ k f, z_lt A 2 k → f < 3 → A.2.2.2.2 k f = B.2.2.2.2 k f
theorem z_eq.rf {A : j_Z} : z_eq A A := ⟨fun _ _ => rfl, fun _ _ _ _ _ _ => rfl, fun _ _ _ _ => rfl, fun _ _ _ _ => rfl, fun _ _ _ _ => rfl⟩
theorem z_eq.lt {A B : j_Z} (e : z_eq A B) {i k : Nat} (hi : i < 7) (h : z_lt A i k) : z_lt B i k := by
  unfold z_lt at h ⊢
  rw [← e.1 i hi]
  exact h
theorem z_eq.sy {A B : j_Z} (e : z_eq A B) : z_eq B A := by
  have up : ∀ i k, i < 7 → z_lt B i k → z_lt A i k := fun i k hi h => by
    unfold z_lt at h ⊢
    rw [e.1 i hi]
    exact h
  exact ⟨fun k hk => (e.1 k hk).symm, fun k i t h hi ht => (e.2.1 k i t (up 0 k (by decide) h) hi ht).symm, fun k f h hf => (e.2.2.1 k f (up 0 k (by decide) h) hf).symm, fun k f h hf => (e.2.2.2.1 k f (up 1 k (by decide) h) hf).symm, fun k f h hf => (e.2.2.2.2 k f (up 2 k (by decide) h) hf).symm⟩
theorem z_eq.tr {A B C : j_Z} (e : z_eq A B) (g : z_eq B C) : z_eq A C :=
  ⟨fun k hk => (e.1 k hk).trans (g.1 k hk), fun k i t h hi ht => (e.2.1 k i t h hi ht).trans (g.2.1 k i t (e.lt (by decide) h) hi ht), fun k f h hf => (e.2.2.1 k f h hf).trans (g.2.2.1 k f (e.lt (by decide) h) hf), fun k f h hf => (e.2.2.2.1 k f h hf).trans (g.2.2.2.1 k f (e.lt (by decide) h) hf), fun k f h hf => (e.2.2.2.2 k f h hf).trans (g.2.2.2.2 k f (e.lt (by decide) h) hf)⟩
/-- the span of a run by a pace: what was counted, the slip -/
def z_te (p m d s : Int32) : Int32 := t_early p (m + s) 3000 (Int32.ofInt 0) ((m + s) + (if Int32.ofInt (0) < (d - s) then (d - s) else Int32.ofInt (0)))
def z_tl (p m d s : Int32) : Int32 := t_late p (if Int32.ofInt (0) < (m - s) then (m - s) else Int32.ofInt (0)) 3000 (Int32.ofInt 0) (((if Int32.ofInt (0) < (m - s) then (m - s) else Int32.ofInt (0)) + d) + s)
/-- a run's cached span is that by the pace of now -/
def z_ca (h : j_H) (x e : Nat) : Prop := j_it h e 8 = z_te (j_it h x (j_pf (j_it h e 1))) (j_it h e 2) (j_it h e 3) (j_it h e 4) ∧ j_it h e 9 = z_tl (j_it h x (j_pf (j_it h e 1))) (j_it h e 2) (j_it h e 3) (j_it h e 4)
def z_in (h : j_H) (x i k : Nat) : Prop := (k : Int) < (j_sz h x i).toInt
/-- numbers, motes apart, labels, spans as kept, prints -/
def z_I0 (h : j_H) (x : Nat) : Prop := (∀ k, z_in h x 0 k → (j_it h (z_el h x 0 k) 0).toInt = (k : Int)) ∧ (∃ μ : Nat → Nat, ∀ k i, z_in h x 0 k → i < 2 → μ (z_mo h (z_el h x 0 k) i) = 2 * k + i) ∧
  (∀ k, z_in h x 1 k → (j_it h (z_el h x 1 k) 0).toInt = (k : Int) ∧ ∃ g, z_in h x 0 g ∧ j_rf h (z_el h x 1 k) 6 = some (z_el h x 0 g)) ∧
  ∀ k, z_in h x 2 k → (j_it h (z_el h x 2 k) 0).toInt = (k : Int) ∧ (∃ r, z_in h x 1 r ∧ j_rf h (z_el h x 2 k) 1 = some (z_el h x 1 r)) ∧ (j_rf h (z_el h x 2 k) 3 = none ∨ ∃ q, q < k ∧ j_rf h (z_el h x 2 k) 3 = some (z_el h x 2 q))
def z_I (h : j_H) (x : Nat) : Prop := z_I0 h x ∧ ∀ k, z_in h x 1 k → z_ca h x (z_el h x 1 k)
theorem z_el_of {h : j_H} {x i L arr k y : Nat} (e : j_rf h x i = some L) (e1 : j_rf h L 1 = some arr) (e2 : j_rf h arr k = some y) : z_el h x i k = y := by
  unfold z_el
  rw [e, Option.getD_some, e1, Option.getD_some, e2, Option.getD_some]
theorem z_el_get {h : j_H} {x i L k y : Nat} (e : j_rf h x i = some L) (g : ∃ arr, j_rf h L 1 = some arr ∧ j_rf h arr k = some y) : z_el h x i k = y := by
  obtain ⟨arr, e1, e2⟩ := g
  exact z_el_of e e1 e2
theorem z_mo_of {h : j_H} {e i y : Nat} (g : j_rf h e (1 + i) = some y) : z_mo h e i = y := by
  unfold z_mo
  rw [g, Option.getD_some]
section ZW
variable {h h1 : j_H} {x : Nat}
theorem z_k0 (w : j_WF h x) {k : Nat} (hk : z_in h x 0 k) : j_kd h (z_el h x 0 k) = some (.inl 4) := by
  obtain ⟨kx, g, L0, L1, L2, e0, l0, -⟩ := w
  obtain ⟨kL, b0, b1, arr, t, f1, f2, f3, f4, f5, f6⟩ := l0
  unfold z_in at hk
  rw [j_sz_e e0] at hk
  obtain ⟨y, y1, y2⟩ := f6 k hk
  rw [z_el_of e0 f1 y1]
  exact y2
theorem z_k1 (w : j_WF h x) {k : Nat} (hk : z_in h x 1 k) : j_kd h (z_el h x 1 k) = some (.inl 7) := by
  obtain ⟨kx, g, L0, L1, L2, e0, l0, e1, l1, -⟩ := w
  obtain ⟨kL, b0, b1, arr, t, f1, f2, f3, f4, f5, f6⟩ := l1
  unfold z_in at hk
  rw [j_sz_e e1] at hk
  obtain ⟨y, y1, y2⟩ := f6 k hk
  rw [z_el_of e1 f1 y1]
  exact y2
theorem z_k2 (w : j_WF h x) {k : Nat} (hk : z_in h x 2 k) : j_kd h (z_el h x 2 k) = some (.inl 6) := by
  obtain ⟨kx, g, L0, L1, L2, e0, l0, e1, l1, e2, l2, -⟩ := w
  obtain ⟨kL, b0, b1, arr, t, f1, f2, f3, f4, f5, f6⟩ := l2
  unfold z_in at hk
  rw [j_sz_e e2] at hk
  obtain ⟨y, y1, y2⟩ := f6 k hk
  rw [z_el_of e2 f1 y1]
  exact y2
theorem z_km (w : j_WF h x) {k i : Nat} (hk : z_in h x 0 k) (hi : i < 2) : j_rf h (z_el h x 0 k) (1 + i) = some (z_mo h (z_el h x 0 k) i) ∧ j_kd h (z_mo h (z_el h x 0 k) i) = some (.inl 5) := by
  have ke := z_k0 w hk
  obtain ⟨kx, ⟨g1, g2, -⟩, -⟩ := w
  match i, hi with
  | 0, _ =>
    obtain ⟨b, b1, b2⟩ := g1 _ ke
    have e : z_mo h (z_el h x 0 k) 0 = b := z_mo_of b1
    rw [e]
    exact ⟨b1, b2⟩
  | 1, _ =>
    obtain ⟨b, b1, b2⟩ := g2 _ ke
    have e : z_mo h (z_el h x 0 k) 1 = b := z_mo_of b1
    rw [e]
    exact ⟨b1, b2⟩
  | n + 2, hi => omega
/-- grains, motes, runs by their numbers -/
theorem z_I.g (I : z_I h x) {k j : Nat} (hk : z_in h x 0 k) (hj : z_in h x 0 j) (e : z_el h x 0 k = z_el h x 0 j) : k = j := by
  have a := I.1.1 k hk
  have b := I.1.1 j hj
  rw [e] at a
  omega
theorem z_I.r (I : z_I h x) {k j : Nat} (hk : z_in h x 1 k) (hj : z_in h x 1 j) (e : z_el h x 1 k = z_el h x 1 j) : k = j := by
  have a := (I.1.2.2.1 k hk).1
  have b := (I.1.2.2.1 j hj).1
  rw [e] at a
  omega
theorem z_I.m (I : z_I h x) {k j i i' : Nat} (hk : z_in h x 0 k) (hj : z_in h x 0 j) (hi : i < 2) (hi' : i' < 2) (e : z_mo h (z_el h x 0 k) i = z_mo h (z_el h x 0 j) i') : k = j ∧ i = i' := by
  obtain ⟨μ, hμ⟩ := I.1.2.1
  have a := hμ k i hk hi
  have b := hμ j i' hj hi'
  rw [e] at a
  omega
/-- the ints that calls write: touched and notes of grains, motes but born, stands, spans and notes of runs -/
def z_S (c k : Nat) : Bool := ((Nat.beq c 4 && Nat.ble 5 k) || (Nat.beq c 5 && Nat.ble 1 k)) || (Nat.beq c 7 && Nat.ble 7 k)
theorem z_Sok : j_Sk z_S := ⟨fun k => rfl, rfl⟩
theorem z_S8 : (∀ c k, z_S c k = true → 4 ≤ c ∧ c ≤ 8) ∧ ∀ k, j_wk k = true → z_S 8 k = false := by
  refine ⟨fun c k h => ?_, fun k _ => rfl⟩
  unfold z_S at h
  rcases (Bool.or_eq_true _ _).mp h with h | h
  · rcases (Bool.or_eq_true _ _).mp h with h | h
    · have := Nat.eq_of_beq_eq_true ((Bool.and_eq_true _ _).mp h).1
      omega
    · have := Nat.eq_of_beq_eq_true ((Bool.and_eq_true _ _).mp h).1
      omega
  · have := Nat.eq_of_beq_eq_true ((Bool.and_eq_true _ _).mp h).1
    omega
theorem z_sz {it : Nat → Nat → Int32} (w : j_WF h x) (s : j_Sc z_S h it) {i : Nat} (hi : i < 3) : j_sz (j_wi h it) x i = j_sz h x i := by
  have ex : ∃ L, j_rf h x i = some L := by
    obtain ⟨-, -, L0, L1, L2, e0, -, e1, -, e2, -⟩ := w
    match i, hi with
    | 0, _ => exact ⟨L0, e0⟩
    | 1, _ => exact ⟨L1, e1⟩
    | 2, _ => exact ⟨L2, e2⟩
    | n + 3, hi => omega
  obtain ⟨L, e⟩ := ex
  rw [j_sz_e e, j_sz_e (h := j_wi h it) e]
  exact s.at (w.own hi e).1 rfl
def z_wr (h : j_H) (it : Nat → Nat → Int32) (x k f : Nat) : Int32 := match f with
  | 6 => it (z_el h x 1 k) 7
  | f => z_cr h x k f
/-- only such ints written, the runs' spans as they were: what x holds then -/
theorem z_wi {it : Nat → Nat → Int32} (w : j_WF h x) (I : z_I0 h x) (s : j_Sc z_S h it) (c : ∀ k, z_in h x 1 k → z_ca (j_wi h it) x (z_el h x 1 k)) :
    j_Fr x h (j_wi h it) ∧ z_I (j_wi h it) x ∧ z_eq (z_c (j_wi h it) x) (z_cn h x, fun k i t => it (z_mo h (z_el h x 0 k) i) (z_mf t), fun k f => it (z_el h x 0 k) (z_gf f), z_wr h it x, z_cp h x) := by
  have f := j_Fr.sc w s z_Sok z_S8
  have q : ∀ i k, i < 3 → z_in (j_wi h it) x i k → z_in h x i k := fun i k hi h9 => by
    unfold z_in at h9 ⊢
    rw [z_sz w s hi] at h9
    exact h9
  have n0 : ∀ k, z_in h x 0 k → it (z_el h x 0 k) 0 = j_it h (z_el h x 0 k) 0 := fun k hk => s.at (z_k0 w hk) rfl
  have n1 : ∀ k, z_in h x 1 k → ∀ j, j < 7 → it (z_el h x 1 k) j = j_it h (z_el h x 1 k) j := fun k hk j hj => s.at (z_k1 w hk) (by
    show ((false || false) || (true && Nat.ble 7 j)) = false
    have : Nat.ble 7 j = false := by
      cases z : Nat.ble 7 j with
      | false => rfl
      | true => have := Nat.le_of_ble_eq_true z; omega
    rw [this]
    rfl)
  have n2 : ∀ k, z_in h x 2 k → ∀ j, it (z_el h x 2 k) j = j_it h (z_el h x 2 k) j := fun k hk j => s.at (z_k2 w hk) rfl
  refine ⟨f, ⟨⟨fun k hk => ?_, ?_, fun k hk => ?_, fun k hk => ?_⟩, fun k hk => c k (q 1 k (by decide) hk)⟩, ?_⟩
  · have hk := q 0 k (by decide) hk
    show (it (z_el h x 0 k) 0).toInt = _
    rw [n0 k hk]
    exact I.1 k hk
  · obtain ⟨μ, hμ⟩ := I.2.1
    exact ⟨μ, fun k i hk hi => hμ k i (q 0 k (by decide) hk) hi⟩
  · have hk := q 1 k (by decide) hk
    obtain ⟨a, g, g1, g2⟩ := I.2.2.1 k hk
    refine ⟨?_, g, ?_, g2⟩
    · show (it (z_el h x 1 k) 0).toInt = _
      rw [n1 k hk 0 (by decide)]
      exact a
    · unfold z_in at g1 ⊢
      rw [z_sz w s (by decide)]
      exact g1
  · have hk := q 2 k (by decide) hk
    obtain ⟨a, ⟨r, r1, r2⟩, b⟩ := I.2.2.2 k hk
    refine ⟨?_, ⟨r, ?_, r2⟩, b⟩
    · show (it (z_el h x 2 k) 0).toInt = _
      rw [n2 k hk 0]
      exact a
    · unfold z_in at r1 ⊢
      rw [z_sz w s (by decide)]
      exact r1
  · refine ⟨fun k hk => ?_, fun k i t _ _ _ => rfl, fun k f _ _ => rfl, fun k f hk hf => ?_, fun k f hk hf => ?_⟩
    · match k, hk with
      | 0, _ => exact z_sz w s (by decide)
      | 1, _ => exact z_sz w s (by decide)
      | 2, _ => exact z_sz w s (by decide)
      | n + 3, hk => exact s.at w.1 rfl
    · have hk := q 1 k (by decide) hk
      match f, hf with
      | 0, _ =>
        obtain ⟨a, g, g1, g2⟩ := I.2.2.1 k hk
        show it ((j_rf h (z_el h x 1 k) 6).getD 0) 0 = j_it h ((j_rf h (z_el h x 1 k) 6).getD 0) 0
        rw [g2, Option.getD_some]
        exact n0 g g1
      | 1, _ => exact n1 k hk 1 (by decide)
      | 2, _ => exact n1 k hk 2 (by decide)
      | 3, _ => exact n1 k hk 3 (by decide)
      | 4, _ => exact n1 k hk 4 (by decide)
      | 5, _ => exact n1 k hk 5 (by decide)
      | 6, _ => rfl
      | n + 7, hf => omega
    · have hk := q 2 k (by decide) hk
      obtain ⟨a, ⟨r, r1, r2⟩, b⟩ := I.2.2.2 k hk
      match f, hf with
      | 0, _ =>
        show it ((j_rf h (z_el h x 2 k) 1).getD 0) 0 = j_it h ((j_rf h (z_el h x 2 k) 1).getD 0) 0
        rw [r2, Option.getD_some]
        exact n1 r r1 0 (by decide)
      | 1, _ => exact n2 k hk 2
      | 2, _ =>
        have hq : ∀ b : Nat, j_rf h (z_el h x 2 k) 3 = some b → it b 0 = j_it h b 0 := fun b hb => by
          obtain ⟨-, -, n | ⟨q', q1, q2⟩⟩ := I.2.2.2 k hk
          · rw [n] at hb; cases hb
          · rw [q2] at hb
            have hb := Option.some.inj hb
            rw [← hb]
            exact n2 q' (by unfold z_in at hk ⊢; omega) 0
        show z_cp (j_wi h it) x k 2 = z_cp h x k 2
        show (match j_rf h (z_el h x 2 k) 3 with | none => Int32.ofInt (-1) | some b => it b 0) = (match j_rf h (z_el h x 2 k) 3 with | none => Int32.ofInt (-1) | some b => j_it h b 0)
        cases z : j_rf h (z_el h x 2 k) 3 with
        | none => rfl
        | some b => exact hq b z
      | n + 3, hf => omega
/-- notes alone written -/
theorem z_notes {it : Nat → Nat → Int32} (w : j_WF h x) (I : z_I h x) (s : j_Sc j_sf h it) : j_Fr x h (j_wi h it) ∧ z_I (j_wi h it) x ∧ z_eq (z_c (j_wi h it) x) (z_c h x) := by
  have s9 : j_Sc z_S h it := s.mono (fun c k z => by
    unfold j_sf at z
    unfold z_S
    rcases (Bool.or_eq_true _ _).mp z with z | z
    · obtain ⟨z1, z2⟩ := (Bool.and_eq_true _ _).mp z
      obtain rfl := Nat.eq_of_beq_eq_true z1
      have z3 : Nat.ble 5 k = true := Nat.ble_eq_true_of_le (by have := Nat.le_of_ble_eq_true z2; omega)
      show (((true && Nat.ble 5 k) || false) || false) = true
      rw [z3]
      rfl
    · obtain ⟨z1, z2⟩ := (Bool.and_eq_true _ _).mp z
      obtain rfl := Nat.eq_of_beq_eq_true z1
      obtain rfl := Nat.eq_of_beq_eq_true z2
      rfl)
  obtain ⟨a, b, c⟩ := z_wi w I.1 s9 (fun k hk => by
    have ke := z_k1 w hk
    have g : ∀ j, j < 10 → it (z_el h x 1 k) j = j_it h (z_el h x 1 k) j := fun j hj => s.at ke (by
      show (false || (true && Nat.beq j 10)) = false
      cases z : Nat.beq j 10 with
      | false => rfl
      | true => have := Nat.eq_of_beq_eq_true z; omega)
    have gx : ∀ j, it x j = j_it h x j := fun j => s.at w.1 rfl
    have c := I.2 k hk
    unfold z_ca at c ⊢
    show it (z_el h x 1 k) 8 = z_te (it x (j_pf (it (z_el h x 1 k) 1))) (it (z_el h x 1 k) 2) (it (z_el h x 1 k) 3) (it (z_el h x 1 k) 4) ∧ it (z_el h x 1 k) 9 = z_tl (it x (j_pf (it (z_el h x 1 k) 1))) (it (z_el h x 1 k) 2) (it (z_el h x 1 k) 3) (it (z_el h x 1 k) 4)
    rw [g 8 (by decide), g 9 (by decide), g 1 (by decide), g 2 (by decide), g 3 (by decide), g 4 (by decide), gx]
    exact c)
  refine ⟨a, b, c.tr ⟨fun k hk => rfl, fun k i t hk hi ht => ?_, fun k f hk hf => ?_, fun k f hk hf => ?_, fun k f hk hf => rfl⟩⟩
  · exact s.at (z_km w hk hi).2 rfl
  · have ke := z_k0 w hk
    match f, hf with
    | 0, _ => exact s.at ke rfl
    | 1, _ => exact s.at ke rfl
    | 2, _ => exact s.at ke rfl
    | n + 3, hf => omega
  · have ke := z_k1 w hk
    match f, hf with
    | 6, _ => exact s.at ke rfl
    | 0, _ => rfl
    | 1, _ => rfl
    | 2, _ => rfl
    | 3, _ => rfl
    | 4, _ => rfl
    | 5, _ => rfl
    | n + 7, hf => omega
end ZW
