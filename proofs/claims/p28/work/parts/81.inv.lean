/-! what holds of the laboratory, always; and of ages while no labels were swapped -/
def y_G (z : j_Z) : Prop := ∀ k i, z_lt z 0 k → i < 2 → 0 ≤ (z.2.1 k i 2).toInt ∧ (z.2.1 k i 0).toInt + (z.2.1 k i 1).toInt + (z.2.1 k i 2).toInt = (z.2.1 k i 3).toInt ∧ (z.2.1 k i 3).toInt ≤ 9999
def y_Y (z : j_Z) : Prop := ∀ k, z_lt z 0 k → 0 ≤ (z.2.2.1 k 1).toInt ∧ (z.2.2.1 k 1).toInt ≤ (z.1 6).toInt
def y_L (z : j_Z) : Prop := ∀ k, z_lt z 1 k → 0 ≤ (z.2.2.2.1 k 0).toInt ∧ (z.2.2.2.1 k 0).toInt < (z.1 0).toInt
def y_ok (z : j_Z) : Prop := (z_V z ∧ z_B z) ∧ y_G z ∧ y_Y z
/-- of a grain g, by the clock c: as many mothers as the table says, each run's span holds the age -/
def y_K (z : j_Z) (g c : Nat) : Prop := (z.2.1 g c 2).toInt = 0 ∧ (z.2.1 g c 0).toInt = y_g (z.1 (3 + c)).toInt ((z.1 6).toInt - (z.2.2.1 g 1).toInt).toNat (z.2.1 g c 3).toInt ∧
  ∀ k, z_lt z 1 k → (z.2.2.2.1 k 0).toInt = (g : Int) → (z.2.2.2.1 k 1).toInt = (c : Int) → (z.2.2.1 g 1).toInt ≤ (z.2.2.2.1 k 5).toInt ∧ (z.2.2.2.1 k 5).toInt ≤ (z.1 6).toInt ∧ (z_te (z.1 (3 + c)) (z.2.2.2.1 k 2) (z.2.2.2.1 k 3) (z.2.2.2.1 k 4)).toInt ≤ (z.2.2.2.1 k 5).toInt - (z.2.2.1 g 1).toInt ∧ (z.2.2.2.1 k 5).toInt - (z.2.2.1 g 1).toInt ≤ (z_tl (z.1 (3 + c)) (z.2.2.2.1 k 2) (z.2.2.2.1 k 3) (z.2.2.2.1 k 4)).toInt
def y_J (z : j_Z) (P : Nat → Int) : Prop := ∀ g c, z_lt z 0 g → c < 2 → (z.2.2.1 g 2).toInt = 0 → P c ≤ (z.2.2.1 g 1).toInt → y_K z g c
section YE
variable {A B : j_Z}
theorem y_G.eq (v : y_G A) (e : z_eq B A) : y_G B := fun k i hk hi => by
  rw [e.2.1 k i 0 hk hi (by decide), e.2.1 k i 1 hk hi (by decide), e.2.1 k i 2 hk hi (by decide), e.2.1 k i 3 hk hi (by decide)]
  exact v k i (e.lt (by decide) hk) hi
theorem y_Y.eq (v : y_Y A) (e : z_eq B A) : y_Y B := fun k hk => by
  rw [e.2.2.1 k 1 hk (by decide), e.1 6 (by decide)]
  exact v k (e.lt (by decide) hk)
theorem y_ok.eq (v : y_ok A) (e : z_eq B A) : y_ok B := ⟨⟨v.1.1.eq e, v.1.2.eq e⟩, v.2.1.eq e, v.2.2.eq e⟩
theorem y_J.eq {P : Nat → Int} (v : y_J A P) (e : z_eq B A) : y_J B P := fun g c hg hc ht hp => by
  have c34 : 3 + c < 7 := by omega
  rw [e.2.2.1 g 2 hg (by decide)] at ht
  rw [e.2.2.1 g 1 hg (by decide)] at hp
  obtain ⟨k1, k2, k3⟩ := v g c (e.lt (by decide) hg) hc ht hp
  unfold y_K
  rw [e.2.1 g c 2 hg hc (by decide), e.2.1 g c 0 hg hc (by decide), e.2.1 g c 3 hg hc (by decide), e.2.2.1 g 1 hg (by decide), e.1 6 (by decide), e.1 (3 + c) c34]
  refine ⟨k1, k2, fun k hk h0 h1 => ?_⟩
  rw [e.2.2.2.1 k 0 hk (by decide)] at h0
  rw [e.2.2.2.1 k 1 hk (by decide)] at h1
  rw [e.2.2.2.1 k 2 hk (by decide), e.2.2.2.1 k 3 hk (by decide), e.2.2.2.1 k 4 hk (by decide), e.2.2.2.1 k 5 hk (by decide)]
  exact k3 k (e.lt (by decide) hk) h0 h1
end YE
section YN
variable {A : j_Z} {a b c d : Int32} {P : Nat → Int}
/-- the last but new -/
theorem y_old {k : Nat} {x : Int32} (hk : (k : Int) < (x + Int32.ofInt 1).toInt) (h : x.toInt ≤ 100) (h0 : 0 ≤ x.toInt) (e : ¬ k = x.toNatClampNeg) : (k : Int) < x.toInt := by
  rw [j_inc1 (by omega)] at hk
  have := j_clamp h0
  omega
theorem y_pk {c : Nat} (V : z_V A) (hc : c < 2) : 2 ≤ (A.1 (3 + c)).toInt := by
  have hi2 : c = 0 ∨ c = 1 := by omega
  rcases hi2 with rfl | rfl
  · exact V.1.1.1
  · exact V.1.2.1
-- a grain
theorem y_gr1 {k : Nat} (e : ¬ k = (A.1 0).toNatClampNeg) : (∀ i t, (n_grainz A a b c).2.1 k i t = A.2.1 k i t) ∧ ∀ f, (n_grainz A a b c).2.2.1 k f = A.2.2.1 k f := ⟨fun _ _ => if_neg e, fun _ => if_neg e⟩
theorem y_gr2 : (∀ i t, (n_grainz A a b c).2.1 (A.1 0).toNatClampNeg i t = (if t = 0 ∨ t = 3 then (if i = 0 then a else b) else Int32.ofInt 0)) ∧ ∀ f, (n_grainz A a b c).2.2.1 (A.1 0).toNatClampNeg f = (if f = 0 then c else if f = 1 then A.1 6 else Int32.ofInt 0) := ⟨fun _ _ => if_pos rfl, fun _ => if_pos rfl⟩
theorem y_ok.grain (v : y_ok A) (h0 : 0 ≤ (A.1 0).toInt) (h : q_grain A.1 a b c = 0) : y_ok (n_grainz A a b c) := by
  obtain ⟨h1, h2⟩ := j_cqz (by decide) h
  have h3 := (j_cqz (by decide) h2).1
  have z0 : (Int32.ofInt 0).toInt = 0 := by decide
  refine ⟨⟨cV_grain v.1.1 h, cB_grain v.1.2 h⟩, fun k i hk hi => ?_, fun k hk => ?_⟩
  · have hk : (k : Int) < (A.1 0 + Int32.ofInt 1).toInt := hk
    by_cases e : k = (A.1 0).toNatClampNeg
    · subst e
      rw [y_gr2.1, y_gr2.1, y_gr2.1, y_gr2.1, if_neg (show ¬ ((2 : Nat) = 0 ∨ (2 : Nat) = 3) by decide), if_pos (show (0 : Nat) = 0 ∨ (0 : Nat) = 3 from Or.inl rfl), if_neg (show ¬ ((1 : Nat) = 0 ∨ (1 : Nat) = 3) by decide), if_pos (show (3 : Nat) = 0 ∨ (3 : Nat) = 3 from Or.inr rfl), z0]
      have := h1.1
      have := h1.2.1
      by_cases q : i = 0
      · rw [if_pos q]; omega
      · rw [if_neg q]; omega
    · rw [(y_gr1 e).1, (y_gr1 e).1, (y_gr1 e).1, (y_gr1 e).1]
      exact v.2.1 k i (y_old hk (by omega) h0 e) hi
  · have hk : (k : Int) < (A.1 0 + Int32.ofInt 1).toInt := hk
    show _ ∧ _ ≤ (A.1 6).toInt
    by_cases e : k = (A.1 0).toNatClampNeg
    · subst e
      rw [y_gr2.2, if_neg (show ¬ (1 : Nat) = 0 by decide), if_pos (show (1 : Nat) = 1 from rfl)]
      exact ⟨v.1.2.1.1.1, Int.le_refl _⟩
    · rw [(y_gr1 e).2]
      exact v.2.2 k (y_old hk (by omega) h0 e)
theorem y_J.grain (v : y_J A P) (L : y_L A) (h0 : 0 ≤ (A.1 0).toInt) (h : q_grain A.1 a b c = 0) : y_J (n_grainz A a b c) P := by
  obtain ⟨h1, h2⟩ := j_cqz (by decide) h
  have h3 := (j_cqz (by decide) h2).1
  have z0 : (Int32.ofInt 0).toInt = 0 := by decide
  intro g i hg hi ht hp
  have hg : (g : Int) < (A.1 0 + Int32.ofInt 1).toInt := hg
  have n6 : (n_grainz A a b c).1 6 = A.1 6 := rfl
  have np : (n_grainz A a b c).1 (3 + i) = A.1 (3 + i) := if_neg (by omega)
  unfold y_K
  by_cases e : g = (A.1 0).toNatClampNeg
  · subst e
    have cl := j_clamp h0
    rw [y_gr2.1, y_gr2.1, y_gr2.1, y_gr2.2, if_neg (show ¬ ((2 : Nat) = 0 ∨ (2 : Nat) = 3) by decide), if_pos (show (0 : Nat) = 0 ∨ (0 : Nat) = 3 from Or.inl rfl), if_pos (show (3 : Nat) = 0 ∨ (3 : Nat) = 3 from Or.inr rfl), if_neg (show ¬ (1 : Nat) = 0 by decide), if_pos (show (1 : Nat) = 1 from rfl), n6]
    refine ⟨z0, ?_, fun k hk hl hc => ?_⟩
    · rw [Int.sub_self]
      rfl
    · have hk : z_lt A 1 k := z_u1_lt (R' := A.2) (by decide) hk
      have hl : (A.2.2.2.1 k 0).toInt = _ := hl
      have := L k hk
      omega
  · rw [(y_gr1 e).2] at ht hp
    rw [(y_gr1 e).1, (y_gr1 e).1, (y_gr1 e).1, (y_gr1 e).2, n6, np]
    obtain ⟨k1, k2, k3⟩ := v g i (y_old hg (by omega) h0 e) hi ht hp
    exact ⟨k1, k2, fun k hk hl hc => k3 k (z_u1_lt (R' := A.2) (by decide) hk) hl hc⟩
-- years
theorem y_ok.pass (v : y_ok A) (h : q_pass A.1 a = 0) : y_ok (n_years A a) := by
  obtain ⟨h1, h2⟩ := j_cqz (by decide) h
  have V := v.1.1
  refine ⟨⟨z_V.years V, cB_pass v.1.2 h⟩, fun k i hk hi => ?_, fun k hk => ?_⟩
  · have hk : z_lt A 0 k := z_u1_lt (R' := A.2) (by decide) hk
    obtain ⟨m, d, md⟩ := V.2.2.1 k i hk hi
    obtain ⟨g0, g1, g2⟩ := v.2.1 k i hk hi
    obtain ⟨b0, b1⟩ := z_left_b (y_pk V hi) a.toNatClampNeg (A.2.1 k i 0) m
    have b0 : 0 ≤ (z_lf A a k i).toInt := b0
    have b1 : (z_lf A a k i).toInt ≤ (A.2.1 k i 0).toInt := b1
    show 0 ≤ (A.2.1 k i 2).toInt ∧ (z_lf A a k i).toInt + (A.2.1 k i 1 + (A.2.1 k i 0 - z_lf A a k i)).toInt + (A.2.1 k i 2).toInt = (A.2.1 k i 3).toInt ∧ (A.2.1 k i 3).toInt ≤ 9999
    have e1 : (A.2.1 k i 0 - z_lf A a k i).toInt = (A.2.1 k i 0).toInt - (z_lf A a k i).toInt := j_subI (by omega) (by omega)
    have e2 : (A.2.1 k i 1 + (A.2.1 k i 0 - z_lf A a k i)).toInt = (A.2.1 k i 1).toInt + (A.2.1 k i 0 - z_lf A a k i).toInt := j_addI (by omega) (by omega)
    rw [e2, e1]
    omega
  · have hk : z_lt A 0 k := z_u1_lt (R' := A.2) (by decide) hk
    have y := v.2.2 k hk
    have y6 := v.1.2.1.1
    have e : (A.1 6 + a).toInt = (A.1 6).toInt + a.toInt := j_addI (by omega) (by omega)
    show 0 ≤ (A.2.2.1 k 1).toInt ∧ (A.2.2.1 k 1).toInt ≤ (A.1 6 + a).toInt
    omega
theorem y_J.pass (v : y_J A P) (o : y_ok A) (h : q_pass A.1 a = 0) : y_J (n_years A a) P := by
  obtain ⟨h1, h2⟩ := j_cqz (by decide) h
  intro g i hg hi ht hp
  have hg : z_lt A 0 g := z_u1_lt (R' := A.2) (by decide) hg
  obtain ⟨k1, k2, k3⟩ := v g i hg hi ht hp
  have y := o.2.2 g hg
  have y6 := o.1.2.1.1
  have e : (A.1 6 + a).toInt = (A.1 6).toInt + a.toInt := j_addI (by omega) (by omega)
  obtain ⟨m, d, md⟩ := o.1.1.2.2.1 g i hg hi
  have hp2 := y_pk o.1.1 hi
  have ca := j_clamp (i := a) (by omega)
  have np : (n_years A a).1 (3 + i) = A.1 (3 + i) := if_neg (by omega)
  have n6 : (n_years A a).1 6 = A.1 6 + a := rfl
  unfold y_K
  rw [np, n6]
  refine ⟨k1, ?_, fun k hk hl hc => ?_⟩
  · show (t_left (A.1 (3 + i)) a.toNatClampNeg (A.2.1 g i 0)).toInt = y_g (A.1 (3 + i)).toInt ((A.1 6 + a).toInt - (A.2.2.1 g 1).toInt).toNat (A.2.1 g i 3).toInt
    rw [y_left hp2 _ _ m, k2, e, show ((A.1 6).toInt + a.toInt - (A.2.2.1 g 1).toInt).toNat = ((A.1 6).toInt - (A.2.2.1 g 1).toInt).toNat + a.toNatClampNeg by omega, y_ga (l := 0)]
  · obtain ⟨q1, q2, q3⟩ := k3 k (z_u1_lt (R' := A.2) (by decide) hk) hl hc
    refine ⟨q1, ?_, q3⟩
    have q2 : (A.2.2.2.1 k 5).toInt ≤ (A.1 6).toInt := q2
    show (A.2.2.2.1 k 5).toInt ≤ (A.1 6 + a).toInt
    omega
-- heat, washing
theorem y_ok.touch {t0 : Nat} (ht : t0 < 2) (v : y_ok A) (h : q_touch A a b = 0) : y_ok (n_touch t0 A a b) := by
  obtain ⟨h1, h2⟩ := j_cqz (by decide) h
  have h3 := (j_cqz (by decide) h2).1
  have V := v.1.1
  refine ⟨⟨cV_touch ht V h, cB_touch ht v.1.2⟩, fun k i hk hi => ?_, fun k hk => ?_⟩
  · have hk : z_lt A 0 k := hk
    obtain ⟨m, d, md⟩ := V.2.2.1 k i hk hi
    obtain ⟨g0, g1, g2⟩ := v.2.1 k i hk hi
    by_cases e : k = a.toNatClampNeg
    · have f : ∀ t, (n_touch t0 A a b).2.1 k i t = (if t = t0 then A.2.1 k i t0 - z_take (A.2.1 k i t0) b else if t = 2 then A.2.1 k i 2 + z_take (A.2.1 k i t0) b else A.2.1 k i t) := fun t => if_pos e
      rw [f, f, f, f]
      match t0, ht with
      | 0, _ =>
        obtain ⟨b0, b1⟩ := z_take_b (v := A.2.1 k i 0) (s := b) m (by omega) h3.1 h3.2
        have es : (A.2.1 k i 0 - z_take (A.2.1 k i 0) b).toInt = (A.2.1 k i 0).toInt - (z_take (A.2.1 k i 0) b).toInt := j_subI (by omega) (by omega)
        have ea : (A.2.1 k i 2 + z_take (A.2.1 k i 0) b).toInt = (A.2.1 k i 2).toInt + (z_take (A.2.1 k i 0) b).toInt := j_addI (by omega) (by omega)
        rw [if_neg (show ¬ (2 : Nat) = 0 by decide), if_pos (show (2 : Nat) = 2 from rfl), if_pos (show (0 : Nat) = 0 from rfl), if_neg (show ¬ (1 : Nat) = 0 by decide), if_neg (show ¬ (1 : Nat) = 2 by decide), if_neg (show ¬ (3 : Nat) = 0 by decide), if_neg (show ¬ (3 : Nat) = 2 by decide), es, ea]
        omega
      | 1, _ =>
        obtain ⟨b0, b1⟩ := z_take_b (v := A.2.1 k i 1) (s := b) d (by omega) h3.1 h3.2
        have es : (A.2.1 k i 1 - z_take (A.2.1 k i 1) b).toInt = (A.2.1 k i 1).toInt - (z_take (A.2.1 k i 1) b).toInt := j_subI (by omega) (by omega)
        have ea : (A.2.1 k i 2 + z_take (A.2.1 k i 1) b).toInt = (A.2.1 k i 2).toInt + (z_take (A.2.1 k i 1) b).toInt := j_addI (by omega) (by omega)
        rw [if_neg (show ¬ (2 : Nat) = 1 by decide), if_pos (show (2 : Nat) = 2 from rfl), if_neg (show ¬ (0 : Nat) = 1 by decide), if_neg (show ¬ (0 : Nat) = 2 by decide), if_pos (show (1 : Nat) = 1 from rfl), if_neg (show ¬ (3 : Nat) = 1 by decide), if_neg (show ¬ (3 : Nat) = 2 by decide), es, ea]
        omega
      | n + 2, ht => omega
    · have f : ∀ t, (n_touch t0 A a b).2.1 k i t = A.2.1 k i t := fun t => if_neg e
      rw [f, f, f, f]
      exact ⟨g0, g1, g2⟩
  · have hk : z_lt A 0 k := hk
    have f : (n_touch t0 A a b).2.2.1 k 1 = A.2.2.1 k 1 := by
      show (if k = a.toNatClampNeg then (if 1 = 2 then Int32.ofInt 1 else A.2.2.1 k 1) else A.2.2.1 k 1) = _
      by_cases e : k = a.toNatClampNeg
      · rw [if_pos e, if_neg (by decide)]
      · rw [if_neg e]
    rw [f]
    exact v.2.2 k hk
theorem y_J.touch {t0 : Nat} (v : y_J A P) : y_J (n_touch t0 A a b) P := by
  intro g i hg hi ht hp
  have hg : z_lt A 0 g := hg
  by_cases e : g = a.toNatClampNeg
  · have f : (n_touch t0 A a b).2.2.1 g 2 = Int32.ofInt 1 := (if_pos e).trans (if_pos rfl)
    rw [f] at ht
    exact absurd ht (by decide)
  · have f : ∀ t, (n_touch t0 A a b).2.1 g i t = A.2.1 g i t := fun t => if_neg e
    have f2 : ∀ t, (n_touch t0 A a b).2.2.1 g t = A.2.2.1 g t := fun t => if_neg e
    rw [f2] at ht hp
    unfold y_K
    rw [f, f, f, f2]
    exact v g i hg hi ht hp
-- a pace
theorem y_ok.pace (v : y_ok A) (h : q_pace a b = 0) : y_ok (n_pacez A a b) :=
  ⟨⟨z_V.pace v.1.1 (q_pace_z h), cB_pace v.1.2⟩, fun k i hk hi => v.2.1 k i (z_u1_lt (R' := A.2) (by rcases j_pf34' a with ⟨_, q⟩ | ⟨_, q⟩ <;> rw [q] <;> omega) hk) hi, fun k hk => by
    have hk : z_lt A 0 k := z_u1_lt (R' := A.2) (by rcases j_pf34' a with ⟨_, q⟩ | ⟨_, q⟩ <;> rw [q] <;> omega) hk
    have f : (n_pacez A a b).1 6 = A.1 6 := if_neg (by rcases j_pf34' a with ⟨_, q⟩ | ⟨_, q⟩ <;> rw [q] <;> omega)
    rw [f]
    exact v.2.2 k hk⟩
theorem y_J.pace (v : y_J A P) (o : y_ok A) {p : Nat} (hp2 : (a.toInt = 0 ∧ p = 0) ∨ (a.toInt = 1 ∧ p = 1)) {Q : Nat → Int} (hQ : ∀ i, i < 2 → i ≠ p → Q i = P i) (hQp : Q p = (A.1 6).toInt + 1) : y_J (n_pacez A a b) Q := by
  intro g i hg hi ht hp
  have hg : z_lt A 0 g := z_u1_lt (R' := A.2) (by rcases j_pf34' a with ⟨_, q⟩ | ⟨_, q⟩ <;> rw [q] <;> omega) hg
  have f6 : (n_pacez A a b).1 6 = A.1 6 := if_neg (by rcases j_pf34' a with ⟨_, q⟩ | ⟨_, q⟩ <;> rw [q] <;> omega)
  have y := o.2.2 g hg
  by_cases e : i = p
  · subst e
    rw [hQp] at hp
    have hp : (A.1 6).toInt + 1 ≤ (A.2.2.1 g 1).toInt := hp
    omega
  · rw [hQ i hi e] at hp
    have f : (n_pacez A a b).1 (3 + i) = A.1 (3 + i) := if_neg (by rcases j_pf34' a with ⟨q0, q⟩ | ⟨q0, q⟩ <;> rw [q] <;> omega)
    obtain ⟨k1, k2, k3⟩ := v g i hg hi ht hp
    unfold y_K
    rw [f, f6]
    exact ⟨k1, k2, fun k hk hl hc => k3 k (z_u1_lt (R' := A.2) (by rcases j_pf34' a with ⟨_, q⟩ | ⟨_, q⟩ <;> rw [q] <;> omega) hk) hl hc⟩
-- the slip
theorem y_ok.slip (v : y_ok A) (h : q_slip a = 0) : y_ok (n_slipz A a) :=
  ⟨⟨z_V.slip v.1.1 (q_slip_z h), cB_slip v.1.2⟩, fun k i hk hi => v.2.1 k i (z_u1_lt (R' := A.2) (by decide) hk) hi, fun k hk => v.2.2 k (z_u1_lt (R' := A.2) (by decide) hk)⟩
theorem y_J.slip (v : y_J A P) : y_J (n_slipz A a) P := by
  intro g i hg hi ht hp
  have f : (n_slipz A a).1 (3 + i) = A.1 (3 + i) := if_neg (by omega)
  obtain ⟨k1, k2, k3⟩ := v g i (z_u1_lt (R' := A.2) (by decide) hg) hi ht hp
  unfold y_K
  rw [f]
  exact ⟨k1, k2, fun k hk hl hc => k3 k (z_u1_lt (R' := A.2) (by decide) hk) hl hc⟩
-- a run
theorem y_ok.run (v : y_ok A) (h : q_run A.1 a b c d = 0) : y_ok (n_runF A a b c d) :=
  ⟨⟨cV_run v.1.1 h, cB_run v.1.2 h⟩, fun k i hk hi => v.2.1 k i (z_u1_lt (R' := A.2) (by decide) hk) hi, fun k hk => v.2.2 k (z_u1_lt (R' := A.2) (by decide) hk)⟩
theorem y_p0 {x : Int32} : (z_p0 x).toInt = if 0 < x.toInt then x.toInt else 0 := y_mx
theorem y_J.run (v : y_J A P) (o : y_ok A) (h0 : 0 ≤ (A.1 1).toInt) (h : q_run A.1 a b c d = 0) : y_J (n_runF A a b c d) P := by
  obtain ⟨h1, h2⟩ := j_cqz (by decide) h
  obtain ⟨h3, h4⟩ := j_cqz (by decide) h2
  have h5 := (j_cqz (by decide) h4).1
  unfold j_oke at h3
  unfold j_okr at h1
  have s5 := o.1.1.2.1
  have en : (-(A.1 5)).toInt = -(A.1 5).toInt := by
    rw [Int32.toInt_neg, Int.bmod_def]
    omega
  intro g i hg hi ht hp
  have hg : z_lt A 0 g := z_u1_lt (R' := A.2) (by decide) hg
  obtain ⟨k1, k2, k3⟩ := v g i hg hi ht hp
  have f6 : (n_runF A a b c d).1 6 = A.1 6 := rfl
  have fp : (n_runF A a b c d).1 (3 + i) = A.1 (3 + i) := if_neg (by omega)
  unfold y_K
  rw [f6, fp]
  refine ⟨k1, k2, fun k hk hl hc => ?_⟩
  have hk : (k : Int) < (A.1 1 + Int32.ofInt 1).toInt := hk
  by_cases e : k = (A.1 1).toNatClampNeg
  · have f : ∀ j, (n_runF A a b c d).2.2.2.1 k j = (match j with
      | 0 => a
      | 1 => b
      | 2 => z_p0 (A.2.1 a.toNatClampNeg (z_ck b) 0 + c)
      | 3 => z_p0 (A.2.1 a.toNatClampNeg (z_ck b) 1 + d)
      | 4 => A.1 5
      | 5 => A.1 6
      | _ => Int32.ofInt 1) := fun j => if_pos e
    rw [f 0] at hl
    rw [f 1] at hc
    have hl : a.toInt = (g : Int) := hl
    have hc : b.toInt = (i : Int) := hc
    rw [f 2, f 3, f 4, f 5]
    have ca := j_clamp (i := a) (by omega)
    have ea : a.toNatClampNeg = g := by omega
    have eb : z_ck b = i := by
      unfold z_ck
      by_cases q : b.toInt = 0
      · rw [if_pos q]; omega
      · rw [if_neg q]; omega
    have y := o.2.2 g hg
    have y6 := o.1.2.1.1
    obtain ⟨m, dd, md⟩ := o.1.1.2.2.1 g i hg hi
    obtain ⟨g0, g1, g2⟩ := o.2.1 g i hg hi
    have e1 := h3.1
    have e2 := h3.2
    have q1 : (A.2.1 g i 0 + c).toInt = (A.2.1 g i 0).toInt + c.toInt := j_addI (by omega) (by omega)
    have q2 : (A.2.1 g i 1 + d).toInt = (A.2.1 g i 1).toInt + d.toInt := j_addI (by omega) (by omega)
    have cA : (((A.1 6).toInt - (A.2.2.1 g 1).toInt).toNat : Int) = (A.1 6).toInt - (A.2.2.1 g 1).toInt := Int.toNat_of_nonneg (by omega)
    have sp := y_span (p := A.1 (3 + i)) (m := z_p0 (A.2.1 g i 0 + c)) (d := z_p0 (A.2.1 g i 1 + d)) (s := A.1 5) (M := (A.2.1 g i 0).toInt) (D := (A.2.1 g i 1).toInt) (e1 := c.toInt) (e2 := d.toInt) (A := ((A.1 6).toInt - (A.2.2.1 g 1).toInt).toNat) (y_pk o.1.1 hi) (by omega) m dd md s5.1 s5.2 (by have e := k2; rw [show (A.2.1 g i 3).toInt = (A.2.1 g i 0).toInt + (A.2.1 g i 1).toInt by omega] at e; exact e.symm) (by rw [y_p0, q1]) (by rw [y_p0, q2]) (by omega) (by omega)
    rw [cA] at sp
    rw [ea, eb]
    exact ⟨y.2, Int.le_refl _, sp.1, sp.2⟩
  · have f : ∀ j, (n_runF A a b c d).2.2.2.1 k j = A.2.2.2.1 k j := fun j => if_neg e
    rw [f] at hl hc
    rw [f, f, f, f]
    exact k3 k (y_old hk (by omega) h0 e) hl hc
-- withdrawing, swapping, printing
theorem y_wd (k j : Nat) (hj : j ≠ 6) : (n_withdraw A a).2.2.2.1 k j = A.2.2.2.1 k j := by
  show (if k = a.toNatClampNeg then (if j = 6 then Int32.ofInt 0 else A.2.2.2.1 k j) else A.2.2.2.1 k j) = _
  rw [if_neg hj]
  by_cases e : k = a.toNatClampNeg
  · rw [if_pos e]
  · rw [if_neg e]
theorem y_ok.withdraw (v : y_ok A) : y_ok (n_withdraw A a) := ⟨⟨z_V.withdraw v.1.1, cB_withdraw v.1.2⟩, v.2⟩
theorem y_J.withdraw (v : y_J A P) : y_J (n_withdraw A a) P := by
  intro g i hg hi ht hp
  obtain ⟨k1, k2, k3⟩ := v g i hg hi ht hp
  refine ⟨k1, k2, fun k hk hl hc => ?_⟩
  rw [y_wd _ _ (by decide)] at hl hc
  rw [y_wd _ _ (by decide), y_wd _ _ (by decide), y_wd _ _ (by decide), y_wd _ _ (by decide)]
  exact k3 k hk hl hc
theorem y_ok.swap (v : y_ok A) : y_ok (n_swap A a b) := ⟨⟨z_V.swap v.1.1, cB_swap v.1.2⟩, v.2⟩
theorem y_ok.print (v : y_ok A) : y_ok (n_print A a b) :=
  ⟨⟨z_V.print v.1.1, cB_print v.1.2⟩, fun k i hk hi => v.2.1 k i (z_u1_lt (R' := A.2) (by decide) hk) hi, fun k hk => v.2.2 k (z_u1_lt (R' := A.2) (by decide) hk)⟩
theorem y_J.print (v : y_J A P) : y_J (n_print A a b) P := by
  intro g i hg hi ht hp
  have f : (n_print A a b).1 (3 + i) = A.1 (3 + i) := if_neg (by omega)
  obtain ⟨k1, k2, k3⟩ := v g i (z_u1_lt (R' := A.2) (by decide) hg) hi ht hp
  unfold y_K
  rw [f]
  exact ⟨k1, k2, fun k hk hl hc => k3 k (z_u1_lt (R' := A.2) (by decide) hk) hl hc⟩
end YN
