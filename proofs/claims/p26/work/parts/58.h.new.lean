/-! a grain, a run, a print more -/
def n_grainz (z : j_Z) (a b c : Int32) : j_Z := (j_u1 z.1 0 (z.1 0 + Int32.ofInt 1), fun k i t => if k = (z.1 0).toNatClampNeg then (if t = 0 ∨ t = 3 then (if i = 0 then a else b) else Int32.ofInt 0) else z.2.1 k i t, fun k f => if k = (z.1 0).toNatClampNeg then (if f = 0 then c else if f = 1 then z.1 6 else Int32.ofInt 0) else z.2.2.1 k f, z.2.2.2.1, z.2.2.2.2)
/-- label, clock, mothers, daughters, slip, year -/
def n_runz (z : j_Z) (g c m d : Int32) : j_Z := (j_u1 z.1 1 (z.1 1 + Int32.ofInt 1), z.2.1, z.2.2.1, fun k f => if k = (z.1 1).toNatClampNeg then (match f with
  | 0 => g
  | 1 => c
  | 2 => m
  | 3 => d
  | 4 => z.1 5
  | 5 => z.1 6
  | _ => Int32.ofInt 1) else z.2.2.2.1 k f, z.2.2.2.2)
def n_printz (z : j_Z) (r p o : Int32) : j_Z := (j_u1 z.1 2 (z.1 2 + Int32.ofInt 1), z.2.1, z.2.2.1, z.2.2.2.1, fun k f => if k = (z.1 2).toNatClampNeg then (match f with
  | 0 => r
  | 1 => p
  | _ => o) else z.2.2.2.2 k f)
section ZN
variable {h h' : j_H} {x L arr n e : Nat}
/-- numbers when the i-th list has grown -/
theorem z_adn {i : Nat} (w : j_WF h x) (hi : i < 3) (eL : j_rf h x i = some L) (e1 : j_rf h L 1 = some arr) (a : j_Ad h h' L arr n e) : ∀ k, k < 7 → z_cn h' x k = j_u1 (z_cn h x) i (z_cn h x i + Int32.ofInt 1) k := by
  obtain ⟨L9, arr9, t, e9, kL, f1, f2, -⟩ := z_L w hi
  obtain rfl : L = L9 := Option.some.inj (eL.symm.trans e9)
  obtain rfl : arr = arr9 := Option.some.inj (e1.symm.trans f1)
  have ox := (a.of (q := x) (j_nn w.1) (fun z => by have := w.1; rw [z, kL] at this; cases this) (fun z => by have := w.1; rw [z, f2] at this; cases this)).2.2
  have sz : ∀ j, j < 3 → j_sz h' x j = if j = i then j_sz h x i + Int32.ofInt 1 else j_sz h x j := fun j hj => by
    by_cases hji : j = i
    · subst hji
      rw [if_pos rfl, j_sz_e eL, j_sz_e (((ox j).2).trans eL)]
      obtain ⟨b, a1, a2, a3, a4, a5, -⟩ := a
      exact a5
    · obtain ⟨M, ar, t', m1, kM, -⟩ := z_L w hj
      rw [if_neg hji, j_sz_e m1, j_sz_e (((ox j).2).trans m1)]
      exact ((a.of (q := M) (j_nn kM) (w.ll hj hi hji m1 eL) (fun z => by rw [z, f2] at kM; cases kM)).2.2 2).1
  have zi : z_cn h x i = j_sz h x i := by
    match i, hi with
    | 0, _ => rfl
    | 1, _ => rfl
    | 2, _ => rfl
    | n + 3, hi => omega
  intro k hk
  unfold j_u1
  rw [zi]
  match k, hk with
  | 0, _ => exact sz 0 (by decide)
  | 1, _ => exact sz 1 (by decide)
  | 2, _ => exact sz 2 (by decide)
  | m + 3, _ => rw [if_neg (by omega)]; exact (ox (m + 3)).1
theorem z_newG {y1 y2 : Nat} {A B C : Int32} (w : j_WF h x) (I : z_I h x) (eL : j_rf h x 0 = some L) (e1 : j_rf h L 1 = some arr) (a : j_Ad h h' L arr n e) (hn : (n : Int) = (j_it h L 2).toInt) (hb : (j_it h L 2).toInt < 8) (ke : j_kd h e = some (.inl 4)) (k1 : j_kd h y1 = some (.inl 5)) (k2 : j_kd h y2 = some (.inl 5)) (n12 : y1 ≠ y2) (ny : ∀ k i, z_in h x 0 k → i < 2 → z_mo h (z_el h x 0 k) i ≠ y1 ∧ z_mo h (z_el h x 0 k) i ≠ y2)
    (v0 : j_it h e 0 = j_it h L 2) (r1 : j_rf h e 1 = some y1) (r2 : j_rf h e 2 = some y2) (v3 : j_it h e 3 = C) (v4 : j_it h e 4 = j_it h x 6) (v5 : j_it h e 5 = Int32.ofInt 0) (m1 : j_it h y1 0 = A ∧ j_it h y1 1 = A ∧ j_it h y1 2 = Int32.ofInt 0 ∧ j_it h y1 3 = Int32.ofInt 0) (m2 : j_it h y2 0 = B ∧ j_it h y2 1 = B ∧ j_it h y2 2 = Int32.ofInt 0 ∧ j_it h y2 3 = Int32.ofInt 0) : z_I h' x ∧ z_eq (z_c h' x) (n_grainz (z_c h x) A B C) := by
  obtain ⟨el, en, iff, ob, nin⟩ := z_ad w (by decide) eL e1 a hn (by omega)
  have hnn : n = (z_cn h x 0).toNatClampNeg := by
    have e0 : z_cn h x 0 = j_it h L 2 := j_sz_e eL
    rw [e0]
    have := j_clamp (i := j_it h L 2) (by omega)
    omega
  have q : ∀ j k, j < 3 → z_in h' x j k → z_in h x j k ∨ (j = 0 ∧ k = n) := fun j k hj hk => (iff j k hj).mp hk
  have q1 : ∀ k, z_in h' x 1 k → z_in h x 1 k := fun k hk => (q 1 k (by decide) hk).elim id (fun z => absurd z.1 (by decide))
  have q2 : ∀ k, z_in h' x 2 k → z_in h x 2 k := fun k hk => (q 2 k (by decide) hk).elim id (fun z => absurd z.1 (by decide))
  have up : ∀ j k, j < 3 → z_in h x j k → z_in h' x j k := fun j k hj hk => (iff j k hj).mpr (Or.inl hk)
  have o0 : ∀ k, z_in h x 0 k → ∀ f, j_it h' (z_el h x 0 k) f = j_it h (z_el h x 0 k) f ∧ j_rf h' (z_el h x 0 k) f = j_rf h (z_el h x 0 k) f := fun k hk => ob _ 4 (z_k0 w hk) (by decide)
  have o1 : ∀ k, z_in h x 1 k → ∀ f, j_it h' (z_el h x 1 k) f = j_it h (z_el h x 1 k) f ∧ j_rf h' (z_el h x 1 k) f = j_rf h (z_el h x 1 k) f := fun k hk => ob _ 7 (z_k1 w hk) (by decide)
  have o2 : ∀ k, z_in h x 2 k → ∀ f, j_it h' (z_el h x 2 k) f = j_it h (z_el h x 2 k) f ∧ j_rf h' (z_el h x 2 k) f = j_rf h (z_el h x 2 k) f := fun k hk => ob _ 6 (z_k2 w hk) (by decide)
  have oe := ob e 4 ke (by decide)
  have p1 := ob y1 5 k1 (by decide)
  have p2 := ob y2 5 k2 (by decide)
  have mo : ∀ k i, z_in h x 0 k → z_mo h' (z_el h x 0 k) i = z_mo h (z_el h x 0 k) i := fun k i hk => by
    unfold z_mo
    rw [(o0 k hk (1 + i)).2]
  have om : ∀ k i, z_in h x 0 k → i < 2 → ∀ f, j_it h' (z_mo h (z_el h x 0 k) i) f = j_it h (z_mo h (z_el h x 0 k) i) f := fun k i hk hi f => (ob _ 5 (z_km w hk hi).2 (by decide) f).1
  have mn0 : z_mo h' e 0 = y1 := z_mo_of (((oe 1).2).trans r1)
  have mn1 : z_mo h' e 1 = y2 := z_mo_of (((oe 2).2).trans r2)
  have nk : ∀ k, z_in h x 0 k → k ≠ n := fun k hk z => by rw [z, nin] at hk; exact hk
  refine ⟨⟨⟨fun k hk => ?_, ?_, fun k hk => ?_, fun k hk => ?_⟩, fun k hk => ?_⟩, z_adn w (by decide) eL e1 a, fun k i t hk hi ht => ?_, fun k f hk hf => ?_, fun k f hk hf => ?_, fun k f hk hf => ?_⟩
  · rcases q 0 k (by decide) hk with hk | ⟨-, hk⟩
    · rw [el 0 k (by decide) hk, (o0 k hk 0).1]
      exact I.1.1 k hk
    · subst hk
      rw [en, (oe 0).1, v0]
      exact hn.symm
  · obtain ⟨μ, hμ⟩ := I.1.2.1
    refine ⟨fun b => if b = y1 then 2 * n + 0 else if b = y2 then 2 * n + 1 else μ b, fun k i hk hi => ?_⟩
    rcases q 0 k (by decide) hk with hk | ⟨-, hk⟩
    · have := ny k i hk hi
      rw [el 0 k (by decide) hk, mo k i hk]
      exact (if_neg this.1).trans ((if_neg this.2).trans (hμ k i hk hi))
    · subst hk
      rw [en]
      have hi2 : i = 0 ∨ i = 1 := by omega
      rcases hi2 with rfl | rfl
      · rw [mn0]
        exact if_pos rfl
      · rw [mn1]
        exact (if_neg (fun z => n12 z.symm)).trans (if_pos rfl)
  · have hk := q1 k hk
    obtain ⟨b, g, g1, g2⟩ := I.1.2.2.1 k hk
    rw [el 1 k (by decide) hk, (o1 k hk 0).1, (o1 k hk 6).2]
    exact ⟨b, g, up 0 g (by decide) g1, by rw [el 0 g (by decide) g1]; exact g2⟩
  · have hk := q2 k hk
    obtain ⟨b, ⟨r, r1', r2'⟩, c⟩ := I.1.2.2.2 k hk
    rw [el 2 k (by decide) hk, (o2 k hk 0).1, (o2 k hk 1).2, (o2 k hk 3).2]
    refine ⟨b, ⟨r, up 1 r (by decide) r1', by rw [el 1 r (by decide) r1']; exact r2'⟩, ?_⟩
    rcases c with c | ⟨p, c1, c2⟩
    · exact Or.inl c
    · exact Or.inr ⟨p, c1, by rw [el 2 p (by decide) (by unfold z_in at hk ⊢; omega)]; exact c2⟩
  · have hk := q1 k hk
    have c := I.2 k hk
    have ox := ob x 8 w.1 (by decide)
    rw [el 1 k (by decide) hk]
    unfold z_ca at c ⊢
    rw [(o1 k hk 8).1, (o1 k hk 9).1, (o1 k hk 1).1, (o1 k hk 2).1, (o1 k hk 3).1, (o1 k hk 4).1, (ox _).1]
    exact c
  · show z_cm h' x k i t = if k = (z_cn h x 0).toNatClampNeg then (if t = 0 ∨ t = 3 then (if i = 0 then A else B) else Int32.ofInt 0) else z_cm h x k i t
    unfold z_cm
    rw [← hnn]
    rcases q 0 k (by decide) hk with hk | ⟨-, hk⟩
    · rw [if_neg (nk k hk), el 0 k (by decide) hk, mo k i hk]
      exact om k i hk hi _
    · subst hk
      rw [if_pos rfl, en]
      have hi2 : i = 0 ∨ i = 1 := by omega
      rcases hi2 with rfl | rfl
      · rw [mn0, (p1 _).1]
        match t, ht with
        | 0, _ => exact m1.2.1
        | 1, _ => exact m1.2.2.1
        | 2, _ => exact m1.2.2.2
        | 3, _ => exact m1.1
        | j + 4, ht => omega
      · rw [mn1, (p2 _).1]
        match t, ht with
        | 0, _ => exact m2.2.1
        | 1, _ => exact m2.2.2.1
        | 2, _ => exact m2.2.2.2
        | 3, _ => exact m2.1
        | j + 4, ht => omega
  · show z_cg h' x k f = if k = (z_cn h x 0).toNatClampNeg then (if f = 0 then C else if f = 1 then z_cn h x 6 else Int32.ofInt 0) else z_cg h x k f
    unfold z_cg
    rw [← hnn]
    rcases q 0 k (by decide) hk with hk | ⟨-, hk⟩
    · rw [if_neg (nk k hk), el 0 k (by decide) hk]
      exact (o0 k hk _).1
    · subst hk
      rw [if_pos rfl, en, (oe _).1]
      match f, hf with
      | 0, _ => exact v3
      | 1, _ => exact v4
      | 2, _ => exact v5
      | j + 3, hf => omega
  · have hk := q1 k hk
    have ee := el 1 k (by decide) hk
    match f, hf with
    | 0, _ =>
      obtain ⟨b, g, g1, g2⟩ := I.1.2.2.1 k hk
      show j_it h' ((j_rf h' (z_el h' x 1 k) 6).getD 0) 0 = j_it h ((j_rf h (z_el h x 1 k) 6).getD 0) 0
      rw [ee, (o1 k hk 6).2, g2, Option.getD_some]
      exact (o0 g g1 0).1
    | 1, _ => show j_it h' (z_el h' x 1 k) 1 = _; rw [ee]; exact (o1 k hk 1).1
    | 2, _ => show j_it h' (z_el h' x 1 k) 2 = _; rw [ee]; exact (o1 k hk 2).1
    | 3, _ => show j_it h' (z_el h' x 1 k) 3 = _; rw [ee]; exact (o1 k hk 3).1
    | 4, _ => show j_it h' (z_el h' x 1 k) 4 = _; rw [ee]; exact (o1 k hk 4).1
    | 5, _ => show j_it h' (z_el h' x 1 k) 5 = _; rw [ee]; exact (o1 k hk 5).1
    | 6, _ => show j_it h' (z_el h' x 1 k) 7 = _; rw [ee]; exact (o1 k hk 7).1
    | j + 7, hf => omega
  · have hk := q2 k hk
    have ee := el 2 k (by decide) hk
    obtain ⟨b, ⟨r, r1', r2'⟩, c⟩ := I.1.2.2.2 k hk
    match f, hf with
    | 0, _ =>
      show j_it h' ((j_rf h' (z_el h' x 2 k) 1).getD 0) 0 = j_it h ((j_rf h (z_el h x 2 k) 1).getD 0) 0
      rw [ee, (o2 k hk 1).2, r2', Option.getD_some]
      exact (o1 r r1' 0).1
    | 1, _ => show j_it h' (z_el h' x 2 k) 2 = _; rw [ee]; exact (o2 k hk 2).1
    | 2, _ =>
      show (match j_rf h' (z_el h' x 2 k) 3 with | none => Int32.ofInt (-1) | some b => j_it h' b 0) = (match j_rf h (z_el h x 2 k) 3 with | none => Int32.ofInt (-1) | some b => j_it h b 0)
      rw [ee, (o2 k hk 3).2]
      rcases c with c | ⟨p, c1, c2⟩
      · rw [c]
      · rw [c2]
        exact (o2 p (by unfold z_in at hk ⊢; omega) 0).1
    | j + 3, hf => omega
theorem z_newR {g : Nat} {C M D : Int32} (w : j_WF h x) (I : z_I h x) (eL : j_rf h x 1 = some L) (e1 : j_rf h L 1 = some arr) (a : j_Ad h h' L arr n e) (hn : (n : Int) = (j_it h L 2).toInt) (hb : (j_it h L 2).toInt < 20) (ke : j_kd h e = some (.inl 7)) (v0 : j_it h e 0 = j_it h L 2) (hg : z_in h x 0 g) (r6 : j_rf h e 6 = some (z_el h x 0 g)) (v1 : j_it h e 1 = C) (v2 : j_it h e 2 = M) (v3 : j_it h e 3 = D) (v4 : j_it h e 4 = j_it h x 5) (v5 : j_it h e 5 = j_it h x 6) (v7 : j_it h e 7 = Int32.ofInt 1) (ca : z_ca h x e) : z_I h' x ∧ z_eq (z_c h' x) (n_runz (z_c h x) (j_it h (z_el h x 0 g) 0) C M D) := by
  obtain ⟨el, en, iff, ob, nin⟩ := z_ad w (by decide) eL e1 a hn (by omega)
  have hnn : n = (z_cn h x 1).toNatClampNeg := by
    have e0 : z_cn h x 1 = j_it h L 2 := j_sz_e eL
    rw [e0]
    have := j_clamp (i := j_it h L 2) (by omega)
    omega
  have q : ∀ j k, j < 3 → z_in h' x j k → z_in h x j k ∨ (j = 1 ∧ k = n) := fun j k hj hk => (iff j k hj).mp hk
  have q0 : ∀ k, z_in h' x 0 k → z_in h x 0 k := fun k hk => (q 0 k (by decide) hk).elim id (fun z => absurd z.1 (by decide))
  have q2 : ∀ k, z_in h' x 2 k → z_in h x 2 k := fun k hk => (q 2 k (by decide) hk).elim id (fun z => absurd z.1 (by decide))
  have up : ∀ j k, j < 3 → z_in h x j k → z_in h' x j k := fun j k hj hk => (iff j k hj).mpr (Or.inl hk)
  have o0 : ∀ k, z_in h x 0 k → ∀ f, j_it h' (z_el h x 0 k) f = j_it h (z_el h x 0 k) f ∧ j_rf h' (z_el h x 0 k) f = j_rf h (z_el h x 0 k) f := fun k hk => ob _ 4 (z_k0 w hk) (by decide)
  have o1 : ∀ k, z_in h x 1 k → ∀ f, j_it h' (z_el h x 1 k) f = j_it h (z_el h x 1 k) f ∧ j_rf h' (z_el h x 1 k) f = j_rf h (z_el h x 1 k) f := fun k hk => ob _ 7 (z_k1 w hk) (by decide)
  have o2 : ∀ k, z_in h x 2 k → ∀ f, j_it h' (z_el h x 2 k) f = j_it h (z_el h x 2 k) f ∧ j_rf h' (z_el h x 2 k) f = j_rf h (z_el h x 2 k) f := fun k hk => ob _ 6 (z_k2 w hk) (by decide)
  have oe := ob e 7 ke (by decide)
  have ox := ob x 8 w.1 (by decide)
  have mo : ∀ k i, z_in h x 0 k → z_mo h' (z_el h x 0 k) i = z_mo h (z_el h x 0 k) i := fun k i hk => by
    unfold z_mo
    rw [(o0 k hk (1 + i)).2]
  have om : ∀ k i, z_in h x 0 k → i < 2 → ∀ f, j_it h' (z_mo h (z_el h x 0 k) i) f = j_it h (z_mo h (z_el h x 0 k) i) f := fun k i hk hi f => (ob _ 5 (z_km w hk hi).2 (by decide) f).1
  have nk : ∀ k, z_in h x 1 k → k ≠ n := fun k hk z => by rw [z, nin] at hk; exact hk
  refine ⟨⟨⟨fun k hk => ?_, ?_, fun k hk => ?_, fun k hk => ?_⟩, fun k hk => ?_⟩, z_adn w (by decide) eL e1 a, fun k i t hk hi ht => ?_, fun k f hk hf => ?_, fun k f hk hf => ?_, fun k f hk hf => ?_⟩
  · have hk := q0 k hk
    rw [el 0 k (by decide) hk, (o0 k hk 0).1]
    exact I.1.1 k hk
  · obtain ⟨μ, hμ⟩ := I.1.2.1
    refine ⟨μ, fun k i hk hi => ?_⟩
    have hk := q0 k hk
    rw [el 0 k (by decide) hk, mo k i hk]
    exact hμ k i hk hi
  · rcases q 1 k (by decide) hk with hk | ⟨-, hk⟩
    · obtain ⟨b, g, g1, g2⟩ := I.1.2.2.1 k hk
      rw [el 1 k (by decide) hk, (o1 k hk 0).1, (o1 k hk 6).2]
      exact ⟨b, g, up 0 g (by decide) g1, by rw [el 0 g (by decide) g1]; exact g2⟩
    · subst hk
      rw [en, (oe 0).1, (oe 6).2, v0]
      exact ⟨hn.symm, g, up 0 g (by decide) hg, by rw [el 0 g (by decide) hg]; exact r6⟩
  · have hk := q2 k hk
    obtain ⟨b, ⟨r, r1', r2'⟩, c⟩ := I.1.2.2.2 k hk
    rw [el 2 k (by decide) hk, (o2 k hk 0).1, (o2 k hk 1).2, (o2 k hk 3).2]
    refine ⟨b, ⟨r, up 1 r (by decide) r1', by rw [el 1 r (by decide) r1']; exact r2'⟩, ?_⟩
    rcases c with c | ⟨p, c1, c2⟩
    · exact Or.inl c
    · exact Or.inr ⟨p, c1, by rw [el 2 p (by decide) (by unfold z_in at hk ⊢; omega)]; exact c2⟩
  · rcases q 1 k (by decide) hk with hk | ⟨-, hk⟩
    · have c := I.2 k hk
      rw [el 1 k (by decide) hk]
      unfold z_ca at c ⊢
      rw [(o1 k hk 8).1, (o1 k hk 9).1, (o1 k hk 1).1, (o1 k hk 2).1, (o1 k hk 3).1, (o1 k hk 4).1, (ox _).1]
      exact c
    · subst hk
      rw [en]
      unfold z_ca at ca ⊢
      rw [(oe 8).1, (oe 9).1, (oe 1).1, (oe 2).1, (oe 3).1, (oe 4).1, (ox _).1]
      exact ca
  · have hk := q0 k hk
    show z_cm h' x k i t = z_cm h x k i t
    unfold z_cm
    rw [el 0 k (by decide) hk, mo k i hk]
    exact om k i hk hi _
  · have hk := q0 k hk
    show z_cg h' x k f = z_cg h x k f
    unfold z_cg
    rw [el 0 k (by decide) hk]
    exact (o0 k hk _).1
  · have ne9 : k ≠ n → (n_runz (z_c h x) (j_it h (z_el h x 0 g) 0) C M D).2.2.2.1 k f = z_cr h x k f := fun z => if_neg (by show ¬ k = (z_cn h x 1).toNatClampNeg; rw [← hnn]; exact z)
    rcases q 1 k (by decide) hk with hk | ⟨-, hk⟩
    · refine Eq.trans ?_ (ne9 (nk k hk)).symm
      have ee := el 1 k (by decide) hk
      match f, hf with
      | 0, _ =>
        obtain ⟨b, g, g1, g2⟩ := I.1.2.2.1 k hk
        show j_it h' ((j_rf h' (z_el h' x 1 k) 6).getD 0) 0 = j_it h ((j_rf h (z_el h x 1 k) 6).getD 0) 0
        rw [ee, (o1 k hk 6).2, g2, Option.getD_some]
        exact (o0 g g1 0).1
      | 1, _ => show j_it h' (z_el h' x 1 k) 1 = j_it h (z_el h x 1 k) 1; rw [ee]; exact (o1 k hk 1).1
      | 2, _ => show j_it h' (z_el h' x 1 k) 2 = j_it h (z_el h x 1 k) 2; rw [ee]; exact (o1 k hk 2).1
      | 3, _ => show j_it h' (z_el h' x 1 k) 3 = j_it h (z_el h x 1 k) 3; rw [ee]; exact (o1 k hk 3).1
      | 4, _ => show j_it h' (z_el h' x 1 k) 4 = j_it h (z_el h x 1 k) 4; rw [ee]; exact (o1 k hk 4).1
      | 5, _ => show j_it h' (z_el h' x 1 k) 5 = j_it h (z_el h x 1 k) 5; rw [ee]; exact (o1 k hk 5).1
      | 6, _ => show j_it h' (z_el h' x 1 k) 7 = j_it h (z_el h x 1 k) 7; rw [ee]; exact (o1 k hk 7).1
      | j + 7, hf => omega
    · subst hk
      match f, hf with
      | 0, _ =>
        refine Eq.trans ?_ (if_pos hnn).symm
        show j_it h' ((j_rf h' (z_el h' x 1 k) 6).getD 0) 0 = j_it h (z_el h x 0 g) 0
        rw [en, (oe 6).2, r6, Option.getD_some]
        exact (o0 g hg 0).1
      | 1, _ => refine Eq.trans ?_ (if_pos hnn).symm; show j_it h' (z_el h' x 1 k) 1 = C; rw [en, (oe 1).1]; exact v1
      | 2, _ => refine Eq.trans ?_ (if_pos hnn).symm; show j_it h' (z_el h' x 1 k) 2 = M; rw [en, (oe 2).1]; exact v2
      | 3, _ => refine Eq.trans ?_ (if_pos hnn).symm; show j_it h' (z_el h' x 1 k) 3 = D; rw [en, (oe 3).1]; exact v3
      | 4, _ => refine Eq.trans ?_ (if_pos hnn).symm; show j_it h' (z_el h' x 1 k) 4 = j_it h x 5; rw [en, (oe 4).1]; exact v4
      | 5, _ => refine Eq.trans ?_ (if_pos hnn).symm; show j_it h' (z_el h' x 1 k) 5 = j_it h x 6; rw [en, (oe 5).1]; exact v5
      | 6, _ => refine Eq.trans ?_ (if_pos hnn).symm; show j_it h' (z_el h' x 1 k) 7 = Int32.ofInt 1; rw [en, (oe 7).1]; exact v7
      | j + 7, hf => omega
  · have hk := q2 k hk
    have ee := el 2 k (by decide) hk
    obtain ⟨b, ⟨r, r1', r2'⟩, c⟩ := I.1.2.2.2 k hk
    match f, hf with
    | 0, _ =>
      show j_it h' ((j_rf h' (z_el h' x 2 k) 1).getD 0) 0 = j_it h ((j_rf h (z_el h x 2 k) 1).getD 0) 0
      rw [ee, (o2 k hk 1).2, r2', Option.getD_some]
      exact (o1 r r1' 0).1
    | 1, _ => show j_it h' (z_el h' x 2 k) 2 = j_it h (z_el h x 2 k) 2; rw [ee]; exact (o2 k hk 2).1
    | 2, _ =>
      show (match j_rf h' (z_el h' x 2 k) 3 with | none => Int32.ofInt (-1) | some b => j_it h' b 0) = (match j_rf h (z_el h x 2 k) 3 with | none => Int32.ofInt (-1) | some b => j_it h b 0)
      rw [ee, (o2 k hk 3).2]
      rcases c with c | ⟨p, c1, c2⟩
      · rw [c]
      · rw [c2]
        exact (o2 p (by unfold z_in at hk ⊢; omega) 0).1
    | j + 3, hf => omega
theorem z_newP {r : Nat} {o : Option Nat} {C : Int32} (w : j_WF h x) (I : z_I h x) (eL : j_rf h x 2 = some L) (e1 : j_rf h L 1 = some arr) (a : j_Ad h h' L arr n e) (hn : (n : Int) = (j_it h L 2).toInt) (hb : (j_it h L 2).toInt < 10) (ke : j_kd h e = some (.inl 6)) (v0 : j_it h e 0 = j_it h L 2) (hr : z_in h x 1 r) (r1 : j_rf h e 1 = some (z_el h x 1 r)) (v2 : j_it h e 2 = C) (r3 : j_rf h e 3 = o) (ho : o = none ∨ ∃ p, p < n ∧ o = some (z_el h x 2 p)) : z_I h' x ∧ z_eq (z_c h' x) (n_printz (z_c h x) (j_it h (z_el h x 1 r) 0) C (match o with
  | none => Int32.ofInt (-1)
  | some b => j_it h b 0)) := by
  have hp2 : ∀ p, p < n → z_in h x 2 p := fun p hp => by
    unfold z_in
    rw [j_sz_e eL]
    omega
  obtain ⟨el, en, iff, ob, nin⟩ := z_ad w (by decide) eL e1 a hn (by omega)
  have hnn : n = (z_cn h x 2).toNatClampNeg := by
    have e0 : z_cn h x 2 = j_it h L 2 := j_sz_e eL
    rw [e0]
    have := j_clamp (i := j_it h L 2) (by omega)
    omega
  have q : ∀ j k, j < 3 → z_in h' x j k → z_in h x j k ∨ (j = 2 ∧ k = n) := fun j k hj hk => (iff j k hj).mp hk
  have q0 : ∀ k, z_in h' x 0 k → z_in h x 0 k := fun k hk => (q 0 k (by decide) hk).elim id (fun z => absurd z.1 (by decide))
  have q1 : ∀ k, z_in h' x 1 k → z_in h x 1 k := fun k hk => (q 1 k (by decide) hk).elim id (fun z => absurd z.1 (by decide))
  have up : ∀ j k, j < 3 → z_in h x j k → z_in h' x j k := fun j k hj hk => (iff j k hj).mpr (Or.inl hk)
  have o0 : ∀ k, z_in h x 0 k → ∀ f, j_it h' (z_el h x 0 k) f = j_it h (z_el h x 0 k) f ∧ j_rf h' (z_el h x 0 k) f = j_rf h (z_el h x 0 k) f := fun k hk => ob _ 4 (z_k0 w hk) (by decide)
  have o1 : ∀ k, z_in h x 1 k → ∀ f, j_it h' (z_el h x 1 k) f = j_it h (z_el h x 1 k) f ∧ j_rf h' (z_el h x 1 k) f = j_rf h (z_el h x 1 k) f := fun k hk => ob _ 7 (z_k1 w hk) (by decide)
  have o2 : ∀ k, z_in h x 2 k → ∀ f, j_it h' (z_el h x 2 k) f = j_it h (z_el h x 2 k) f ∧ j_rf h' (z_el h x 2 k) f = j_rf h (z_el h x 2 k) f := fun k hk => ob _ 6 (z_k2 w hk) (by decide)
  have oe := ob e 6 ke (by decide)
  have ox := ob x 8 w.1 (by decide)
  have mo : ∀ k i, z_in h x 0 k → z_mo h' (z_el h x 0 k) i = z_mo h (z_el h x 0 k) i := fun k i hk => by
    unfold z_mo
    rw [(o0 k hk (1 + i)).2]
  have om : ∀ k i, z_in h x 0 k → i < 2 → ∀ f, j_it h' (z_mo h (z_el h x 0 k) i) f = j_it h (z_mo h (z_el h x 0 k) i) f := fun k i hk hi f => (ob _ 5 (z_km w hk hi).2 (by decide) f).1
  have nk : ∀ k, z_in h x 2 k → k ≠ n := fun k hk z => by rw [z, nin] at hk; exact hk
  refine ⟨⟨⟨fun k hk => ?_, ?_, fun k hk => ?_, fun k hk => ?_⟩, fun k hk => ?_⟩, z_adn w (by decide) eL e1 a, fun k i t hk hi ht => ?_, fun k f hk hf => ?_, fun k f hk hf => ?_, fun k f hk hf => ?_⟩
  · have hk := q0 k hk
    rw [el 0 k (by decide) hk, (o0 k hk 0).1]
    exact I.1.1 k hk
  · obtain ⟨μ, hμ⟩ := I.1.2.1
    refine ⟨μ, fun k i hk hi => ?_⟩
    have hk := q0 k hk
    rw [el 0 k (by decide) hk, mo k i hk]
    exact hμ k i hk hi
  · have hk := q1 k hk
    obtain ⟨b, g, g1, g2⟩ := I.1.2.2.1 k hk
    rw [el 1 k (by decide) hk, (o1 k hk 0).1, (o1 k hk 6).2]
    exact ⟨b, g, up 0 g (by decide) g1, by rw [el 0 g (by decide) g1]; exact g2⟩
  · rcases q 2 k (by decide) hk with hk | ⟨-, hk⟩
    · obtain ⟨b, ⟨r, r1', r2'⟩, c⟩ := I.1.2.2.2 k hk
      rw [el 2 k (by decide) hk, (o2 k hk 0).1, (o2 k hk 1).2, (o2 k hk 3).2]
      refine ⟨b, ⟨r, up 1 r (by decide) r1', by rw [el 1 r (by decide) r1']; exact r2'⟩, ?_⟩
      rcases c with c | ⟨p, c1, c2⟩
      · exact Or.inl c
      · exact Or.inr ⟨p, c1, by rw [el 2 p (by decide) (by unfold z_in at hk ⊢; omega)]; exact c2⟩
    · subst hk
      rw [en, (oe 0).1, (oe 1).2, (oe 3).2, v0]
      refine ⟨hn.symm, ⟨r, up 1 r (by decide) hr, by rw [el 1 r (by decide) hr]; exact r1⟩, ?_⟩
      rw [r3]
      rcases ho with ho | ⟨p, p1, p2⟩
      · exact Or.inl ho
      · exact Or.inr ⟨p, p1, by rw [el 2 p (by decide) (hp2 p p1)]; exact p2⟩
  · have hk := q1 k hk
    have c := I.2 k hk
    rw [el 1 k (by decide) hk]
    unfold z_ca at c ⊢
    rw [(o1 k hk 8).1, (o1 k hk 9).1, (o1 k hk 1).1, (o1 k hk 2).1, (o1 k hk 3).1, (o1 k hk 4).1, (ox _).1]
    exact c
  · have hk := q0 k hk
    show z_cm h' x k i t = z_cm h x k i t
    unfold z_cm
    rw [el 0 k (by decide) hk, mo k i hk]
    exact om k i hk hi _
  · have hk := q0 k hk
    show z_cg h' x k f = z_cg h x k f
    unfold z_cg
    rw [el 0 k (by decide) hk]
    exact (o0 k hk _).1
  · have hk := q1 k hk
    have ee := el 1 k (by decide) hk
    match f, hf with
    | 0, _ =>
      obtain ⟨b, g, g1, g2⟩ := I.1.2.2.1 k hk
      show j_it h' ((j_rf h' (z_el h' x 1 k) 6).getD 0) 0 = j_it h ((j_rf h (z_el h x 1 k) 6).getD 0) 0
      rw [ee, (o1 k hk 6).2, g2, Option.getD_some]
      exact (o0 g g1 0).1
    | 1, _ => show j_it h' (z_el h' x 1 k) 1 = j_it h (z_el h x 1 k) 1; rw [ee]; exact (o1 k hk 1).1
    | 2, _ => show j_it h' (z_el h' x 1 k) 2 = j_it h (z_el h x 1 k) 2; rw [ee]; exact (o1 k hk 2).1
    | 3, _ => show j_it h' (z_el h' x 1 k) 3 = j_it h (z_el h x 1 k) 3; rw [ee]; exact (o1 k hk 3).1
    | 4, _ => show j_it h' (z_el h' x 1 k) 4 = j_it h (z_el h x 1 k) 4; rw [ee]; exact (o1 k hk 4).1
    | 5, _ => show j_it h' (z_el h' x 1 k) 5 = j_it h (z_el h x 1 k) 5; rw [ee]; exact (o1 k hk 5).1
    | 6, _ => show j_it h' (z_el h' x 1 k) 7 = j_it h (z_el h x 1 k) 7; rw [ee]; exact (o1 k hk 7).1
    | j + 7, hf => omega
  · have ne9 : k ≠ n → (n_printz (z_c h x) (j_it h (z_el h x 1 r) 0) C (match o with
      | none => Int32.ofInt (-1)
      | some b => j_it h b 0)).2.2.2.2 k f = z_cp h x k f := fun z => if_neg (by show ¬ k = (z_cn h x 2).toNatClampNeg; rw [← hnn]; exact z)
    rcases q 2 k (by decide) hk with hk | ⟨-, hk⟩
    · refine Eq.trans ?_ (ne9 (nk k hk)).symm
      have ee := el 2 k (by decide) hk
      obtain ⟨b, ⟨r9, r1', r2'⟩, c⟩ := I.1.2.2.2 k hk
      match f, hf with
      | 0, _ =>
        show j_it h' ((j_rf h' (z_el h' x 2 k) 1).getD 0) 0 = j_it h ((j_rf h (z_el h x 2 k) 1).getD 0) 0
        rw [ee, (o2 k hk 1).2, r2', Option.getD_some]
        exact (o1 r9 r1' 0).1
      | 1, _ => show j_it h' (z_el h' x 2 k) 2 = j_it h (z_el h x 2 k) 2; rw [ee]; exact (o2 k hk 2).1
      | 2, _ =>
        show (match j_rf h' (z_el h' x 2 k) 3 with | none => Int32.ofInt (-1) | some b => j_it h' b 0) = (match j_rf h (z_el h x 2 k) 3 with | none => Int32.ofInt (-1) | some b => j_it h b 0)
        rw [ee, (o2 k hk 3).2]
        rcases c with c | ⟨p, c1, c2⟩
        · rw [c]
        · rw [c2]
          exact (o2 p (by unfold z_in at hk ⊢; omega) 0).1
      | j + 3, hf => omega
    · subst hk
      match f, hf with
      | 0, _ =>
        refine Eq.trans ?_ (if_pos hnn).symm
        show j_it h' ((j_rf h' (z_el h' x 2 k) 1).getD 0) 0 = j_it h (z_el h x 1 r) 0
        rw [en, (oe 1).2, r1, Option.getD_some]
        exact (o1 r hr 0).1
      | 1, _ => refine Eq.trans ?_ (if_pos hnn).symm; show j_it h' (z_el h' x 2 k) 2 = C; rw [en, (oe 2).1]; exact v2
      | 2, _ =>
        refine Eq.trans ?_ (if_pos hnn).symm
        rcases ho with rfl | ⟨p, p1, rfl⟩
        · show (match j_rf h' (z_el h' x 2 k) 3 with | none => Int32.ofInt (-1) | some b => j_it h' b 0) = Int32.ofInt (-1)
          rw [en, (oe 3).2, r3]
        · show (match j_rf h' (z_el h' x 2 k) 3 with | none => Int32.ofInt (-1) | some b => j_it h' b 0) = j_it h (z_el h x 2 p) 0
          rw [en, (oe 3).2, r3]
          exact (o2 p (hp2 p p1) 0).1
      | j + 3, hf => omega
end ZN
