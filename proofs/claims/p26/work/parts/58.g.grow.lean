/-! what x holds when others are made, and when one of its lists grows -/
/-- two heaps with the same things of x in their places, and the same in them -/
theorem z_same {h h1 : j_H} {x : Nat} (w : j_WF h x) (I : z_I h x) (hz : ∀ i, i < 3 → j_sz h1 x i = j_sz h x i) (he : ∀ i k, i < 3 → z_in h x i k → z_el h1 x i k = z_el h x i k) (hx : ∀ j, j_it h1 x j = j_it h x j) (ob : ∀ q c, j_kd h q = some (.inl c) → 4 ≤ c → c ≤ 7 → ∀ f, j_it h1 q f = j_it h q f ∧ j_rf h1 q f = j_rf h q f) : z_I h1 x ∧ z_eq (z_c h1 x) (z_c h x) := by
  have q : ∀ i k, i < 3 → z_in h1 x i k → z_in h x i k := fun i k hi h9 => by
    unfold z_in at h9 ⊢
    rw [hz i hi] at h9
    exact h9
  have q' : ∀ i k, i < 3 → z_in h x i k → z_in h1 x i k := fun i k hi h9 => by
    unfold z_in at h9 ⊢
    rw [hz i hi]
    exact h9
  have o0 : ∀ k, z_in h x 0 k → ∀ f, j_it h1 (z_el h x 0 k) f = j_it h (z_el h x 0 k) f ∧ j_rf h1 (z_el h x 0 k) f = j_rf h (z_el h x 0 k) f := fun k hk => ob _ 4 (z_k0 w hk) (by decide) (by decide)
  have o1 : ∀ k, z_in h x 1 k → ∀ f, j_it h1 (z_el h x 1 k) f = j_it h (z_el h x 1 k) f ∧ j_rf h1 (z_el h x 1 k) f = j_rf h (z_el h x 1 k) f := fun k hk => ob _ 7 (z_k1 w hk) (by decide) (by decide)
  have o2 : ∀ k, z_in h x 2 k → ∀ f, j_it h1 (z_el h x 2 k) f = j_it h (z_el h x 2 k) f ∧ j_rf h1 (z_el h x 2 k) f = j_rf h (z_el h x 2 k) f := fun k hk => ob _ 6 (z_k2 w hk) (by decide) (by decide)
  have mo : ∀ k i, z_in h x 0 k → i < 2 → z_mo h1 (z_el h x 0 k) i = z_mo h (z_el h x 0 k) i := fun k i hk hi => by
    unfold z_mo
    rw [(o0 k hk (1 + i)).2]
  have om : ∀ k i, z_in h x 0 k → i < 2 → ∀ f, j_it h1 (z_mo h (z_el h x 0 k) i) f = j_it h (z_mo h (z_el h x 0 k) i) f := fun k i hk hi f => (ob _ 5 (z_km w hk hi).2 (by decide) (by decide) f).1
  refine ⟨⟨⟨fun k hk => ?_, ?_, fun k hk => ?_, fun k hk => ?_⟩, fun k hk => ?_⟩, fun k hk => ?_, fun k i t hk hi ht => ?_, fun k f hk hf => ?_, fun k f hk hf => ?_, fun k f hk hf => ?_⟩
  · have hk := q 0 k (by decide) hk
    rw [he 0 k (by decide) hk, (o0 k hk 0).1]
    exact I.1.1 k hk
  · obtain ⟨μ, hμ⟩ := I.1.2.1
    refine ⟨μ, fun k i hk hi => ?_⟩
    have hk := q 0 k (by decide) hk
    rw [he 0 k (by decide) hk, mo k i hk hi]
    exact hμ k i hk hi
  · have hk := q 1 k (by decide) hk
    obtain ⟨a, g, g1, g2⟩ := I.1.2.2.1 k hk
    rw [he 1 k (by decide) hk, (o1 k hk 0).1, (o1 k hk 6).2]
    exact ⟨a, g, q' 0 g (by decide) g1, by rw [he 0 g (by decide) g1]; exact g2⟩
  · have hk := q 2 k (by decide) hk
    obtain ⟨a, ⟨r, r1, r2⟩, b⟩ := I.1.2.2.2 k hk
    rw [he 2 k (by decide) hk, (o2 k hk 0).1, (o2 k hk 1).2, (o2 k hk 3).2]
    refine ⟨a, ⟨r, q' 1 r (by decide) r1, by rw [he 1 r (by decide) r1]; exact r2⟩, ?_⟩
    rcases b with b | ⟨p, p1, p2⟩
    · exact Or.inl b
    · exact Or.inr ⟨p, p1, by rw [he 2 p (by decide) (by unfold z_in at hk ⊢; omega)]; exact p2⟩
  · have hk := q 1 k (by decide) hk
    have c := I.2 k hk
    rw [he 1 k (by decide) hk]
    unfold z_ca at c ⊢
    rw [(o1 k hk 8).1, (o1 k hk 9).1, (o1 k hk 1).1, (o1 k hk 2).1, (o1 k hk 3).1, (o1 k hk 4).1, hx]
    exact c
  · match k, hk with
    | 0, _ => exact hz 0 (by decide)
    | 1, _ => exact hz 1 (by decide)
    | 2, _ => exact hz 2 (by decide)
    | n + 3, _ => exact hx (n + 3)
  · have hk := q 0 k (by decide) hk
    show z_cm h1 x k i t = z_cm h x k i t
    unfold z_cm
    rw [he 0 k (by decide) hk, mo k i hk hi]
    exact om k i hk hi _
  · have hk := q 0 k (by decide) hk
    show z_cg h1 x k f = z_cg h x k f
    unfold z_cg
    rw [he 0 k (by decide) hk]
    exact (o0 k hk _).1
  · have hk := q 1 k (by decide) hk
    have ee := he 1 k (by decide) hk
    match f, hf with
    | 0, _ =>
      obtain ⟨a, g, g1, g2⟩ := I.1.2.2.1 k hk
      show j_it h1 ((j_rf h1 (z_el h1 x 1 k) 6).getD 0) 0 = j_it h ((j_rf h (z_el h x 1 k) 6).getD 0) 0
      rw [ee, (o1 k hk 6).2, g2, Option.getD_some]
      exact (o0 g g1 0).1
    | 1, _ => show j_it h1 (z_el h1 x 1 k) 1 = _; rw [ee]; exact (o1 k hk 1).1
    | 2, _ => show j_it h1 (z_el h1 x 1 k) 2 = _; rw [ee]; exact (o1 k hk 2).1
    | 3, _ => show j_it h1 (z_el h1 x 1 k) 3 = _; rw [ee]; exact (o1 k hk 3).1
    | 4, _ => show j_it h1 (z_el h1 x 1 k) 4 = _; rw [ee]; exact (o1 k hk 4).1
    | 5, _ => show j_it h1 (z_el h1 x 1 k) 5 = _; rw [ee]; exact (o1 k hk 5).1
    | 6, _ => show j_it h1 (z_el h1 x 1 k) 7 = _; rw [ee]; exact (o1 k hk 7).1
    | n + 7, hf => omega
  · have hk := q 2 k (by decide) hk
    have ee := he 2 k (by decide) hk
    obtain ⟨a, ⟨r, r1, r2⟩, b⟩ := I.1.2.2.2 k hk
    match f, hf with
    | 0, _ =>
      show j_it h1 ((j_rf h1 (z_el h1 x 2 k) 1).getD 0) 0 = j_it h ((j_rf h (z_el h x 2 k) 1).getD 0) 0
      rw [ee, (o2 k hk 1).2, r2, Option.getD_some]
      exact (o1 r r1 0).1
    | 1, _ => show j_it h1 (z_el h1 x 2 k) 2 = _; rw [ee]; exact (o2 k hk 2).1
    | 2, _ =>
      show (match j_rf h1 (z_el h1 x 2 k) 3 with | none => Int32.ofInt (-1) | some b => j_it h1 b 0) = (match j_rf h (z_el h x 2 k) 3 with | none => Int32.ofInt (-1) | some b => j_it h b 0)
      rw [ee, (o2 k hk 3).2]
      rcases b with b | ⟨p, p1, p2⟩
      · rw [b]
      · rw [p2]
        exact (o2 p (by unfold z_in at hk ⊢; omega) 0).1
    | n + 3, hf => omega
/-- x's lists and their arrays -/
theorem z_L {h : j_H} {x i : Nat} (w : j_WF h x) (hi : i < 3) : ∃ L arr t, j_rf h x i = some L ∧ j_kd h L = some (.inl 3) ∧ j_rf h L 1 = some arr ∧ j_kd h arr = some (.inr t) ∧ (j_it h L 2).toInt ≤ (j_ln h arr : Int) ∧ 0 ≤ (j_it h L 2).toInt ∧ ∀ k : Nat, (k : Int) < (j_it h L 2).toInt → ∃ y, j_rf h arr k = some y ∧ z_el h x i k = y := by
  obtain ⟨kx, g, L0, L1, L2, e0, l0, e1, l1, e2, l2, -⟩ := w
  have one : ∀ {L c M}, j_rf h x i = some L → j_LI h L c M → ∃ L arr t, j_rf h x i = some L ∧ j_kd h L = some (.inl 3) ∧ j_rf h L 1 = some arr ∧ j_kd h arr = some (.inr t) ∧ (j_it h L 2).toInt ≤ (j_ln h arr : Int) ∧ 0 ≤ (j_it h L 2).toInt ∧ ∀ k : Nat, (k : Int) < (j_it h L 2).toInt → ∃ y, j_rf h arr k = some y ∧ z_el h x i k = y := fun {L c M} e l => by
    obtain ⟨kL, b0, b1, arr, t, f1, f2, f3, f4, f5, f6⟩ := l
    refine ⟨L, arr, t, e, kL, f1, f2, f4, b0, fun k hk => ?_⟩
    obtain ⟨y, y1, y2⟩ := f6 k hk
    exact ⟨y, y1, z_el_of e f1 y1⟩
  match i, hi with
  | 0, _ => exact one e0 l0
  | 1, _ => exact one e1 l1
  | 2, _ => exact one e2 l2
  | n + 3, hi => omega
/-- new things alone were made, or written -/
theorem z_keep {h h1 : j_H} {x : Nat} (w : j_WF h x) (I : z_I h x) (o : j_On (fun _ => False) h h1) : z_I h1 x ∧ z_eq (z_c h1 x) (z_c h x) ∧ (∀ i, i < 3 → j_sz h1 x i = j_sz h x i) ∧ ∀ i k, i < 3 → z_in h x i k → z_el h1 x i k = z_el h x i k := by
  have s : ∀ q c, j_kd h q = some c → ∀ f, j_it h1 q f = j_it h q f ∧ j_rf h1 q f = j_rf h q f := fun q c hq f => ⟨((o.2 q (j_nn hq)).2.2 (fun z => z) f).1, ((o.2 q (j_nn hq)).2.2 (fun z => z) f).2.2⟩
  have hz : ∀ i, i < 3 → j_sz h1 x i = j_sz h x i := fun i hi => by
    obtain ⟨L, arr, t, e, kL, -⟩ := z_L w hi
    rw [j_sz_e e, j_sz_e (((s x _ w.1 i).2).trans e)]
    exact (s L _ kL 2).1
  have he : ∀ i k, i < 3 → z_in h x i k → z_el h1 x i k = z_el h x i k := fun i k hi hk => by
    obtain ⟨L, arr, t, e, kL, f1, f2, -, -, f6⟩ := z_L w hi
    unfold z_in at hk
    rw [j_sz_e e] at hk
    obtain ⟨y, y1, y2⟩ := f6 k hk
    rw [y2]
    exact z_el_of (((s x _ w.1 i).2).trans e) (((s L _ kL 1).2).trans f1) (((s arr _ f2 k).2).trans y1)
  obtain ⟨a, b⟩ := z_same w I hz he (fun j => (s x _ w.1 j).1) (fun q c hq _ _ => s q _ hq)
  exact ⟨a, b, hz, he⟩
/-- a list has grown: sizes, places, contents -/
theorem z_ad {h h' : j_H} {x i L arr n e : Nat} (w : j_WF h x) (hi : i < 3) (eL : j_rf h x i = some L) (e1 : j_rf h L 1 = some arr) (a : j_Ad h h' L arr n e) (hn : (n : Int) = (j_it h L 2).toInt) (hb : (j_it h L 2).toInt < 26) :
    (∀ j k, j < 3 → z_in h x j k → z_el h' x j k = z_el h x j k) ∧ z_el h' x i n = e ∧ (∀ j k, j < 3 → (z_in h' x j k ↔ z_in h x j k ∨ (j = i ∧ k = n))) ∧ (∀ q c, j_kd h q = some (.inl c) → c ≠ 3 → ∀ f, j_it h' q f = j_it h q f ∧ j_rf h' q f = j_rf h q f) ∧ z_in h x i n = False := by
  obtain ⟨L9, arr9, t, e9, kL, f1, f2, f4, b0, f6⟩ := z_L w hi
  obtain rfl : L = L9 := Option.some.inj (eL.symm.trans e9)
  obtain rfl : arr = arr9 := Option.some.inj (e1.symm.trans f1)
  have of := fun (q : Nat) (c : Nat) (hq : j_kd h q = some (.inl c)) (hc : c ≠ 3) => (a.of (q := q) (j_nn hq) (fun z => by rw [z, kL] at hq; cases hq; exact hc rfl) (fun z => by rw [z, f2] at hq; cases hq)).2.2
  have ox := of x 8 w.1 (by decide)
  obtain ⟨b, a1, a2, a3, a4, a5, a6, a7, a8, a9, a10⟩ := id a
  have zn : ∀ j, j < 3 → j ≠ i → j_sz h' x j = j_sz h x j := fun j hj hji => by
    obtain ⟨M, ar, t', m1, kM, -⟩ := z_L w hj
    rw [j_sz_e m1, j_sz_e (((ox j).2).trans m1)]
    exact ((a.of (q := M) (j_nn kM) (w.ll hj hi hji m1 eL) (fun z => by rw [z, f2] at kM; cases kM)).2.2 2).1
  have zi : (j_sz h' x i).toInt = (j_sz h x i).toInt + 1 := by
    rw [j_sz_e eL, j_sz_e (((ox i).2).trans eL), a5]
    exact j_inc1 (by omega)
  refine ⟨fun j k hj hk => ?_, ?_, fun j k hj => ?_, fun q c hq hc f => of q c hq hc f, ?_⟩
  · by_cases hji : j = i
    · subst hji
      unfold z_in at hk
      rw [j_sz_e eL] at hk
      obtain ⟨y, y1, y2⟩ := f6 k hk
      rw [y2]
      exact z_el_of (((ox j).2).trans eL) a1 ((a9 k (by omega)).trans y1)
    · obtain ⟨M, ar, t', m1, kM, g1, g2, g4, -, g6⟩ := z_L w hj
      have sM := (a.of (q := M) (j_nn kM) (w.ll hj hi hji m1 eL) (fun z => by rw [z, f2] at kM; cases kM)).2.2
      unfold z_in at hk
      rw [j_sz_e m1] at hk
      obtain ⟨y, y1, y2⟩ := g6 k hk
      have nar : ar ≠ arr := fun z => by
        obtain ⟨-, -, L0, L1, L2, d0, -, d1, -, d2, -, ⟨p1, p2, p3⟩, -⟩ := w
        have ap : ∀ {u v}, j_Ap h u v → j_rf h u 1 = some ar → j_rf h v 1 = some ar → j_ln h ar = 0 := fun p q1 q2 => p.2 ar q1 q2
        have hl : j_ln h ar = 0 := by
          rw [← z] at e1
          match i, hi, j, hj, hji, eL, m1 with
          | 0, _, 0, _, hji, _, _ => exact absurd rfl hji
          | 0, _, 1, _, _, eL, m1 =>
            obtain rfl := Option.some.inj (eL.symm.trans d0)
            obtain rfl := Option.some.inj (m1.symm.trans d1)
            exact ap p1 e1 g1
          | 0, _, 2, _, _, eL, m1 =>
            obtain rfl := Option.some.inj (eL.symm.trans d0)
            obtain rfl := Option.some.inj (m1.symm.trans d2)
            exact ap p2 e1 g1
          | 1, _, 0, _, _, eL, m1 =>
            obtain rfl := Option.some.inj (eL.symm.trans d1)
            obtain rfl := Option.some.inj (m1.symm.trans d0)
            exact ap p1 g1 e1
          | 1, _, 1, _, hji, _, _ => exact absurd rfl hji
          | 1, _, 2, _, _, eL, m1 =>
            obtain rfl := Option.some.inj (eL.symm.trans d1)
            obtain rfl := Option.some.inj (m1.symm.trans d2)
            exact ap p3 e1 g1
          | 2, _, 0, _, _, eL, m1 =>
            obtain rfl := Option.some.inj (eL.symm.trans d2)
            obtain rfl := Option.some.inj (m1.symm.trans d0)
            exact ap p2 g1 e1
          | 2, _, 1, _, _, eL, m1 =>
            obtain rfl := Option.some.inj (eL.symm.trans d2)
            obtain rfl := Option.some.inj (m1.symm.trans d1)
            exact ap p3 g1 e1
          | 2, _, 2, _, hji, _, _ => exact absurd rfl hji
          | n + 3, hi, _, _, _, _, _ => omega
          | _, _, n + 3, hj, _, _, _ => omega
        omega
      have nL : ar ≠ L := fun z => by rw [z, kL] at g2; cases g2
      rw [y2]
      exact z_el_of (((ox j).2).trans m1) (((sM 1).2).trans g1) ((((a.of (q := ar) (j_nn g2) nL nar).2.2 k).2).trans y1)
  · exact z_el_of (((ox i).2).trans eL) a1 a10
  · unfold z_in
    by_cases hji : j = i
    · subst hji
      rw [zi, j_sz_e eL]
      constructor
      · intro z
        by_cases y : (k : Int) < (j_it h L 2).toInt
        · exact Or.inl y
        · exact Or.inr ⟨rfl, by omega⟩
      · rintro (z | ⟨-, z⟩)
        · omega
        · omega
    · rw [zn j hj hji]
      exact ⟨fun z => Or.inl z, fun z => by
        rcases z with z | ⟨z, -⟩
        · exact z
        · exact absurd z hji⟩
  · unfold z_in
    rw [j_sz_e eL, hn]
    exact propext ⟨fun z => by omega, fun z => z.elim⟩
