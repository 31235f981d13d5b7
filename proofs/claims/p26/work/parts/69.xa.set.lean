/-! the model: one of a grain's motes written -/
def n_set (z : j_Z) (k i t : Nat) (x : Int32) : j_Z := (z.1, fun k' i' t' => if k' = k ∧ i' = i ∧ t' = t then x else z.2.1 k' i' t', z.2.2)
theorem n_set_c {A B : j_Z} {k i t : Nat} {x y : Int32} (e : z_eq A B) (hx : x = y) : z_eq (n_set A k i t x) (n_set B k i t y) := by
  refine ⟨fun k hk => e.1 k hk, fun k' i' t' hk hi ht => ?_, fun k f hk hf => e.2.2.1 k f hk hf, fun k f hk hf => e.2.2.2.1 k f hk hf, fun k f hk hf => e.2.2.2.2 k f hk hf⟩
  have hk : z_lt A 0 k' := hk
  show (if k' = k ∧ i' = i ∧ t' = t then x else A.2.1 k' i' t') = (if k' = k ∧ i' = i ∧ t' = t then y else B.2.1 k' i' t')
  rw [hx, e.2.1 k' i' t' hk hi ht]
theorem z_setM {ρ : Nat → Nat} {h : j_H} {m P G R Q k i t b : Nat} {x : Int32} (w : j_MX ρ h m P G R Q) (hk : (k : Int) < (j_it h G 2).toInt) (ht : t < 4) (hb : j_rf h (z_ml h G k) t = some b) : j_MX ρ (j_ui h b i x) m P G R Q ∧ j_Mg m G R Q h (j_ui h b i x) ∧ z_eq (z_d (j_ui h b i x) m P G R Q) (n_set (z_d h m P G R Q) k i t x) ∧ ∀ f, j_it (j_ui h b i x) m f = j_it h m f := by
  obtain ⟨b1, c1, kb, lb, rb, db⟩ := w.ga hk ht
  obtain rfl : b = b1 := Option.some.inj (hb.symm.trans c1)
  have ot : ∀ q, q ≠ b → ∀ f, j_u (j_it h) b i x q f = j_it h q f := fun q hq f => j_u_ne hq
  obtain ⟨wx, gx⟩ := w.wi (it := j_u (j_it h) b i x) (fun q f hq hn => ot q (fun z => hn (by rw [z]; exact Or.inr (Or.inr (Or.inl ⟨kb, rb⟩)))) f)
  have un : ∀ {q s}, j_kd h q = some s → (s ≠ .inr 0 ∨ ρ q ≠ 2) → ∀ f, j_u (j_it h) b i x q f = j_it h q f := fun {q s} hq hs f => by
    refine ot q (fun z => ?_) f
    rw [z, kb] at hq
    rcases hs with hs | hs
    · exact hs (Option.some.inj hq).symm
    · exact hs (by rw [z]; exact rb)
  have nG : j_u (j_it h) b i x G 2 = j_it h G 2 := un w.lG.1 (Or.inl (by decide)) 2
  have nR : j_u (j_it h) b i x R 2 = j_it h R 2 := un w.lR.1 (Or.inl (by decide)) 2
  have nQ : j_u (j_it h) b i x Q 2 = j_it h Q 2 := un w.lQ.1 (Or.inl (by decide)) 2
  refine ⟨wx, gx, ⟨fun k hk => ?_, fun k' i' t' hk' hi ht' => ?_, fun k' f hk' hf => ?_, fun k' f hk' hf => ?_, fun k' f hk' hf => ?_⟩, fun f => un w.km (Or.inl (by decide)) f⟩
  · match k, hk with
    | 0, _ => exact nG
    | 1, _ => exact nR
    | 2, _ => exact nQ
    | 3, _ => exact un w.kP (Or.inr (by rw [w.rP]; decide)) 0
    | 4, _ => exact un w.kP (Or.inr (by rw [w.rP]; decide)) 1
    | 5, _ => exact un w.km (Or.inl (by decide)) 3
    | 6, _ => exact un w.km (Or.inl (by decide)) 2
    | n + 7, hk => omega
  · have hk' : (k' : Int) < (j_u (j_it h) b i x G 2).toInt := hk'
    rw [nG] at hk'
    obtain ⟨b', d1, d2, d3, d4, d5⟩ := w.ga hk' ht'
    show j_u (j_it h) b i x ((j_rf h (z_ml h G k') t').getD 0) i' = if k' = k ∧ i' = i ∧ t' = t then x else z_dm h G k' i' t'
    rw [d1, Option.getD_some, d5, j_uq]
    by_cases z : b' = b ∧ i' = i
    · obtain ⟨z1, z2⟩ := z
      obtain ⟨q1, q2⟩ := w.ai hk' hk ht' ht d1 (by rw [z1]; exact hb)
      rw [if_pos ⟨z1, z2⟩, if_pos ⟨q1, z2, q2⟩]
    · rw [if_neg z, if_neg (fun y => z ⟨by
        obtain ⟨y1, y2, y3⟩ := y
        rw [y1, y3] at d1
        exact Option.some.inj (d1.symm.trans hb), y.2.1⟩)]
  · have hk' : (k' : Int) < (j_u (j_it h) b i x G 2).toInt := hk'
    rw [nG] at hk'
    exact un (w.g hk').1 (Or.inl (by decide)) _
  · have hk' : (k' : Int) < (j_u (j_it h) b i x R 2).toInt := hk'
    rw [nR] at hk'
    have ob : ∀ j, j_u (j_it h) b i x (z_ml h R k') j = j_it h (z_ml h R k') j := fun j => un (w.r hk').1 (Or.inl (by decide)) j
    show z_dr (j_wi h (j_u (j_it h) b i x)) R k' f = z_dr h R k' f
    match f, hf with
    | 0, _ => exact ob 0
    | 1, _ => exact ob 1
    | 2, _ => exact ob 2
    | 3, _ => exact ob 3
    | 4, _ => exact ob 4
    | 5, _ => exact ob 5
    | 6, _ =>
      show (if (j_u (j_it h) b i x (z_ml h R k') 6).toInt = 0 then Int32.ofInt 1 else Int32.ofInt 0) = (if (j_it h (z_ml h R k') 6).toInt = 0 then Int32.ofInt 1 else Int32.ofInt 0)
      rw [ob 6]
    | n + 7, h => omega
  · have hk' : (k' : Int) < (j_u (j_it h) b i x Q 2).toInt := hk'
    rw [nQ] at hk'
    obtain ⟨kq, pq⟩ := w.p hk'
    exact un kq (Or.inr (by rw [pq.1]; decide)) f
/-- turned so far: the first n grains, of the next the first c clocks; the years told -/
def z_part (z : j_Z) (a : Int32) (n c : Nat) : j_Z := (j_u1 z.1 6 (z.1 6 + a), fun k i t => if k < n ∨ (k = n ∧ i < c) then (n_years z a).2.1 k i t else z.2.1 k i t, z.2.2)
theorem z_part_st {z : j_Z} {a : Int32} {n c : Nat} : z_eq (n_set (n_set (z_part z a n c) n c 0 (z_lf z a n c)) n c 1 (z.2.1 n c 1 + (z.2.1 n c 0 - z_lf z a n c))) (z_part z a n (c + 1)) := by
  refine ⟨fun k hk => rfl, fun k i t hk hi ht => ?_, fun k f hk hf => rfl, fun k f hk hf => rfl, fun k f hk hf => rfl⟩
  show (if k = n ∧ i = c ∧ t = 1 then z.2.1 n c 1 + (z.2.1 n c 0 - z_lf z a n c) else if k = n ∧ i = c ∧ t = 0 then z_lf z a n c else if k < n ∨ (k = n ∧ i < c) then (n_years z a).2.1 k i t else z.2.1 k i t) = if k < n ∨ (k = n ∧ i < c + 1) then (n_years z a).2.1 k i t else z.2.1 k i t
  have yr : (n_years z a).2.1 k i t = if t = 0 then z_lf z a k i else if t = 1 then z.2.1 k i 1 + (z.2.1 k i 0 - z_lf z a k i) else z.2.1 k i t := rfl
  by_cases h1 : k = n ∧ i = c
  · obtain ⟨rfl, rfl⟩ := h1
    rw [if_pos (show k < k ∨ (k = k ∧ i < i + 1) from Or.inr ⟨rfl, by omega⟩), yr]
    by_cases t1 : t = 1
    · rw [if_pos ⟨rfl, rfl, t1⟩, if_neg (by omega), if_pos t1]
    · rw [if_neg (fun y => t1 y.2.2)]
      by_cases t0 : t = 0
      · rw [if_pos ⟨rfl, rfl, t0⟩, if_pos t0]
      · rw [if_neg (fun y => t0 y.2.2), if_neg (show ¬ (k < k ∨ (k = k ∧ i < i)) by omega), if_neg t0, if_neg t1]
  · rw [if_neg (fun y => h1 ⟨y.1, y.2.1⟩), if_neg (fun y => h1 ⟨y.1, y.2.1⟩)]
    by_cases h2 : k < n ∨ (k = n ∧ i < c)
    · rw [if_pos h2, if_pos (by omega)]
    · rw [if_neg h2, if_neg (by omega)]
theorem z_part_n {z : j_Z} {a : Int32} {n : Nat} : z_eq (z_part z a n 2) (z_part z a (n + 1) 0) := by
  refine ⟨fun k hk => rfl, fun k i t hk hi ht => ?_, fun k f hk hf => rfl, fun k f hk hf => rfl, fun k f hk hf => rfl⟩
  show (if k < n ∨ (k = n ∧ i < 2) then (n_years z a).2.1 k i t else z.2.1 k i t) = if k < n + 1 ∨ (k = n + 1 ∧ i < 0) then (n_years z a).2.1 k i t else z.2.1 k i t
  by_cases h2 : k < n ∨ (k = n ∧ i < 2)
  · rw [if_pos h2, if_pos (by omega)]
  · rw [if_neg h2, if_neg (by omega)]
theorem z_part_all {z : j_Z} {a : Int32} {n : Nat} (hn : (z.1 0).toInt ≤ (n : Int)) : z_eq (z_part z a n 0) (n_years z a) := by
  refine ⟨fun k hk => rfl, fun k i t hk hi ht => ?_, fun k f hk hf => rfl, fun k f hk hf => rfl, fun k f hk hf => rfl⟩
  have hk : (k : Int) < (z.1 0).toInt := z_u1_lt (s := z.1) (R' := z.2) (by decide) hk
  show (if k < n ∨ (k = n ∧ i < 0) then (n_years z a).2.1 k i t else z.2.1 k i t) = (n_years z a).2.1 k i t
  rw [if_pos (by omega)]
