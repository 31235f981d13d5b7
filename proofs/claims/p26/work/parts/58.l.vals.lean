/-! the same words on the same state; values stay within their bounds -/
theorem z_u1_c {s r : Nat → Int32} {i : Nat} {v w : Int32} (e : ∀ k, k < 7 → s k = r k) (hv : v = w) : ∀ k, k < 7 → j_u1 s i v k = j_u1 r i w k := fun k hk => by
  unfold j_u1
  rw [hv, e k hk]
theorem z_u1_lt {s : Nat → Int32} {R R' : (Nat → Nat → Nat → Int32) × (Nat → Nat → Int32) × (Nat → Nat → Int32) × (Nat → Nat → Int32)} {i j k : Nat} {v : Int32} (h : i ≠ j) (hk : z_lt (j_u1 s j v, R) i k) : z_lt (s, R') i k := by
  have e : j_u1 s j v i = s i := if_neg h
  have hk : (k : Int) < (j_u1 s j v i).toInt := hk
  rw [e] at hk
  exact hk
theorem z_num_c {A B : j_Z} {i : Nat} {v w : Int32} (hi : 3 ≤ i) (e : z_eq A B) (hv : v = w) : z_eq (j_u1 A.1 i v, A.2) (j_u1 B.1 i w, B.2) :=
  ⟨z_u1_c e.1 hv, fun k a t hk ha ht => e.2.1 k a t (z_u1_lt (R' := A.2) (by omega) hk) ha ht, fun k f hk hf => e.2.2.1 k f (z_u1_lt (R' := A.2) (by omega) hk) hf, fun k f hk hf => e.2.2.2.1 k f (z_u1_lt (R' := A.2) (by omega) hk) hf, fun k f hk hf => e.2.2.2.2 k f (z_u1_lt (R' := A.2) (by omega) hk) hf⟩
theorem n_pacez_c {A B : j_Z} {a b : Int32} (e : z_eq A B) : z_eq (n_pacez A a b) (n_pacez B a b) := by
  unfold n_pacez
  rcases j_pf34' a with ⟨_, q⟩ | ⟨_, q⟩
  · rw [q]; exact z_num_c (by decide) e rfl
  · rw [q]; exact z_num_c (by decide) e rfl
def n_slipz (z : j_Z) (a : Int32) : j_Z := (j_u1 z.1 5 a, z.2)
theorem n_slipz_c {A B : j_Z} {a : Int32} (e : z_eq A B) : z_eq (n_slipz A a) (n_slipz B a) := z_num_c (by decide) e rfl
theorem n_touch_c {t0 : Nat} {A B : j_Z} {a s : Int32} (ht : t0 < 2) (e : z_eq A B) : z_eq (n_touch t0 A a s) (n_touch t0 B a s) := by
  refine ⟨fun k hk => e.1 k hk, fun k i t hk hi ht' => ?_, fun k f hk hf => ?_, fun k f hk hf => e.2.2.2.1 k f hk hf, fun k f hk hf => e.2.2.2.2 k f hk hf⟩
  · have hk : z_lt A 0 k := hk
    show (if k = a.toNatClampNeg then (if t = t0 then A.2.1 k i t0 - z_take (A.2.1 k i t0) s else if t = 2 then A.2.1 k i 2 + z_take (A.2.1 k i t0) s else A.2.1 k i t) else A.2.1 k i t) = (if k = a.toNatClampNeg then (if t = t0 then B.2.1 k i t0 - z_take (B.2.1 k i t0) s else if t = 2 then B.2.1 k i 2 + z_take (B.2.1 k i t0) s else B.2.1 k i t) else B.2.1 k i t)
    have q0 := e.2.1 k i t0 hk hi (by omega)
    have q2 := e.2.1 k i 2 hk hi (by decide)
    have q := e.2.1 k i t hk hi ht'
    rw [q0, q2, q]
  · have hk : z_lt A 0 k := hk
    show (if k = a.toNatClampNeg then (if f = 2 then Int32.ofInt 1 else A.2.2.1 k f) else A.2.2.1 k f) = (if k = a.toNatClampNeg then (if f = 2 then Int32.ofInt 1 else B.2.2.1 k f) else B.2.2.1 k f)
    rw [e.2.2.1 k f hk hf]
theorem a_touch_c {t0 : Nat} {A B : j_Z} {a s : Int32} (ht : t0 < 2) (e : z_eq A B) (ha : z_lt A 0 a.toNatClampNeg) : a_touch t0 A a s = a_touch t0 B a s := by
  unfold a_touch
  rw [e.2.1 _ 0 t0 ha (by decide) (by omega), e.2.1 _ 1 t0 ha (by decide) (by omega)]
theorem z_lf_c {A B : j_Z} {a : Int32} {k i : Nat} (e : z_eq A B) (hk : z_lt A 0 k) (hi : i < 2) : z_lf A a k i = z_lf B a k i := by
  unfold z_lf
  rw [e.1 (3 + i) (by omega), e.2.1 k i 0 hk hi (by decide)]
theorem n_years_c {A B : j_Z} {a : Int32} (e : z_eq A B) : z_eq (n_years A a) (n_years B a) := by
  have up : ∀ i k, i ≠ 6 → z_lt (n_years A a) i k → z_lt A i k := fun i k hi h => z_u1_lt (R' := A.2) hi h
  refine ⟨z_u1_c e.1 (by rw [e.1 6 (by decide)]), fun k i t hk hi ht => ?_, fun k f hk hf => e.2.2.1 k f (up 0 k (by decide) hk) hf, fun k f hk hf => e.2.2.2.1 k f (up 1 k (by decide) hk) hf, fun k f hk hf => e.2.2.2.2 k f (up 2 k (by decide) hk) hf⟩
  have hk := up 0 k (by decide) hk
  show (if t = 0 then z_lf A a k i else if t = 1 then A.2.1 k i 1 + (A.2.1 k i 0 - z_lf A a k i) else A.2.1 k i t) = (if t = 0 then z_lf B a k i else if t = 1 then B.2.1 k i 1 + (B.2.1 k i 0 - z_lf B a k i) else B.2.1 k i t)
  have q0 := e.2.1 k i 0 hk hi (by decide)
  have q1 := e.2.1 k i 1 hk hi (by decide)
  have q := e.2.1 k i t hk hi ht
  rw [z_lf_c e hk hi, q0, q1, q]
theorem z_ck2 {b : Int32} : z_ck b < 2 := by
  unfold z_ck
  by_cases z : b.toInt = 0
  · rw [if_pos z]; decide
  · rw [if_neg z]; decide
theorem n_runF_c {A B : j_Z} {a b c d : Int32} (e : z_eq A B) (ha : z_lt A 0 a.toNatClampNeg) (hs : (A.1 1).toInt < 100) : z_eq (n_runF A a b c d) (n_runF B a b c d) := by
  unfold n_runF
  rw [e.2.1 _ _ 0 ha z_ck2 (by decide), e.2.1 _ _ 1 ha z_ck2 (by decide)]
  exact n_runz_c e hs
theorem n_withdraw_c {A B : j_Z} {a : Int32} (e : z_eq A B) : z_eq (n_withdraw A a) (n_withdraw B a) := by
  refine ⟨fun k hk => e.1 k hk, fun k i t hk hi ht => e.2.1 k i t hk hi ht, fun k f hk hf => e.2.2.1 k f hk hf, fun k f hk hf => ?_, fun k f hk hf => e.2.2.2.2 k f hk hf⟩
  have hk : z_lt A 1 k := hk
  show (if k = a.toNatClampNeg then (if f = 6 then Int32.ofInt 0 else A.2.2.2.1 k f) else A.2.2.2.1 k f) = (if k = a.toNatClampNeg then (if f = 6 then Int32.ofInt 0 else B.2.2.2.1 k f) else B.2.2.2.1 k f)
  rw [e.2.2.2.1 k f hk hf]
theorem n_swap_c {A B : j_Z} {a b : Int32} (e : z_eq A B) (ha : z_lt A 1 a.toNatClampNeg) (hb : z_lt A 1 b.toNatClampNeg) : z_eq (n_swap A a b) (n_swap B a b) := by
  refine ⟨fun k hk => e.1 k hk, fun k i t hk hi ht => e.2.1 k i t hk hi ht, fun k f hk hf => e.2.2.1 k f hk hf, fun k f hk hf => ?_, fun k f hk hf => e.2.2.2.2 k f hk hf⟩
  have hk : z_lt A 1 k := hk
  show (if f = 0 then (if k = a.toNatClampNeg then A.2.2.2.1 b.toNatClampNeg 0 else if k = b.toNatClampNeg then A.2.2.2.1 a.toNatClampNeg 0 else A.2.2.2.1 k 0) else A.2.2.2.1 k f) = (if f = 0 then (if k = a.toNatClampNeg then B.2.2.2.1 b.toNatClampNeg 0 else if k = b.toNatClampNeg then B.2.2.2.1 a.toNatClampNeg 0 else B.2.2.2.1 k 0) else B.2.2.2.1 k f)
  have q1 := e.2.2.2.1 _ 0 ha (by decide)
  have q2 := e.2.2.2.1 _ 0 hb (by decide)
  have q3 := e.2.2.2.1 k 0 hk (by decide)
  have q4 := e.2.2.2.1 k f hk hf
  by_cases z : f = 0
  · rw [if_pos z, if_pos z, q1, q2, q3]
  · rw [if_neg z, if_neg z, q4]
theorem z_pc_c {A B : j_Z} (e : z_eq A B) (c : Int32) : A.1 (j_pf c) = B.1 (j_pf c) := by
  rcases j_pf34' c with ⟨_, q⟩ | ⟨_, q⟩
  · rw [q]; exact e.1 3 (by decide)
  · rw [q]; exact e.1 4 (by decide)
theorem n_print_c {A B : j_Z} {a b : Int32} (e : z_eq A B) (ha : z_lt A 1 a.toNatClampNeg) (hs : (A.1 2).toInt < 100) : z_eq (n_print A a b) (n_print B a b) := by
  unfold n_print
  rw [e.2.2.2.1 _ 1 ha (by decide), z_pc_c e]
  exact n_printz_c e hs
theorem z_okp_c {A B : j_Z} {a b : Int32} (e : z_eq A B) : z_okp A a b ↔ z_okp B a b := by
  unfold z_okp
  rw [e.1 1 (by decide), e.1 2 (by decide)]
theorem z_okq_c {A B : j_Z} {a b : Int32} (e : z_eq A B) (P : ∀ k, z_lt A 2 k → z_lt A 1 (A.2.2.2.2 k 0).toNatClampNeg ∧ ((A.2.2.2.2 k 2).toInt < 0 ∨ (A.2.2.2.2 k 2).toNatClampNeg < k)) (o : z_okp A a b) : z_okq A a b ↔ z_okq B a b := by
  have ha : z_lt A 1 a.toNatClampNeg := by unfold z_lt; rw [j_clamp o.1.1]; exact o.1.2
  have hb : (if b.toInt < 0 then true else z_st A b.toNatClampNeg) = (if b.toInt < 0 then true else z_st B b.toNatClampNeg) := by
    by_cases z : b.toInt < 0
    · rw [if_pos z, if_pos z]
    · rw [if_neg z, if_neg z]
      have hb : 0 ≤ b.toInt ∧ b.toInt < (A.1 2).toInt := by
        rcases o.2 with q | q
        · omega
        · exact q
      exact z_st_c e P _ _ (Nat.lt_succ_self _) (by unfold z_lt; rw [j_clamp hb.1]; exact hb.2)
  unfold z_okq
  rw [e.1 2 (by decide), e.2.2.2.1 _ 6 ha (by decide), hb]
/-! values -/
theorem z_take_b {v s : Int32} (v0 : 0 ≤ v.toInt) (v1 : v.toInt ≤ 9999) (s0 : 0 ≤ s.toInt) (s1 : s.toInt ≤ 100) : 0 ≤ (z_take v s).toInt ∧ (z_take v s).toInt ≤ v.toInt := by
  have z100 : ((Int8.ofInt (100)).toInt32).toInt = 100 := by decide
  have u0 := Int.mul_nonneg v0 s0
  have u1 : v.toInt * s.toInt ≤ v.toInt * 100 := Int.mul_le_mul_of_nonneg_left s1 v0
  have em : (v * s).toInt = v.toInt * s.toInt := by
    rw [Int32.toInt_mul, Int.bmod_def]
    generalize v.toInt * s.toInt = P at u0 u1 ⊢
    omega
  unfold z_take
  rw [t_div (by rw [em]; exact u0) (by rw [z100]; decide), z100, em]
  generalize v.toInt * s.toInt = P at u0 u1 ⊢
  omega
theorem z_left_b {p : Int32} (hp : 2 ≤ p.toInt) : ∀ (n : Nat) (l : Int32), 0 ≤ l.toInt → 0 ≤ (t_left p n l).toInt ∧ (t_left p n l).toInt ≤ l.toInt := by
  intro n
  induction n with
  | zero => intro l h; exact ⟨h, Int.le_refl _⟩
  | succ n ih =>
    intro l h
    show 0 ≤ (if l.toInt < p.toInt then l else t_left p n (l - l / p)).toInt ∧ (if l.toInt < p.toInt then l else t_left p n (l - l / p)).toInt ≤ l.toInt
    by_cases z : l.toInt < p.toInt
    · rw [if_pos z]
      exact ⟨h, Int.le_refl _⟩
    · rw [if_neg z]
      have d := t_div h hp
      have d0 := Int.ediv_nonneg h (show (0 : Int) ≤ p.toInt by omega)
      have d1 : l.toInt / p.toInt ≤ l.toInt := Int.ediv_le_self _ h
      have ub := j_ub l
      have es : (l - l / p).toInt = l.toInt - l.toInt / p.toInt := by
        rw [← d]
        exact j_subI (by rw [d]; omega) (by rw [d]; omega)
      obtain ⟨a, b⟩ := ih (l - l / p) (by rw [es]; omega)
      rw [es] at b
      exact ⟨a, by omega⟩
theorem z_V.touch {t0 : Nat} {z : j_Z} {a s : Int32} (ht : t0 < 2) (v : z_V z) (s0 : 0 ≤ s.toInt) (s1 : s.toInt ≤ 100) : z_V (n_touch t0 z a s) := by
  refine ⟨v.1, v.2.1, fun k i hk hi => ?_, v.2.2.2⟩
  have hk : z_lt z 0 k := hk
  obtain ⟨m, d, md⟩ := v.2.2.1 k i hk hi
  show 0 ≤ (if k = a.toNatClampNeg then (if 0 = t0 then z.2.1 k i t0 - z_take (z.2.1 k i t0) s else if 0 = 2 then z.2.1 k i 2 + z_take (z.2.1 k i t0) s else z.2.1 k i 0) else z.2.1 k i 0).toInt ∧ 0 ≤ (if k = a.toNatClampNeg then (if 1 = t0 then z.2.1 k i t0 - z_take (z.2.1 k i t0) s else if 1 = 2 then z.2.1 k i 2 + z_take (z.2.1 k i t0) s else z.2.1 k i 1) else z.2.1 k i 1).toInt ∧ (if k = a.toNatClampNeg then (if 0 = t0 then z.2.1 k i t0 - z_take (z.2.1 k i t0) s else if 0 = 2 then z.2.1 k i 2 + z_take (z.2.1 k i t0) s else z.2.1 k i 0) else z.2.1 k i 0).toInt + (if k = a.toNatClampNeg then (if 1 = t0 then z.2.1 k i t0 - z_take (z.2.1 k i t0) s else if 1 = 2 then z.2.1 k i 2 + z_take (z.2.1 k i t0) s else z.2.1 k i 1) else z.2.1 k i 1).toInt ≤ 9999
  by_cases e : k = a.toNatClampNeg
  · rw [if_pos e, if_pos e]
    match t0, ht with
    | 0, _ =>
      obtain ⟨b0, b1⟩ := z_take_b (v := z.2.1 k i 0) (s := s) m (by omega) s0 s1
      have es : (z.2.1 k i 0 - z_take (z.2.1 k i 0) s).toInt = (z.2.1 k i 0).toInt - (z_take (z.2.1 k i 0) s).toInt := j_subI (by omega) (by omega)
      rw [if_pos rfl, if_neg (by decide), if_neg (by decide), es]
      exact ⟨by omega, d, by omega⟩
    | 1, _ =>
      obtain ⟨b0, b1⟩ := z_take_b (v := z.2.1 k i 1) (s := s) d (by omega) s0 s1
      have es : (z.2.1 k i 1 - z_take (z.2.1 k i 1) s).toInt = (z.2.1 k i 1).toInt - (z_take (z.2.1 k i 1) s).toInt := j_subI (by omega) (by omega)
      rw [if_neg (by decide), if_neg (by decide), if_pos rfl, es]
      exact ⟨m, by omega, by omega⟩
    | n + 2, h => omega
  · rw [if_neg e, if_neg e]
    exact ⟨m, d, md⟩
theorem z_V.years {z : j_Z} {a : Int32} (v : z_V z) : z_V (n_years z a) := by
  refine ⟨v.1, v.2.1, fun k i hk hi => ?_, fun k hk => v.2.2.2 k (z_u1_lt (R' := z.2) (by decide) hk)⟩
  have hk : z_lt z 0 k := z_u1_lt (R' := z.2) (by decide) hk
  obtain ⟨m, d, md⟩ := v.2.2.1 k i hk hi
  have hp : 2 ≤ (z.1 (3 + i)).toInt := by
    have hi2 : i = 0 ∨ i = 1 := by omega
    rcases hi2 with rfl | rfl
    · exact v.1.1.1
    · exact v.1.2.1
  obtain ⟨b0, b1⟩ := z_left_b hp a.toNatClampNeg (z.2.1 k i 0) m
  have b0 : 0 ≤ (z_lf z a k i).toInt := b0
  have b1 : (z_lf z a k i).toInt ≤ (z.2.1 k i 0).toInt := b1
  show 0 ≤ (z_lf z a k i).toInt ∧ 0 ≤ (z.2.1 k i 1 + (z.2.1 k i 0 - z_lf z a k i)).toInt ∧ (z_lf z a k i).toInt + (z.2.1 k i 1 + (z.2.1 k i 0 - z_lf z a k i)).toInt ≤ 9999
  have e1 : (z.2.1 k i 0 - z_lf z a k i).toInt = (z.2.1 k i 0).toInt - (z_lf z a k i).toInt := j_subI (by omega) (by omega)
  have e2 : (z.2.1 k i 1 + (z.2.1 k i 0 - z_lf z a k i)).toInt = (z.2.1 k i 1).toInt + (z.2.1 k i 0 - z_lf z a k i).toInt := j_addI (by omega) (by omega)
  rw [e2, e1]
  exact ⟨b0, by omega, by omega⟩
theorem z_V.pace {z : j_Z} {a b : Int32} (v : z_V z) (hb : 2 ≤ b.toInt ∧ b.toInt ≤ 200) : z_V (n_pacez z a b) := by
  have up : ∀ i k, i < 3 → z_lt (n_pacez z a b) i k → z_lt z i k := fun i k hi h => z_u1_lt (R' := z.2) (by rcases j_pf34' a with ⟨_, q⟩ | ⟨_, q⟩ <;> rw [q] <;> omega) h
  refine ⟨?_, ?_, fun k i hk hi => v.2.2.1 k i (up 0 k (by decide) hk) hi, fun k hk => v.2.2.2 k (up 1 k (by decide) hk)⟩
  · show (2 ≤ (j_u1 z.1 (j_pf a) b 3).toInt ∧ (j_u1 z.1 (j_pf a) b 3).toInt ≤ 200) ∧ (2 ≤ (j_u1 z.1 (j_pf a) b 4).toInt ∧ (j_u1 z.1 (j_pf a) b 4).toInt ≤ 200)
    rcases j_pf34' a with ⟨_, q⟩ | ⟨_, q⟩
    · rw [q]; exact ⟨hb, v.1.2⟩
    · rw [q]; exact ⟨v.1.1, hb⟩
  · show 0 ≤ (j_u1 z.1 (j_pf a) b 5).toInt ∧ (j_u1 z.1 (j_pf a) b 5).toInt ≤ 9
    rcases j_pf34' a with ⟨_, q⟩ | ⟨_, q⟩
    · rw [q]; exact v.2.1
    · rw [q]; exact v.2.1
theorem z_V.slip {z : j_Z} {a : Int32} (v : z_V z) (ha : 0 ≤ a.toInt ∧ a.toInt ≤ 9) : z_V (n_slipz z a) :=
  ⟨v.1, ha, fun k i hk hi => v.2.2.1 k i (z_u1_lt (R' := z.2) (by decide) hk) hi, fun k hk => v.2.2.2 k (z_u1_lt (R' := z.2) (by decide) hk)⟩
theorem z_V.grain {z : j_Z} {a b c : Int32} (v : z_V z) (ha : 0 ≤ a.toInt ∧ a.toInt ≤ 9999) (hb : 0 ≤ b.toInt ∧ b.toInt ≤ 9999) (hs : (z.1 0).toInt < 100) : z_V (n_grainz z a b c) := by
  refine ⟨v.1, v.2.1, fun k i hk hi => ?_, fun k hk => v.2.2.2 k (z_u1_lt (R' := z.2) (by decide) hk)⟩
  have hk : (k : Int) < (z.1 0 + Int32.ofInt 1).toInt := hk
  have z0 : (Int32.ofInt 0).toInt = 0 := by decide
  show 0 ≤ (if k = (z.1 0).toNatClampNeg then (if 0 = 0 ∨ 0 = 3 then (if i = 0 then a else b) else Int32.ofInt 0) else z.2.1 k i 0).toInt ∧ 0 ≤ (if k = (z.1 0).toNatClampNeg then (if 1 = 0 ∨ 1 = 3 then (if i = 0 then a else b) else Int32.ofInt 0) else z.2.1 k i 1).toInt ∧ (if k = (z.1 0).toNatClampNeg then (if 0 = 0 ∨ 0 = 3 then (if i = 0 then a else b) else Int32.ofInt 0) else z.2.1 k i 0).toInt + (if k = (z.1 0).toNatClampNeg then (if 1 = 0 ∨ 1 = 3 then (if i = 0 then a else b) else Int32.ofInt 0) else z.2.1 k i 1).toInt ≤ 9999
  by_cases e : k = (z.1 0).toNatClampNeg
  · rw [if_pos e, if_pos e, if_pos (show (0 : Nat) = 0 ∨ (0 : Nat) = 3 from Or.inl rfl), if_neg (show ¬ ((1 : Nat) = 0 ∨ (1 : Nat) = 3) by decide), z0]
    by_cases i0 : i = 0
    · rw [if_pos i0]
      exact ⟨ha.1, Int.le_refl _, by omega⟩
    · rw [if_neg i0]
      exact ⟨hb.1, Int.le_refl _, by omega⟩
  · rw [if_neg e, if_neg e]
    rw [j_inc1 (by omega)] at hk
    exact v.2.2.1 k i (by unfold z_lt; have cl := j_clamp (i := z.1 0) (by omega); omega) hi
theorem z_V.run {z : j_Z} {a b c d : Int32} (v : z_V z) (ha : z_lt z 0 a.toNatClampNeg) (hb : b.toInt = 0 ∨ b.toInt = 1) (hc : -9 ≤ c.toInt ∧ c.toInt ≤ 9) (hd : -9 ≤ d.toInt ∧ d.toInt ≤ 9) (hs : (z.1 1).toInt < 100) : z_V (n_runF z a b c d) := by
  refine ⟨v.1, v.2.1, fun k i hk hi => v.2.2.1 k i (z_u1_lt (R' := z.2) (by decide) hk) hi, fun k hk => ?_⟩
  have hk : (k : Int) < (z.1 1 + Int32.ofInt 1).toInt := hk
  obtain ⟨m, d0, md⟩ := v.2.2.1 _ _ ha (z_ck2 (b := b))
  by_cases e : k = (z.1 1).toNatClampNeg
  · have f : ∀ j, (n_runF z a b c d).2.2.2.1 k j = (match j with
      | 0 => a
      | 1 => b
      | 2 => z_p0 (z.2.1 a.toNatClampNeg (z_ck b) 0 + c)
      | 3 => z_p0 (z.2.1 a.toNatClampNeg (z_ck b) 1 + d)
      | 4 => z.1 5
      | 5 => z.1 6
      | _ => Int32.ofInt 1) := fun j => if_pos e
    rw [f 1, f 2, f 3, f 4]
    exact ⟨hb, z_p0b m (by omega) hc.1 hc.2, z_p0b d0 (by omega) hd.1 hd.2, v.2.1⟩
  · have f : ∀ j, (n_runF z a b c d).2.2.2.1 k j = z.2.2.2.1 k j := fun j => if_neg e
    rw [f 1, f 2, f 3, f 4]
    rw [j_inc1 (by omega)] at hk
    exact v.2.2.2 k (by unfold z_lt; have cl := j_clamp (i := z.1 1) (by omega); omega)
theorem z_V.withdraw {z : j_Z} {a : Int32} (v : z_V z) : z_V (n_withdraw z a) := by
  refine ⟨v.1, v.2.1, fun k i hk hi => v.2.2.1 k i hk hi, fun k hk => ?_⟩
  have f : ∀ j, j ≠ 6 → (n_withdraw z a).2.2.2.1 k j = z.2.2.2.1 k j := fun j hj => by
    show (if k = a.toNatClampNeg then (if j = 6 then Int32.ofInt 0 else z.2.2.2.1 k j) else z.2.2.2.1 k j) = _
    rw [if_neg hj]
    by_cases e : k = a.toNatClampNeg
    · rw [if_pos e]
    · rw [if_neg e]
  rw [f 1 (by decide), f 2 (by decide), f 3 (by decide), f 4 (by decide)]
  exact v.2.2.2 k hk
theorem z_V.swap {z : j_Z} {a b : Int32} (v : z_V z) : z_V (n_swap z a b) := ⟨v.1, v.2.1, fun k i hk hi => v.2.2.1 k i hk hi, fun k hk => v.2.2.2 k hk⟩
theorem z_V.print {z : j_Z} {a b : Int32} (v : z_V z) : z_V (n_print z a b) :=
  ⟨v.1, v.2.1, fun k i hk hi => v.2.2.1 k i (z_u1_lt (R' := z.2) (by decide) hk) hi, fun k hk => v.2.2.2 k (z_u1_lt (R' := z.2) (by decide) hk)⟩
