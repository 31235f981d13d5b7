/-! ofPrint: word for word -/
/-- how many lie below a print -/
def z_lb (z : j_Z) : Nat → Nat → Int32
  | 0, _ => Int32.ofInt 0
  | n + 1, k => if k = n then (if (z.2.2.2.2 n 2).toInt < 0 then Int32.ofInt 0 else Int32.ofInt 1 + z_lb z n (z.2.2.2.2 n 2).toNatClampNeg) else z_lb z n k
def z_bl (z : j_Z) (k : Nat) : Int32 := z_lb z (k + 1) k
theorem z_lb_f {z : j_Z} : ∀ n q, q < n → z_lb z n q = z_bl z q := by
  intro n
  induction n with
  | zero => intro q h; omega
  | succ n ih =>
    intro q h
    by_cases e : q = n
    · rw [e]; rfl
    · show (if q = n then _ else z_lb z n q) = _
      rw [if_neg e]
      exact ih q (by omega)
theorem z_bl_0 {z : j_Z} {k : Nat} (h : (z.2.2.2.2 k 2).toInt < 0) : z_bl z k = Int32.ofInt 0 := (show z_bl z k = (if (z.2.2.2.2 k 2).toInt < 0 then Int32.ofInt 0 else Int32.ofInt 1 + z_lb z k (z.2.2.2.2 k 2).toNatClampNeg) from if_pos rfl).trans (if_pos h)
theorem z_bl_1 {z : j_Z} {k q : Nat} (h : (z.2.2.2.2 k 2).toInt = (q : Int)) (hq : q < k) : z_bl z k = Int32.ofInt 1 + z_bl z q := by
  refine (show z_bl z k = (if (z.2.2.2.2 k 2).toInt < 0 then Int32.ofInt 0 else Int32.ofInt 1 + z_lb z k (z.2.2.2.2 k 2).toNatClampNeg) from if_pos rfl).trans ?_
  have e : (z.2.2.2.2 k 2).toNatClampNeg = q := by have := j_clamp (i := z.2.2.2.2 k 2) (by omega); omega
  rw [if_neg (by omega), e, z_lb_f k q hq]
theorem z_bl_c {A B : j_Z} (e : z_eq A B) (P : ∀ k, z_lt A 2 k → z_lt A 1 (A.2.2.2.2 k 0).toNatClampNeg ∧ ((A.2.2.2.2 k 2).toInt < 0 ∨ (A.2.2.2.2 k 2).toNatClampNeg < k)) : ∀ n k, k < n → z_lt A 2 k → z_bl A k = z_bl B k := by
  intro n
  induction n with
  | zero => intro k h; omega
  | succ n ih =>
    intro k h hk
    have e2 := e.2.2.2.2 k 2 hk (by decide)
    by_cases q : (A.2.2.2.2 k 2).toInt < 0
    · rw [z_bl_0 q, z_bl_0 (by rw [← e2]; exact q)]
    · have hq : (A.2.2.2.2 k 2).toNatClampNeg < k := by
        rcases (P k hk).2 with z | z
        · exact absurd z q
        · exact z
      have c := j_clamp (i := A.2.2.2.2 k 2) (by omega)
      rw [z_bl_1 (q := (A.2.2.2.2 k 2).toNatClampNeg) (by omega) hq, z_bl_1 (z := B) (q := (A.2.2.2.2 k 2).toNatClampNeg) (by rw [← e2]; omega) hq, ih _ (by omega) (by unfold z_lt at hk ⊢; omega)]
def z_pq (z : j_Z) (k w : Nat) : Int32 := if w < 3 then z.2.2.2.2 k w else if w = 3 then z_b (z_st z k) else z_bl z k
noncomputable def q_ofPrint (z : j_Z) (a b : Int32) : Int := j_cq (0 ≤ a.toInt ∧ a.toInt < (z.1 2).toInt) (j_cq (0 ≤ b.toInt ∧ b.toInt ≤ 4) 0 2) 1
theorem z_pq_c {A B : j_Z} (e : z_eq A B) (P : ∀ k, z_lt A 2 k → z_lt A 1 (A.2.2.2.2 k 0).toNatClampNeg ∧ ((A.2.2.2.2 k 2).toInt < 0 ∨ (A.2.2.2.2 k 2).toNatClampNeg < k)) {k w : Nat} (hk : z_lt A 2 k) : z_pq A k w = z_pq B k w := by
  unfold z_pq
  rw [z_st_c e P (k + 1) k (Nat.lt_succ_self k) hk, z_bl_c e P (k + 1) k (Nat.lt_succ_self k) hk]
  by_cases h : w < 3
  · rw [if_pos h, if_pos h]
    exact e.2.2.2.2 k w hk h
  · rw [if_neg h, if_neg h]
theorem q_ofPrint_c {A B : j_Z} {a b : Int32} (e : z_eq A B) : q_ofPrint A a b = q_ofPrint B a b := by
  unfold q_ofPrint
  rw [e.1 2 (by decide)]
/-- what lies below, by the object's own reference -/
theorem z_on {h : j_H} {x k : Nat} (I : z_I h x) (hk : z_in h x 2 k) : (j_rf h (z_el h x 2 k) 3 = none ∧ z_cp h x k 2 = Int32.ofInt (-1)) ∨ ∃ q, q < k ∧ j_rf h (z_el h x 2 k) 3 = some (z_el h x 2 q) ∧ z_in h x 2 q ∧ z_cp h x k 2 = j_it h (z_el h x 2 q) 0 ∧ (z_cp h x k 2).toInt = (q : Int) := by
  rcases (I.1.2.2.2 k hk).2.2 with r | ⟨q, hq, r⟩
  · refine Or.inl ⟨r, ?_⟩
    show (match j_rf h (z_el h x 2 k) 3 with
      | none => Int32.ofInt (-1)
      | some b => j_it h b 0) = _
    rw [r]
  · have hin : z_in h x 2 q := by unfold z_in at hk ⊢; omega
    have e : z_cp h x k 2 = j_it h (z_el h x 2 q) 0 := by
      show (match j_rf h (z_el h x 2 k) 3 with
        | none => Int32.ofInt (-1)
        | some b => j_it h b 0) = _
      rw [r]
    exact Or.inr ⟨q, hq, r, hin, e, by rw [e]; exact (I.1.2.2.2 q hin).1⟩
set_option maxHeartbeats 4000000 in
set_option maxRecDepth 20000 in
theorem c_G_belowx {h : j_H} {x k p : Nat} (hW : j_WF h x) (I : z_I h x) (hk : z_in h x 2 k) (hp : z_el h x 2 k = p) : j_Ct 87 0 0 0 0 [j_r (some p)] h (fun v h' => h' = h ∧ v = some (j_i (z_bl (z_c h x) k))) j_no := by
  refine j_intro km_87 (Nat.le_of_ble_eq_true rfl) ?_
  intro J hJ hF
  have kp : j_kd h p = some (.inl 6) := by rw [← hp]; exact z_k2 hW hk
  have zm : (Int32.ofInt (-1)).toInt = -1 := by decide
  have Ln : ∀ (v : Int32), v = z_bl (z_c h x) k → J 7 [none, some (j_i v), some (j_r none)] [] h 0 0 := by
    intro v hv
    refine hJ [7] 400 _ _ _ _ _ _ ?_
    conv => whnf
    refine ⟨fun _ => ?_, fun _ z => nomatch z⟩
    conv => whnf
    exact ⟨trivial, ⟨Nat.le_of_ble_eq_true rfl, Nat.le_of_ble_eq_true rfl⟩, rfl, by rw [hv]⟩
  have Ls : ∀ (n q : Nat) (v : Int32), q < n → z_in h x 2 q → v + (Int32.ofInt 1 + z_bl (z_c h x) q) = z_bl (z_c h x) k → J 7 [none, some (j_i v), some (j_r (some (z_el h x 2 q)))] [] h 0 0 := by
    intro n
    induction n with
    | zero => intro q v hq; omega
    | succ n ih =>
      intro q v hq hin hv
      have kb := z_k2 hW hin
      refine hJ [7] 400 _ _ _ _ _ _ ?_
      conv => whnf
      refine ⟨fun z => (nomatch z), fun _ _ => ?_⟩
      conv => whnf
      refine ⟨_, rfl, kb, fun o eo => ?_⟩
      rcases z_on I hin with ⟨r, e2⟩ | ⟨q2, hq2, r, hin2, e2, n2⟩
      · obtain rfl : o = none := eo.symm.trans r
        exact j_use hF (Ln (v + Int32.ofInt 1) (by
          rw [z_bl_0 (z := z_c h x) (show (z_cp h x q 2).toInt < 0 by rw [e2, zm]; decide)] at hv
          rw [← hv]
          exact congrArg (v + ·) (Int32.add_zero _).symm)) (And.intro rfl (And.intro rfl trivial))
      · obtain rfl : o = some (z_el h x 2 q2) := eo.symm.trans r
        exact j_use hF (ih q2 (v + Int32.ofInt 1) (by omega) hin2 (by
          rw [z_bl_1 (z := z_c h x) (q := q2) n2 hq2] at hv
          rw [← hv, Int32.add_assoc])) (And.intro rfl (And.intro rfl trivial))
  refine hJ [7] 400 _ _ _ _ _ _ ?_
  conv => whnf
  refine ⟨_, rfl, kp, fun o eo => ?_⟩
  rcases z_on I hk with ⟨r, e2⟩ | ⟨q2, hq2, r, hin2, e2, n2⟩
  · rw [hp] at r
    obtain rfl : o = none := eo.symm.trans r
    exact j_use hF (Ln (Int32.ofInt 0) (z_bl_0 (z := z_c h x) (show (z_cp h x k 2).toInt < 0 by rw [e2, zm]; decide)).symm) (And.intro rfl (And.intro rfl trivial))
  · rw [hp] at r
    obtain rfl : o = some (z_el h x 2 q2) := eo.symm.trans r
    exact j_use hF (Ls (q2 + 1) q2 (Int32.ofInt 0) (Nat.lt_succ_self _) hin2 (by
      rw [z_bl_1 (z := z_c h x) (q := q2) n2 hq2]
      exact Int32.zero_add _)) (And.intro rfl (And.intro rfl trivial))
set_option maxHeartbeats 4000000 in
set_option maxRecDepth 20000 in
theorem c_G_printFactx {h : j_H} {x e k : Nat} {a : Int32} (hW : j_WF h x) (I : z_I h x) (hk : z_in h x 2 k) (he : z_el h x 2 k = e) (ha : 0 ≤ a.toInt ∧ a.toInt ≤ 4) : j_Ct 131 2 43 0 0 [j_r (some x), j_r (some e), j_i a] h (fun v h' => h' = h ∧ v = some (j_i (z_pq (z_c h x) k a.toNatClampNeg))) j_no := by
  refine j_intro km_131 (Nat.le_of_ble_eq_true rfl) ?_
  intro J hJ hF
  have kx := hW.1
  have ke : j_kd h e = some (.inl 6) := by rw [← he]; exact z_k2 hW hk
  obtain ⟨-, ⟨r', hr', r1⟩, -⟩ := I.1.2.2.2 k hk
  have kr := z_k1 hW hr'
  have r1' := r1
  rw [he] at r1
  refine hJ [] 400 _ _ _ _ _ _ ?_
  conv => whnf
  refine ⟨And.intro (fun c1 => ?_) (And.intro (fun c1 => ?_) (And.intro (fun c1 => ?_) (And.intro (fun c1 => ?_) (trivial)))), fun c1 => ?_⟩
  · have c1 : a.toInt = 0 := c1
    have ek : a.toNatClampNeg = 0 := by have := j_clamp (i := a) (by omega); omega
    conv => whnf
    refine ⟨_, rfl, ke, fun o2 eo => ?_⟩
    obtain rfl : o2 = some (z_el h x 1 r') := eo.symm.trans r1
    conv => whnf
    refine ⟨_, rfl, kr, fun x4 ex4 => ?_⟩
    obtain rfl : x4 = j_it h (z_el h x 1 r') 0 := ex4.symm
    conv => whnf
    refine ⟨trivial, ⟨Nat.le_of_ble_eq_true rfl, Nat.le_of_ble_eq_true rfl⟩, rfl, congrArg (fun r => some (j_i r)) ?_⟩
    rw [ek]
    show _ = j_it h ((j_rf h (z_el h x 2 k) 1).getD 0) 0
    rw [r1', Option.getD_some]
  · have c1 : a.toInt = 1 := c1
    have ek : a.toNatClampNeg = 1 := by have := j_clamp (i := a) (by omega); omega
    conv => whnf
    refine ⟨_, rfl, ke, fun x5 ex5 => ?_⟩
    obtain rfl : x5 = j_it h e 2 := ex5.symm
    conv => whnf
    refine ⟨trivial, ⟨Nat.le_of_ble_eq_true rfl, Nat.le_of_ble_eq_true rfl⟩, rfl, congrArg (fun r => some (j_i r)) ?_⟩
    rw [ek, ← he]
    rfl
  · have c1 : a.toInt = 2 := c1
    have ek : a.toNatClampNeg = 2 := by have := j_clamp (i := a) (by omega); omega
    conv => whnf
    refine ⟨_, rfl, ke, fun o6 eo => ?_⟩
    rcases z_on I hk with ⟨r, e2⟩ | ⟨q2, hq2, r, hin2, e2, n2⟩
    · rw [he] at r
      obtain rfl : o6 = none := eo.symm.trans r
      conv => whnf
      refine ⟨fun _ => ?_, fun _ z => nomatch z⟩
      conv => whnf
      refine ⟨trivial, ⟨Nat.le_of_ble_eq_true rfl, Nat.le_of_ble_eq_true rfl⟩, rfl, congrArg (fun r => some (j_i r)) ?_⟩
      rw [ek]
      exact (show z_pq (z_c h x) k 2 = z_cp h x k 2 from rfl).trans e2 |>.symm
    · rw [he] at r
      obtain rfl : o6 = some (z_el h x 2 q2) := eo.symm.trans r
      conv => whnf
      refine ⟨fun z => (nomatch z), fun _ _ => ?_⟩
      conv => whnf
      refine ⟨_, rfl, ke, fun o8 eo => ?_⟩
      obtain rfl : o8 = some (z_el h x 2 q2) := eo.symm.trans r
      conv => whnf
      refine ⟨_, rfl, z_k2 hW hin2, fun x9 ex9 => ?_⟩
      conv => whnf
      refine ⟨trivial, ⟨Nat.le_of_ble_eq_true rfl, Nat.le_of_ble_eq_true rfl⟩, rfl, congrArg (fun r => some (j_i r)) ?_⟩
      rw [ek]
      exact ex9.symm.trans ((show z_pq (z_c h x) k 2 = z_cp h x k 2 from rfl).trans e2).symm
  · have c1 : a.toInt = 3 := c1
    have ek : a.toNatClampNeg = 3 := by have := j_clamp (i := a) (by omega); omega
    conv => whnf
    refine ⟨kx, rfl, _, _, _, _, _, _, c_standx hW I (Or.inr ⟨_, hk, by rw [he], rfl⟩), ⟨Nat.le_of_ble_eq_true rfl, Nat.le_of_ble_eq_true rfl, Nat.le_of_ble_eq_true rfl, Nat.le_of_ble_eq_true rfl⟩, fun _ _ z => False.elim z, ?_⟩
    rintro v9 h9 ⟨e9, rfl⟩
    obtain rfl : h = h9 := e9.symm
    conv => whnf
    refine ⟨rfl, _, _, _, _, _, _, c_oneIfx, ⟨Nat.le_of_ble_eq_true rfl, Nat.le_of_ble_eq_true rfl, Nat.le_of_ble_eq_true rfl, Nat.le_of_ble_eq_true rfl⟩, fun _ _ z => False.elim z, ?_⟩
    rintro v9 h9 ⟨e9, rfl⟩
    obtain rfl : h = h9 := e9.symm
    conv => whnf
    refine ⟨trivial, ⟨Nat.le_of_ble_eq_true rfl, Nat.le_of_ble_eq_true rfl⟩, rfl, congrArg (fun r => some (j_i r)) ?_⟩
    show (if (z_b (z_st (z_c h x) k)).toInt = 0 then Int32.ofInt 0 else Int32.ofInt 1) = _
    rw [z_bi, ek]
    rfl
  · have c1 : a.toInt < 0 ∨ 3 < a.toInt := c1
    have ek : a.toNatClampNeg = 4 := by have := j_clamp (i := a) (by omega); omega
    conv => whnf
    refine ⟨rfl, _, _, _, _, _, _, c_G_belowx hW I hk he, ⟨Nat.le_of_ble_eq_true rfl, Nat.le_of_ble_eq_true rfl, Nat.le_of_ble_eq_true rfl, Nat.le_of_ble_eq_true rfl⟩, fun _ _ z => False.elim z, ?_⟩
    rintro v9 h9 ⟨e9, rfl⟩
    obtain rfl : h = h9 := e9.symm
    conv => whnf
    refine ⟨trivial, ⟨Nat.le_of_ble_eq_true rfl, Nat.le_of_ble_eq_true rfl⟩, rfl, congrArg (fun r => some (j_i r)) ?_⟩
    rw [ek]
    rfl
set_option maxHeartbeats 4000000 in
set_option maxRecDepth 20000 in
theorem c_G_ofPrintx {h : j_H} {x : Nat} {a b : Int32} (hW : j_WF h x) (I : z_I h x) : j_Ct 123 6 90 1 6 [j_r (some x), j_i a, j_i b] h (fun v h' => ((0 ≤ a.toInt ∧ a.toInt < (j_sz h x 2).toInt) ∧ (0 ≤ b.toInt ∧ b.toInt ≤ 4)) ∧ v = some (j_i (z_pq (z_c h x) a.toNatClampNeg b.toNatClampNeg)) ∧ h' = h) (fun k h' => ((k = 2 ∧ ¬ (0 ≤ a.toInt ∧ a.toInt < (j_sz h x 2).toInt)) ∨ (k = 0 ∧ (0 ≤ a.toInt ∧ a.toInt < (j_sz h x 2).toInt) ∧ ¬ (0 ≤ b.toInt ∧ b.toInt ≤ 4))) ∧ h' = h) := by
  refine j_intro km_123 (Nat.le_of_ble_eq_true rfl) ?_
  intro J hJ hF
  obtain ⟨kx, hG, L0, L1, L2, e0, l0, e1, l1, e2, l2, ap, pn⟩ := id hW
  have z0 : (Int32.ofInt 0).toInt = 0 := by decide
  have z1 : (Int32.ofInt 1).toInt = 1 := by decide
  have z100 : (Int32.ofInt 4).toInt = 4 := by decide
  have eG : j_sz h x 2 = j_it h L2 2 := j_sz_e e2
  refine hJ [] 400 _ _ _ _ _ _ ?_
  conv => whnf
  refine ⟨kx, rfl, _, _, _, _, _, _, c_isPrintx hW e2, ⟨Nat.le_of_ble_eq_true rfl, Nat.le_of_ble_eq_true rfl, Nat.le_of_ble_eq_true rfl, Nat.le_of_ble_eq_true rfl⟩, fun _ _ z => False.elim z, ?_⟩
  rintro v9 h9 ⟨e9, r1, rfl, zr1⟩
  obtain rfl : h = h9 := e9.symm
  conv => whnf
  refine ⟨fun c3 => ?_, fun c3 => ?_⟩
  rotate_left
  · have c3 : ¬ ¬ r1.toInt = 0 := c3
    have ka : ¬ (0 ≤ a.toInt ∧ a.toInt < (j_sz h x 2).toInt) := by
      rw [eG]
      rcases zr1 with ⟨-, q⟩ | ⟨q, -⟩
      · rw [q, z1] at c3; exact absurd (by decide) c3
      · exact q
    conv => whnf
    exact ⟨⟨Nat.le_of_ble_eq_true rfl, Nat.le_of_ble_eq_true rfl⟩, ⟨Nat.le_of_ble_eq_true rfl, Nat.le_of_ble_eq_true rfl⟩, Or.inl ⟨rfl, ka⟩, rfl⟩
  have c3 : ¬ r1.toInt = 0 := c3
  have ka : 0 ≤ a.toInt ∧ a.toInt < (j_sz h x 2).toInt := by
    rw [eG]
    rcases zr1 with ⟨q, -⟩ | ⟨-, q⟩
    · exact q
    · rw [q, z0] at c3; exact absurd rfl c3
  have ka' : 0 ≤ a.toInt ∧ a.toInt < (j_it h L2 2).toInt := by rw [← eG]; exact ka
  have hin : z_in h x 2 a.toNatClampNeg := by unfold z_in; rw [j_clamp ka.1]; exact ka.2
  conv => whnf
  refine ⟨rfl, _, _, _, _, _, _, c_within, ⟨Nat.le_of_ble_eq_true rfl, Nat.le_of_ble_eq_true rfl, Nat.le_of_ble_eq_true rfl, Nat.le_of_ble_eq_true rfl⟩, fun _ _ z => False.elim z, ?_⟩
  rintro v9 h9 ⟨e9, r4, rfl, zr4⟩
  obtain rfl : h = h9 := e9.symm
  conv => whnf
  refine ⟨fun c5 => ?_, fun c5 => ?_⟩
  rotate_left
  · have c5 : ¬ ¬ r4.toInt = 0 := c5
    have kb : ¬ (0 ≤ b.toInt ∧ b.toInt ≤ 4) := by
      rcases zr4 with ⟨-, -, q⟩ | ⟨q, -⟩
      · rw [q, z1] at c5; exact absurd (by decide) c5
      · intro z
        refine q ⟨?_, ?_⟩
        · show (Int32.ofInt 0).toInt ≤ _; rw [z0]; exact z.1
        · show _ ≤ (Int32.ofInt 4).toInt; rw [z100]; exact z.2
    conv => whnf
    exact ⟨⟨Nat.le_of_ble_eq_true rfl, Nat.le_of_ble_eq_true rfl⟩, ⟨Nat.le_of_ble_eq_true rfl, Nat.le_of_ble_eq_true rfl⟩, Or.inr ⟨rfl, ka, kb⟩, rfl⟩
  have c5 : ¬ r4.toInt = 0 := c5
  have kb : 0 ≤ b.toInt ∧ b.toInt ≤ 4 := by
    rcases zr4 with ⟨q1, q2, -⟩ | ⟨-, q⟩
    · have q1 : (Int32.ofInt 0).toInt ≤ b.toInt := q1
      have q2 : b.toInt ≤ (Int32.ofInt 4).toInt := q2
      rw [z0] at q1
      rw [z100] at q2
      exact ⟨q1, q2⟩
    · rw [q, z0] at c5; exact absurd rfl c5
  conv => whnf
  refine ⟨_, rfl, kx, fun o6 eo => ?_⟩
  obtain rfl : o6 = some L2 := eo.symm.trans e2
  conv => whnf
  refine ⟨l2.1, rfl, _, _, _, _, _, _, c_AL_get (h := h) l2 j_Sc.rf j_sf_ok ka'.1 ka'.2, ⟨Nat.le_of_ble_eq_true rfl, Nat.le_of_ble_eq_true rfl, Nat.le_of_ble_eq_true rfl, Nat.le_of_ble_eq_true rfl⟩, fun _ _ z => False.elim z, ?_⟩
  rintro v9 h9 ⟨e9, e, rfl, ke, xg7⟩
  obtain rfl : h = h9 := e9.symm
  have he : z_el h x 2 a.toNatClampNeg = e := z_el_get e2 xg7
  conv => whnf
  refine ⟨Or.inr ⟨_, rfl, ke⟩, ?_⟩
  conv => whnf
  refine ⟨kx, rfl, _, _, _, _, _, _, c_G_printFactx hW I hin he kb, ⟨Nat.le_of_ble_eq_true rfl, Nat.le_of_ble_eq_true rfl, Nat.le_of_ble_eq_true rfl, Nat.le_of_ble_eq_true rfl⟩, fun _ _ z => False.elim z, ?_⟩
  rintro v9 h9 ⟨e9, rfl⟩
  obtain rfl : h = h9 := e9.symm
  conv => whnf
  exact ⟨trivial, ⟨Nat.le_of_ble_eq_true rfl, Nat.le_of_ble_eq_true rfl⟩, ⟨ka, kb⟩, rfl, rfl⟩
set_option maxHeartbeats 4000000 in
set_option maxRecDepth 20000 in
theorem c_Lw_ofPrintx {h : j_H} {x out : Nat} {a b : Int32} (hW : j_WF h x) (I : z_I h x) (ko : j_kd h out = some (.inl 9)) : j_Ct 239 7 112 1 6 [j_r (some x), j_i a, j_i b, j_r (some out)] h (z_LQ x out h (q_ofPrint (z_c h x) a b) (z_pq (z_c h x) a.toNatClampNeg b.toNatClampNeg) (z_c h x)) j_no := by
  refine j_intro km_239 (Nat.le_of_ble_eq_true rfl) ?_
  intro J hJ hF
  refine hJ [] 400 _ _ _ _ _ _ ?_
  conv => whnf
  refine ⟨hW.1, rfl, _, _, _, _, _, _, c_G_ofPrintx hW I, ⟨Nat.le_of_ble_eq_true rfl, Nat.le_of_ble_eq_true rfl, Nat.le_of_ble_eq_true rfl, Nat.le_of_ble_eq_true rfl⟩, ?_, ?_⟩
  · rintro k9 h9 ⟨hk, e9⟩
    obtain rfl : h = h9 := e9.symm
    rcases hk with ⟨rfl, c1⟩ | ⟨rfl, c1, c2⟩
    · conv => whnf
      intro a9
      conv => whnf
      exact ⟨trivial, ⟨Nat.le_of_ble_eq_true rfl, Nat.le_of_ble_eq_true rfl⟩, z_LQ.no hW I (j_cqn c1) (by decide)⟩
    · conv => whnf
      intro a9
      conv => whnf
      exact ⟨trivial, ⟨Nat.le_of_ble_eq_true rfl, Nat.le_of_ble_eq_true rfl⟩, z_LQ.no hW I ((j_cqp c1).trans (j_cqn c2)) (by decide)⟩
  · rintro v9 h9 ⟨⟨c1, c2⟩, rfl, e9⟩
    obtain rfl : h = h9 := e9.symm
    conv => whnf
    refine ⟨_, rfl, ko, ?_⟩
    conv => whnf
    exact ⟨trivial, ⟨Nat.le_of_ble_eq_true rfl, Nat.le_of_ble_eq_true rfl⟩, z_LQ.ok ko ((j_cqp c1).trans (j_cqp c2)) ⟨hW, j_On.rf, fun _ z _ => z⟩ I z_eq.rf⟩
