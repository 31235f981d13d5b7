/-! ofPrint: word for word -/
/-- how many lie below a print -/
def z_lb (z : j_Z) : Nat → Nat → Int32
  | 0, _ => Int32.ofInt 0
  | n + 1, k => if k = n then (if (z.2.2.2.2 n 2).toInt < 0 then Int32.ofInt 0 else Int32.ofInt 1 + z_lb z n (z.2.2.2.2 n 2).toNatClampNeg) else z_lb z n k
def z_bl (z : j_Z) (k : Nat) : Int32 := z_lb z (k + 1) k
theorem z_lb_f {z : j_Z} : ∀ n q, q < n → z_lb z n q = z_bl z q := by
  intro n
  induction n with
  | zero => intro q h; omega
  | succ n ih =>
    intro q h
    by_cases e : q = n
    · rw [e]; rfl
    · show (if q = n then _ else z_lb z n q) = _
      rw [if_neg e]
      exact ih q (by omega)
theorem z_bl_0 {z : j_Z} {k : Nat} (h : (z.2.2.2.2 k 2).toInt < 0) : z_bl z k = Int32.ofInt 0 := (show z_bl z k = (if (z.2.2.2.2 k 2).toInt < 0 then Int32.ofInt 0 else Int32.ofInt 1 + z_lb z k (z.2.2.2.2 k 2).toNatClampNeg) from if_pos rfl).trans (if_pos h)
theorem z_bl_1 {z : j_Z} {k q : Nat} (h : (z.2.2.2.2 k 2).toInt = (q : Int)) (hq : q < k) : z_bl z k = Int32.ofInt 1 + z_bl z q := by
  refine (show z_bl z k = (if (z.2.2.2.2 k 2).toInt < 0 then Int32.ofInt 0 else Int32.ofInt 1 + z_lb z k (z.2.2.2.2 k 2).toNatClampNeg) from if_pos rfl).trans ?_
  have e : (z.2.2.2.2 k 2).toNatClampNeg = q := by have := j_clamp (i := z.2.2.2.2 k 2) (by omega); omega
  rw [if_neg (by omega), e, z_lb_f k q hq]
theorem z_bl_c {A B : j_Z} (e : z_eq A B) (P : ∀ k, z_lt A 2 k → z_lt A 1 (A.2.2.2.2 k 0).toNatClampNeg ∧ ((A.2.2.2.2 k 2).toInt < 0 ∨ (A.2.2.2.2 k 2).toNatClampNeg < k)) : ∀ n k, k < n → z_lt A 2 k → z_bl A k = z_bl B k := by
  intro n
  induction n with
  | zero => intro k h; omega
  | succ n ih =>
    intro k h hk
    have e2 := e.2.2.2.2 k 2 hk (by decide)
    by_cases q : (A.2.2.2.2 k 2).toInt < 0
    · rw [z_bl_0 q, z_bl_0 (by rw [← e2]; exact q)]
    · have hq : (A.2.2.2.2 k 2).toNatClampNeg < k := by
        rcases (P k hk).2 with z | z
        · exact absurd z q
        · exact z
      have c := j_clamp (i := A.2.2.2.2 k 2) (by omega)
      rw [z_bl_1 (q := (A.2.2.2.2 k 2).toNatClampNeg) (by omega) hq, z_bl_1 (z := B) (q := (A.2.2.2.2 k 2).toNatClampNeg) (by rw [← e2]; omega) hq, ih _ (by omega) (by unfold z_lt at hk ⊢; omega)]
def z_pq (z : j_Z) (k w : Nat) : Int32 := if w < 3 then z.2.2.2.2 k w else if w = 3 then z_b (z_st z k) else z_bl z k
theorem z_pq_c {A B : j_Z} (e : z_eq A B) (P : ∀ k, z_lt A 2 k → z_lt A 1 (A.2.2.2.2 k 0).toNatClampNeg ∧ ((A.2.2.2.2 k 2).toInt < 0 ∨ (A.2.2.2.2 k 2).toNatClampNeg < k)) {k w : Nat} (hk : z_lt A 2 k) : z_pq A k w = z_pq B k w := by
  unfold z_pq
  rw [z_st_c e P (k + 1) k (Nat.lt_succ_self k) hk, z_bl_c e P (k + 1) k (Nat.lt_succ_self k) hk]
  by_cases h : w < 3
  · rw [if_pos h, if_pos h]
    exact e.2.2.2.2 k w hk h
  · rw [if_neg h, if_neg h]
/-- what lies below, by the object's own reference -/
theorem z_on {h : j_H} {x k : Nat} (I : z_I h x) (hk : z_in h x 2 k) : (j_rf h (z_el h x 2 k) 3 = none ∧ z_cp h x k 2 = Int32.ofInt (-1)) ∨ ∃ q, q < k ∧ j_rf h (z_el h x 2 k) 3 = some (z_el h x 2 q) ∧ z_in h x 2 q ∧ z_cp h x k 2 = j_it h (z_el h x 2 q) 0 ∧ (z_cp h x k 2).toInt = (q : Int) := by
  rcases (I.1.2.2.2 k hk).2.2 with r | ⟨q, hq, r⟩
  · refine Or.inl ⟨r, ?_⟩
    show (match j_rf h (z_el h x 2 k) 3 with
      | none => Int32.ofInt (-1)
      | some b => j_it h b 0) = _
    rw [r]
  · have hin : z_in h x 2 q := by unfold z_in at hk ⊢; omega
    have e : z_cp h x k 2 = j_it h (z_el h x 2 q) 0 := by
      show (match j_rf h (z_el h x 2 k) 3 with
        | none => Int32.ofInt (-1)
        | some b => j_it h b 0) = _
      rw [r]
    exact Or.inr ⟨q, hq, r, hin, e, by rw [e]; exact (I.1.2.2.2 q hin).1⟩
set_option maxHeartbeats 4000000 in
set_option maxRecDepth 20000 in
theorem c_G_belowx {h : j_H} {x k p : Nat} (hW : j_WF h x) (I : z_I h x) (hk : z_in h x 2 k) (hp : z_el h x 2 k = p) : j_Ct 87 0 0 0 0 [j_r (some p)] h (fun v h' => h' = h ∧ v = some (j_i (z_bl (z_c h x) k))) j_no := by
  refine j_intro km_87 (Nat.le_of_ble_eq_true rfl) ?_
  intro J hJ hF
  have kp : j_kd h p = some (.inl 6) := by rw [← hp]; exact z_k2 hW hk
  have zm : (Int32.ofInt (-1)).toInt = -1 := by decide
  have Ln : ∀ (v : Int32), v = z_bl (z_c h x) k → J 7 [none, some (j_i v), some (j_r none)] [] h 0 0 := by
    intro v hv
    refine hJ [7] 400 _ _ _ _ _ _ ?_
    conv => whnf
    refine ⟨fun _ => ?_, fun _ z => nomatch z⟩
    conv => whnf
    exact ⟨trivial, ⟨Nat.le_of_ble_eq_true rfl, Nat.le_of_ble_eq_true rfl⟩, rfl, by rw [hv]⟩
  have Ls : ∀ (n q : Nat) (v : Int32), q < n → z_in h x 2 q → v + (Int32.ofInt 1 + z_bl (z_c h x) q) = z_bl (z_c h x) k → J 7 [none, some (j_i v), some (j_r (some (z_el h x 2 q)))] [] h 0 0 := by
    intro n
    induction n with
    | zero => intro q v hq; omega
    | succ n ih =>
      intro q v hq hin hv
      have kb := z_k2 hW hin
      refine hJ [7] 400 _ _ _ _ _ _ ?_
      conv => whnf
      refine ⟨fun z => (nomatch z), fun _ _ => ?_⟩
      conv => whnf
      refine ⟨_, rfl, kb, fun o eo => ?_⟩
      rcases z_on I hin with ⟨r, e2⟩ | ⟨q2, hq2, r, hin2, e2, n2⟩
      · obtain rfl : o = none := eo.symm.trans r
        exact j_use hF (Ln (v + Int32.ofInt 1) (by
          rw [z_bl_0 (z := z_c h x) (show (z_cp h x q 2).toInt < 0 by rw [e2, zm]; decide)] at hv
          rw [← hv]
          exact congrArg (v + ·) (Int32.add_zero _).symm)) (And.intro rfl (And.intro rfl trivial))
      · obtain rfl : o = some (z_el h x 2 q2) := eo.symm.trans r
        exact j_use hF (ih q2 (v + Int32.ofInt 1) (by omega) hin2 (by
          rw [z_bl_1 (z := z_c h x) (q := q2) n2 hq2] at hv
          rw [← hv, Int32.add_assoc])) (And.intro rfl (And.intro rfl trivial))
  refine hJ [7] 400 _ _ _ _ _ _ ?_
  conv => whnf
  refine ⟨_, rfl, kp, fun o eo => ?_⟩
  rcases z_on I hk with ⟨r, e2⟩ | ⟨q2, hq2, r, hin2, e2, n2⟩
  · rw [hp] at r
    obtain rfl : o = none := eo.symm.trans r
    exact j_use hF (Ln (Int32.ofInt 0) (z_bl_0 (z := z_c h x) (show (z_cp h x k 2).toInt < 0 by rw [e2, zm]; decide)).symm) (And.intro rfl (And.intro rfl trivial))
  · rw [hp] at r
    obtain rfl : o = some (z_el h x 2 q2) := eo.symm.trans r
    exact j_use hF (Ls (q2 + 1) q2 (Int32.ofInt 0) (Nat.lt_succ_self _) hin2 (by
      rw [z_bl_1 (z := z_c h x) (q := q2) n2 hq2]
      exact Int32.zero_add _)) (And.intro rfl (And.intro rfl trivial))
set_option maxHeartbeats 4000000 in
set_option maxRecDepth 20000 in
theorem c_G_printFactx {h : j_H} {x e k : Nat} {a : Int32} (hW : j_WF h x) (I : z_I h x) (hk : z_in h x 2 k) (he : z_el h x 2 k = e) (ha : 0 ≤ a.toInt ∧ a.toInt ≤ 4) : j_Ct 131 2 43 0 0 [j_r (some x), j_r (some e), j_i a] h (fun v h' => h' = h ∧ v = some (j_i (z_pq (z_c h x) k a.toNatClampNeg))) j_no := by
  refine j_intro km_131 (Nat.le_of_ble_eq_true rfl) ?_
  intro J hJ hF
  have kx := hW.1
  have ke : j_kd h e = some (.inl 6) := by rw [← he]; exact z_k2 hW hk
  obtain ⟨-, ⟨r', hr', r1⟩, -⟩ := I.1.2.2.2 k hk
  have kr := z_k1 hW hr'
  have r1' := r1
  rw [he] at r1
  refine hJ [] 400 _ _ _ _ _ _ ?_
  conv => whnf
  refine ⟨And.intro (fun c1 => ?_) (And.intro (fun c1 => ?_) (And.intro (fun c1 => ?_) (And.intro (fun c1 => ?_) (trivial)))), fun c1 => ?_⟩
  · have c1 : a.toInt = 0 := c1
    have ek : a.toNatClampNeg = 0 := by have := j_clamp (i := a) (by omega); omega
    conv => whnf
    refine ⟨_, rfl, ke, fun o2 eo => ?_⟩
    obtain rfl : o2 = some (z_el h x 1 r') := eo.symm.trans r1
    conv => whnf
    refine ⟨_, rfl, kr, fun x4 ex4 => ?_⟩
    obtain rfl : x4 = j_it h (z_el h x 1 r') 0 := ex4.symm
    conv => whnf
    refine ⟨trivial, ⟨Nat.le_of_ble_eq_true rfl, Nat.le_of_ble_eq_true rfl⟩, rfl, congrArg (fun r => some (j_i r)) ?_⟩
    rw [ek]
    show _ = j_it h ((j_rf h (z_el h x 2 k) 1).getD 0) 0
    rw [r1', Option.getD_some]
  · have c1 : a.toInt = 1 := c1
    have ek : a.toNatClampNeg = 1 := by have := j_clamp (i := a) (by omega); omega
    conv => whnf
    refine ⟨_, rfl, ke, fun x5 ex5 => ?_⟩
    obtain rfl : x5 = j_it h e 2 := ex5.symm
    conv => whnf
    refine ⟨trivial, ⟨Nat.le_of_ble_eq_true rfl, Nat.le_of_ble_eq_true rfl⟩, rfl, congrArg (fun r => some (j_i r)) ?_⟩
    rw [ek, ← he]
    rfl
  · have c1 : a.toInt = 2 := c1
    have ek : a.toNatClampNeg = 2 := by have := j_clamp (i := a) (by omega); omega
    conv => whnf
    refine ⟨_, rfl, ke, fun o6 eo => ?_⟩
    rcases z_on I hk with ⟨r, e2⟩ | ⟨q2, hq2, r, hin2, e2, n2⟩
    · rw [he] at r
      obtain rfl : o6 = none := eo.symm.trans r
      conv => whnf
      refine ⟨fun _ => ?_, fun _ z => nomatch z⟩
      conv => whnf
      refine ⟨trivial, ⟨Nat.le_of_ble_eq_true rfl, Nat.le_of_ble_eq_true rfl⟩, rfl, congrArg (fun r => some (j_i r)) ?_⟩
      rw [ek]
      exact (show z_pq (z_c h x) k 2 = z_cp h x k 2 from rfl).trans e2 |>.symm
    · rw [he] at r
      obtain rfl : o6 = some (z_el h x 2 q2) := eo.symm.trans r
      conv => whnf
      refine ⟨fun z => (nomatch z), fun _ _ => ?_⟩
      conv => whnf
      refine ⟨_, rfl, ke, fun o8 eo => ?_⟩
      obtain rfl : o8 = some (z_el h x 2 q2) := eo.symm.trans r
      conv => whnf
      refine ⟨_, rfl, z_k2 hW hin2, fun x9 ex9 => ?_⟩
      conv => whnf
      refine ⟨trivial, ⟨Nat.le_of_ble_eq_true rfl, Nat.le_of_ble_eq_true rfl⟩, rfl, congrArg (fun r => some (j_i r)) ?_⟩
      rw [ek]
      exact ex9.symm.trans ((show z_pq (z_c h x) k 2 = z_cp h x k 2 from rfl).trans e2).symm
  · have c1 : a.toInt = 3 := c1
    have ek : a.toNatClampNeg = 3 := by have := j_clamp (i := a) (by omega); omega
    conv => whnf
    refine ⟨kx, rfl, _, _, _, _, _, _, c_standx hW I (Or.inr ⟨_, hk, by rw [he], rfl⟩), ⟨Nat.le_of_ble_eq_true rfl, Nat.le_of_ble_eq_true rfl, Nat.le_of_ble_eq_true rfl, Nat.le_of_ble_eq_true rfl⟩, fun _ _ z => False.elim z, ?_⟩
    rintro v9 h9 ⟨e9, rfl⟩
    obtain rfl : h = h9 := e9.symm
    conv => whnf
    refine ⟨rfl, _, _, _, _, _, _, c_oneIfx, ⟨Nat.le_of_ble_eq_true rfl, Nat.le_of_ble_eq_true rfl, Nat.le_of_ble_eq_true rfl, Nat.le_of_ble_eq_true rfl⟩, fun _ _ z => False.elim z, ?_⟩
    rintro v9 h9 ⟨e9, rfl⟩
    obtain rfl : h = h9 := e9.symm
    conv => whnf
    refine ⟨trivial, ⟨Nat.le_of_ble_eq_true rfl, Nat.le_of_ble_eq_true rfl⟩, rfl, congrArg (fun r => some (j_i r)) ?_⟩
    show (if (z_b (z_st (z_c h x) k)).toInt = 0 then Int32.ofInt 0 else Int32.ofInt 1) = _
    rw [z_bi, ek]
    rfl
  · have c1 : a.toInt < 0 ∨ 3 < a.toInt := c1
    have ek : a.toNatClampNeg = 4 := by have := j_clamp (i := a) (by omega); omega
    conv => whnf
    refine ⟨rfl, _, _, _, _, _, _, c_G_belowx hW I hk he, ⟨Nat.le_of_ble_eq_true rfl, Nat.le_of_ble_eq_true rfl, Nat.le_of_ble_eq_true rfl, Nat.le_of_ble_eq_true rfl⟩, fun _ _ z => False.elim z, ?_⟩
    rintro v9 h9 ⟨e9, rfl⟩
    obtain rfl : h = h9 := e9.symm
    conv => whnf
    refine ⟨trivial, ⟨Nat.le_of_ble_eq_true rfl, Nat.le_of_ble_eq_true rfl⟩, rfl, congrArg (fun r => some (j_i r)) ?_⟩
    rw [ek]
    rfl
