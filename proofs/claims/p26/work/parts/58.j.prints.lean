/-! prints that stand; a run withdrawn: word for word -/
/-- the run of a print stands, and its pace is that of now -/
def z_one (z : j_Z) (k : Nat) : Bool := decide (¬ (z.2.2.2.1 (z.2.2.2.2 k 0).toNatClampNeg 6).toInt = 0) && decide ((z.2.2.2.2 k 1).toInt = (z.1 (j_pf (z.2.2.2.1 (z.2.2.2.2 k 0).toNatClampNeg 1))).toInt)
def z_tb (z : j_Z) : Nat → Nat → Bool
  | 0, _ => true
  | n + 1, k => if k = n then (z_one z n && (if (z.2.2.2.2 n 2).toInt < 0 then true else z_tb z n (z.2.2.2.2 n 2).toNatClampNeg)) else z_tb z n k
/-- a print stands -/
def z_st (z : j_Z) (k : Nat) : Bool := z_tb z (k + 1) k
theorem z_tb_f {z : j_Z} : ∀ n q, q < n → z_tb z n q = z_st z q := by
  intro n
  induction n with
  | zero => intro q h; omega
  | succ n ih =>
    intro q h
    by_cases e : q = n
    · rw [e]; rfl
    · show (if q = n then _ else z_tb z n q) = _
      rw [if_neg e]
      exact ih q (by omega)
theorem z_st_e {z : j_Z} (k : Nat) : z_st z k = (z_one z k && (if (z.2.2.2.2 k 2).toInt < 0 then true else z_tb z k (z.2.2.2.2 k 2).toNatClampNeg)) := if_pos rfl
/-- one by one, how many -/
def z_cnt (f : Nat → Bool) : Nat → Int32
  | 0 => Int32.ofInt 0
  | n + 1 => z_cnt f n + (if f n = true then Int32.ofInt 1 else Int32.ofInt 0)
def z_b (b : Bool) : Int32 := if b = true then Int32.ofInt 1 else Int32.ofInt 0
theorem z_cnt_c {f g : Nat → Bool} : ∀ n, (∀ k, k < n → f k = g k) → z_cnt f n = z_cnt g n := by
  intro n
  induction n with
  | zero => intro _; rfl
  | succ n ih =>
    intro h
    show z_cnt f n + _ = z_cnt g n + _
    rw [ih (fun k hk => h k (by omega)), h n (by omega)]
/-- what x holds of a print, read -/
theorem z_pr {h : j_H} {x k e : Nat} (w : j_WF h x) (I : z_I h x) (hk : z_in h x 2 k) (he : z_el h x 2 k = e) : ∃ r, z_in h x 1 r ∧ j_rf h e 1 = some (z_el h x 1 r) ∧ (z_cp h x k 0).toNatClampNeg = r ∧ z_cr h x r 6 = j_it h (z_el h x 1 r) 7 ∧ z_cr h x r 1 = j_it h (z_el h x 1 r) 1 ∧ z_cp h x k 1 = j_it h e 2 ∧ ((j_rf h e 3 = none ∧ (z_cp h x k 2).toInt < 0) ∨ ∃ q, q < k ∧ z_in h x 2 q ∧ j_rf h e 3 = some (z_el h x 2 q) ∧ ¬ (z_cp h x k 2).toInt < 0 ∧ (z_cp h x k 2).toNatClampNeg = q) := by
  obtain ⟨a, ⟨r, r1, r2⟩, b⟩ := I.1.2.2.2 k hk
  have n1 := (I.1.2.2.1 r r1).1
  have cp0 : z_cp h x k 0 = j_it h (z_el h x 1 r) 0 := by
    show j_it h ((j_rf h (z_el h x 2 k) 1).getD 0) 0 = _
    rw [r2, Option.getD_some]
  refine ⟨r, r1, by rw [← he]; exact r2, ?_, rfl, rfl, by rw [← he]; rfl, ?_⟩
  · have cl := j_clamp (i := z_cp h x k 0) (by rw [cp0, n1]; omega)
    rw [cp0, n1] at cl
    rw [cp0]
    omega
  · rw [← he]
    rcases b with b | ⟨q, q1, q2⟩
    · refine Or.inl ⟨b, ?_⟩
      have : z_cp h x k 2 = Int32.ofInt (-1) := by
        show (match j_rf h (z_el h x 2 k) 3 with | none => Int32.ofInt (-1) | some b => j_it h b 0) = _
        rw [b]
      rw [this]
      decide
    · have hq : z_in h x 2 q := by unfold z_in at hk ⊢; omega
      have nq := (I.1.2.2.2 q hq).1
      have c2 : z_cp h x k 2 = j_it h (z_el h x 2 q) 0 := by
        show (match j_rf h (z_el h x 2 k) 3 with | none => Int32.ofInt (-1) | some b => j_it h b 0) = _
        rw [q2]
      have cl := j_clamp (i := z_cp h x k 2) (by rw [c2, nq]; omega)
      rw [c2, nq] at cl
      exact Or.inr ⟨q, q1, hq, q2, by rw [c2, nq]; omega, by rw [c2]; omega⟩
set_option maxHeartbeats 4000000 in
set_option maxRecDepth 20000 in
theorem c_standx {h : j_H} {x : Nat} {p : Option Nat} {T : Bool} (hW : j_WF h x) (I : z_I h x) (kp : (p = none ∧ T = true) ∨ ∃ k, z_in h x 2 k ∧ p = some (z_el h x 2 k) ∧ T = z_st (z_c h x) k) : j_Ct 82 1 21 0 0 [j_r (some x), j_r p] h (fun v h' => h' = h ∧ v = some (j_i (z_b T))) j_no := by
  refine j_intro km_82 (Nat.le_of_ble_eq_true rfl) ?_
  intro J hJ hF
  have kx := hW.1
  have Ln : T = true → J 2 [none, none, some (j_r none)] [] h 0 0 := by
    intro hT
    refine hJ [2] 400 _ _ _ _ _ _ ?_
    conv => whnf
    refine ⟨fun _ => ?_, fun _ z => nomatch z⟩
    conv => whnf
    exact ⟨Or.inr rfl, ⟨Nat.le_of_ble_eq_true rfl, Nat.le_of_ble_eq_true rfl⟩, rfl, by rw [hT]; rfl⟩
  have no : T = false → some (j_i (Int32.ofInt 0)) = some (j_i (z_b T)) := fun z => by rw [z]; rfl
  have Ls : ∀ (n k : Nat), k < n → z_in h x 2 k → T = z_st (z_c h x) k → J 2 [some (j_r (some x)), none, some (j_r (some (z_el h x 2 k)))] [] h 0 0 := by
    intro n
    induction n with
    | zero => intro k hn; omega
    | succ n ih =>
      intro k hn hk hT
      have kb := z_k2 hW hk
      obtain ⟨r, r1, r2, r3, r4, r5, r6, r7⟩ := z_pr hW I hk rfl
      have k1 := z_k1 hW r1
      rw [z_st_e] at hT
      have one : z_one (z_c h x) k = (decide (¬ (j_it h (z_el h x 1 r) 7).toInt = 0) && decide ((j_it h (z_el h x 2 k) 2).toInt = (j_it h x (j_pf (j_it h (z_el h x 1 r) 1))).toInt)) := by
        unfold z_one
        rw [show (z_c h x).2.2.2.2 k 0 = z_cp h x k 0 from rfl, r3, show (z_c h x).2.2.2.1 r 6 = z_cr h x r 6 from rfl, show (z_c h x).2.2.2.1 r 1 = z_cr h x r 1 from rfl, show (z_c h x).2.2.2.2 k 1 = z_cp h x k 1 from rfl, r4, r5, r6]
        rcases j_pf34' (j_it h (z_el h x 1 r) 1) with ⟨_, q⟩ | ⟨_, q⟩
        · rw [q]; rfl
        · rw [q]; rfl
      refine hJ [2] 400 _ _ _ _ _ _ ?_
      conv => whnf
      refine ⟨fun z => (nomatch z), fun _ _ => ?_⟩
      conv => whnf
      refine ⟨_, rfl, kb, fun o eo => ?_⟩
      obtain rfl : o = some (z_el h x 1 r) := eo.symm.trans r2
      conv => whnf
      refine ⟨_, rfl, k1, fun x1 ex1 => ?_⟩
      obtain rfl : x1 = j_it h (z_el h x 1 r) 7 := ex1.symm
      conv => whnf
      refine ⟨fun c1 => ?_, fun c1 => ?_⟩
      · have c1 : (j_it h (z_el h x 1 r) 7).toInt = 0 := c1
        conv => whnf
        exact ⟨Or.inl rfl, ⟨Nat.le_of_ble_eq_true rfl, Nat.le_of_ble_eq_true rfl⟩, rfl, no (by rw [hT, one, decide_eq_false (fun z => z c1)]; rfl)⟩
      · have c1 : ¬ (j_it h (z_el h x 1 r) 7).toInt = 0 := c1
        conv => whnf
        refine ⟨_, rfl, kb, fun x2 ex2 => ?_⟩
        obtain rfl : x2 = j_it h (z_el h x 2 k) 2 := ex2.symm
        conv => whnf
        refine ⟨_, rfl, kb, fun o eo => ?_⟩
        obtain rfl : o = some (z_el h x 1 r) := eo.symm.trans r2
        conv => whnf
        refine ⟨_, rfl, k1, fun x3 ex3 => ?_⟩
        obtain rfl : x3 = j_it h (z_el h x 1 r) 1 := ex3.symm
        conv => whnf
        refine ⟨kx, rfl, _, _, _, _, _, _, c_paceOfx kx, ⟨Nat.le_of_ble_eq_true rfl, Nat.le_of_ble_eq_true rfl, Nat.le_of_ble_eq_true rfl, Nat.le_of_ble_eq_true rfl⟩, fun _ _ z => False.elim z, ?_⟩
        rintro v9 h9 ⟨e9, zp⟩
        obtain rfl : h = h9 := e9.symm
        obtain rfl := z_pfv zp
        conv => whnf
        refine ⟨fun c2 => ?_, fun c2 => ?_⟩
        · have c2 : (j_it h (z_el h x 2 k) 2).toInt = (j_it h x (j_pf (j_it h (z_el h x 1 r) 1))).toInt := c2
          rw [one, decide_eq_true c1, decide_eq_true c2] at hT
          conv => whnf
          refine ⟨_, rfl, kb, fun o eo => ?_⟩
          rcases r7 with ⟨q1, q2⟩ | ⟨q, q1, q2, q3, q4, q5⟩
          · obtain rfl : o = none := eo.symm.trans q1
            have q2 : ((z_c h x).2.2.2.2 k 2).toInt < 0 := q2
            rw [if_pos q2] at hT
            exact j_use hF (Ln hT) (And.intro rfl trivial)
          · obtain rfl : o = some (z_el h x 2 q) := eo.symm.trans q3
            have q4 : ¬ ((z_c h x).2.2.2.2 k 2).toInt < 0 := q4
            have q5 : ((z_c h x).2.2.2.2 k 2).toNatClampNeg = q := q5
            rw [if_neg q4, q5, z_tb_f k q q1] at hT
            exact j_use hF (ih q (by omega) q2 hT) (And.intro rfl (And.intro rfl trivial))
        · have c2 : ¬ (j_it h (z_el h x 2 k) 2).toInt = (j_it h x (j_pf (j_it h (z_el h x 1 r) 1))).toInt := c2
          conv => whnf
          exact ⟨Or.inl rfl, ⟨Nat.le_of_ble_eq_true rfl, Nat.le_of_ble_eq_true rfl⟩, rfl, no (by rw [hT, one, decide_eq_true c1, decide_eq_false c2]; rfl)⟩
  refine hJ [2] 400 _ _ _ _ _ _ ?_
  rcases kp with ⟨rfl, hT⟩ | ⟨k, hk, rfl, hT⟩
  · exact j_use hF (Ln hT) (And.intro rfl trivial)
  · exact j_use hF (Ls (k + 1) k (Nat.lt_succ_self k) hk hT) (And.intro rfl (And.intro rfl trivial))
set_option maxHeartbeats 4000000 in
set_option maxRecDepth 20000 in
theorem c_oneIfx {h : j_H} {a : Int32} : j_Ct 125 0 0 0 0 [j_i a] h (fun v h' => h' = h ∧ v = some (j_i (if a.toInt = 0 then Int32.ofInt 0 else Int32.ofInt 1))) j_no := by
  refine j_intro km_125 (Nat.le_of_ble_eq_true rfl) ?_
  intro J hJ hF
  refine hJ [] 400 _ _ _ _ _ _ ?_
  conv => whnf
  refine ⟨fun c1 => ?_, fun c1 => ?_⟩
  · have c1 : a.toInt = 0 := c1
    conv => whnf
    exact ⟨trivial, ⟨Nat.le_of_ble_eq_true rfl, Nat.le_of_ble_eq_true rfl⟩, rfl, by rw [if_pos c1]⟩
  · have c1 : ¬ a.toInt = 0 := c1
    conv => whnf
    exact ⟨trivial, ⟨Nat.le_of_ble_eq_true rfl, Nat.le_of_ble_eq_true rfl⟩, rfl, by rw [if_neg c1]⟩
theorem z_bi (b : Bool) : (if (z_b b).toInt = 0 then Int32.ofInt 0 else Int32.ofInt 1) = z_b b := by
  cases b with
  | true => rfl
  | false => rfl
set_option maxHeartbeats 4000000 in
set_option maxRecDepth 20000 in
theorem c_countPx {h : j_H} {x : Nat} (hW : j_WF h x) (I : z_I h x) : j_Ct 88 3 64 0 0 [j_r (some x)] h (fun v h' => h' = h ∧ v = some (j_i (z_cnt (z_st (z_c h x)) (j_sz h x 2).toNatClampNeg))) j_no := by
  refine j_intro km_88 (Nat.le_of_ble_eq_true rfl) ?_
  intro J hJ hF
  obtain ⟨kx, hG, L0, L1, L2, e0, l0, e1, l1, e2, l2, ap, pn⟩ := id hW
  have b2 := l2.2.1; have d2 := l2.2.2.1
  have eR : j_sz h x 2 = j_it h L2 2 := j_sz_e e2
  have clR := j_clamp b2
  refine hJ [4] 400 _ _ _ _ _ _ ?_
  have L4 : ∀ (n : Nat) (v2 : Int32), 0 ≤ v2.toInt → v2.toInt ≤ (j_it h L2 2).toInt → (j_it h L2 2).toInt - v2.toInt < (n : Int) → J 4 [some (j_r (some x)), some (j_i (z_cnt (z_st (z_c h x)) v2.toNatClampNeg)), some (j_i v2), none] [] h 0 0 := by
    intro n
    induction n with
    | zero => intro v2 hn hm hz; omega
    | succ n ih4 =>
      intro v2 hn hm hz
      have cl := j_clamp hn
      refine hJ [4] 400 _ _ _ _ _ _ ?_
      conv => whnf
      refine ⟨_, rfl, kx, fun o3 eo => ?_⟩
      obtain rfl : o3 = some L2 := eo.symm.trans e2
      conv => whnf
      refine ⟨l2.1, rfl, _, _, _, _, _, _, c_AL_size (h := h) l2 j_Sc.rf j_sf_ok, ⟨Nat.le_of_ble_eq_true rfl, Nat.le_of_ble_eq_true rfl, Nat.le_of_ble_eq_true rfl, Nat.le_of_ble_eq_true rfl⟩, fun _ _ z => False.elim z, ?_⟩
      rintro v9 h9 ⟨e9, rfl⟩
      obtain rfl : h = h9 := e9.symm
      conv => whnf
      refine ⟨fun c4 => ?_, fun c4 => ?_⟩
      · have c4 : (j_it h L2 2).toInt ≤ v2.toInt := c4
        have ev : v2.toNatClampNeg = (j_sz h x 2).toNatClampNeg := by rw [eR]; omega
        conv => whnf
        exact ⟨trivial, ⟨Nat.le_of_ble_eq_true rfl, Nat.le_of_ble_eq_true rfl⟩, rfl, by rw [ev]⟩
      · have c4 : ¬ (j_it h L2 2).toInt ≤ v2.toInt := c4
        have hin : z_in h x 2 v2.toNatClampNeg := by unfold z_in; rw [eR]; omega
        conv => whnf
        refine ⟨_, rfl, kx, fun o5 eo => ?_⟩
        obtain rfl : o5 = some L2 := eo.symm.trans e2
        conv => whnf
        refine ⟨l2.1, rfl, _, _, _, _, _, _, c_AL_get (h := h) l2 j_Sc.rf j_sf_ok (by omega) (by omega), ⟨Nat.le_of_ble_eq_true rfl, Nat.le_of_ble_eq_true rfl, Nat.le_of_ble_eq_true rfl, Nat.le_of_ble_eq_true rfl⟩, fun _ _ z => False.elim z, ?_⟩
        rintro v9 h9 ⟨e9, g6, rfl, kg6, xg6⟩
        obtain rfl : h = h9 := e9.symm
        have he := z_el_get e2 xg6
        conv => whnf
        refine ⟨Or.inr ⟨_, rfl, kg6⟩, ?_⟩
        conv => whnf
        refine ⟨kx, rfl, _, _, _, _, _, _, c_standx hW I (Or.inr ⟨_, hin, by rw [he], rfl⟩), ⟨Nat.le_of_ble_eq_true rfl, Nat.le_of_ble_eq_true rfl, Nat.le_of_ble_eq_true rfl, Nat.le_of_ble_eq_true rfl⟩, fun _ _ z => False.elim z, ?_⟩
        rintro v9 h9 ⟨e9, rfl⟩
        obtain rfl : h = h9 := e9.symm
        conv => whnf
        refine ⟨rfl, _, _, _, _, _, _, c_oneIfx, ⟨Nat.le_of_ble_eq_true rfl, Nat.le_of_ble_eq_true rfl, Nat.le_of_ble_eq_true rfl, Nat.le_of_ble_eq_true rfl⟩, fun _ _ z => False.elim z, ?_⟩
        rintro v9 h9 ⟨e9, rfl⟩
        obtain rfl : h = h9 := e9.symm
        rw [z_bi]
        have t10 : (v2 + Int32.ofInt 1).toInt = v2.toInt + 1 := j_inc1 (by omega)
        have cl2 := j_clamp (i := v2 + Int32.ofInt 1) (by omega)
        have ek : (v2 + Int32.ofInt 1).toNatClampNeg = v2.toNatClampNeg + 1 := by omega
        have nx := ih4 (v2 + Int32.ofInt 1) (by omega) (by omega) (by omega)
        rw [ek] at nx
        exact j_use hF nx (And.intro rfl (And.intro rfl (And.intro rfl trivial)))
  have cl0 : (Int32.ofInt 0).toNatClampNeg = 0 := by decide
  have st := L4 100 (Int32.ofInt 0) (by decide) (by have : (Int32.ofInt 0).toInt = 0 := (by decide); omega) (by have : (Int32.ofInt 0).toInt = 0 := (by decide); omega)
  rw [cl0] at st
  exact j_use hF st (And.intro rfl (And.intro rfl (And.intro rfl trivial)))
set_option maxHeartbeats 4000000 in
set_option maxRecDepth 20000 in
theorem c_isRunx {h : j_H} {x L0 : Nat} {a : Int32} (hW : j_WF h x) (e0 : j_rf h x 1 = some L0) : j_Ct 107 1 20 0 0 [j_r (some x), j_i a] h (fun v h' => h' = h ∧ ∃ r, v = some (j_i r) ∧ (((0 ≤ a.toInt ∧ a.toInt < (j_it h L0 2).toInt) ∧ r = Int32.ofInt 1) ∨ (¬ (0 ≤ a.toInt ∧ a.toInt < (j_it h L0 2).toInt) ∧ r = Int32.ofInt 0))) j_no := by
  refine j_intro km_107 (Nat.le_of_ble_eq_true rfl) ?_
  intro J hJ hF
  obtain ⟨kx, hG, L1, M0, L2, e1, l1, d0, l0, e2, l2, ap, pn⟩ := id hW
  obtain rfl : M0 = L0 := Option.some.inj (d0.symm.trans e0)
  refine hJ [] 400 _ _ _ _ _ _ ?_
  conv => whnf
  refine ⟨fun c1 => ?_, fun c1 => ?_⟩
  · have c1 : a.toInt < 0 := c1
    conv => whnf
    exact ⟨Or.inl rfl, ⟨Nat.le_of_ble_eq_true rfl, Nat.le_of_ble_eq_true rfl⟩, rfl, _, rfl, Or.inr ⟨by omega, rfl⟩⟩
  · have c1 : ¬ a.toInt < 0 := c1
    conv => whnf
    refine ⟨_, rfl, kx, fun o2 eo => ?_⟩
    obtain rfl : o2 = some M0 := eo.symm.trans e0
    conv => whnf
    refine ⟨l0.1, rfl, _, _, _, _, _, _, c_AL_size (h := h) l0 j_Sc.rf j_sf_ok, ⟨Nat.le_of_ble_eq_true rfl, Nat.le_of_ble_eq_true rfl, Nat.le_of_ble_eq_true rfl, Nat.le_of_ble_eq_true rfl⟩, fun _ _ z => False.elim z, ?_⟩
    rintro v9 h9 ⟨e9, rfl⟩
    obtain rfl : h = h9 := e9.symm
    conv => whnf
    refine ⟨fun c4 => ?_, fun c4 => ?_⟩
    · have c4 : (j_it h M0 2).toInt ≤ a.toInt := c4
      conv => whnf
      exact ⟨Or.inl rfl, ⟨Nat.le_of_ble_eq_true rfl, Nat.le_of_ble_eq_true rfl⟩, rfl, _, rfl, Or.inr ⟨by omega, rfl⟩⟩
    · have c4 : ¬ (j_it h M0 2).toInt ≤ a.toInt := c4
      conv => whnf
      exact ⟨Or.inr rfl, ⟨Nat.le_of_ble_eq_true rfl, Nat.le_of_ble_eq_true rfl⟩, rfl, _, rfl, Or.inl ⟨by omega, rfl⟩⟩
set_option maxHeartbeats 4000000 in
set_option maxRecDepth 20000 in
theorem c_isPrintx {h : j_H} {x L0 : Nat} {a : Int32} (hW : j_WF h x) (e0 : j_rf h x 2 = some L0) : j_Ct 106 1 20 0 0 [j_r (some x), j_i a] h (fun v h' => h' = h ∧ ∃ r, v = some (j_i r) ∧ (((0 ≤ a.toInt ∧ a.toInt < (j_it h L0 2).toInt) ∧ r = Int32.ofInt 1) ∨ (¬ (0 ≤ a.toInt ∧ a.toInt < (j_it h L0 2).toInt) ∧ r = Int32.ofInt 0))) j_no := by
  refine j_intro km_106 (Nat.le_of_ble_eq_true rfl) ?_
  intro J hJ hF
  obtain ⟨kx, hG, L1, L2, M0, e1, l1, e2, l2, d0, l0, ap, pn⟩ := id hW
  obtain rfl : M0 = L0 := Option.some.inj (d0.symm.trans e0)
  refine hJ [] 400 _ _ _ _ _ _ ?_
  conv => whnf
  refine ⟨fun c1 => ?_, fun c1 => ?_⟩
  · have c1 : a.toInt < 0 := c1
    conv => whnf
    exact ⟨Or.inl rfl, ⟨Nat.le_of_ble_eq_true rfl, Nat.le_of_ble_eq_true rfl⟩, rfl, _, rfl, Or.inr ⟨by omega, rfl⟩⟩
  · have c1 : ¬ a.toInt < 0 := c1
    conv => whnf
    refine ⟨_, rfl, kx, fun o2 eo => ?_⟩
    obtain rfl : o2 = some M0 := eo.symm.trans e0
    conv => whnf
    refine ⟨l0.1, rfl, _, _, _, _, _, _, c_AL_size (h := h) l0 j_Sc.rf j_sf_ok, ⟨Nat.le_of_ble_eq_true rfl, Nat.le_of_ble_eq_true rfl, Nat.le_of_ble_eq_true rfl, Nat.le_of_ble_eq_true rfl⟩, fun _ _ z => False.elim z, ?_⟩
    rintro v9 h9 ⟨e9, rfl⟩
    obtain rfl : h = h9 := e9.symm
    conv => whnf
    refine ⟨fun c4 => ?_, fun c4 => ?_⟩
    · have c4 : (j_it h M0 2).toInt ≤ a.toInt := c4
      conv => whnf
      exact ⟨Or.inl rfl, ⟨Nat.le_of_ble_eq_true rfl, Nat.le_of_ble_eq_true rfl⟩, rfl, _, rfl, Or.inr ⟨by omega, rfl⟩⟩
    · have c4 : ¬ (j_it h M0 2).toInt ≤ a.toInt := c4
      conv => whnf
      exact ⟨Or.inr rfl, ⟨Nat.le_of_ble_eq_true rfl, Nat.le_of_ble_eq_true rfl⟩, rfl, _, rfl, Or.inl ⟨by omega, rfl⟩⟩
def n_withdraw (z : j_Z) (a : Int32) : j_Z := (z.1, z.2.1, z.2.2.1, fun k f => if k = a.toNatClampNeg then (if f = 6 then Int32.ofInt 0 else z.2.2.2.1 k f) else z.2.2.2.1 k f, z.2.2.2.2)
def a_withdraw (z : j_Z) (a : Int32) : Int32 := z_cnt (z_st z) (z.1 2).toNatClampNeg - z_cnt (z_st (n_withdraw z a)) (z.1 2).toNatClampNeg
theorem z_withdrawn {h : j_H} {x e : Nat} {a : Int32} (w : j_WF h x) (I : z_I h x) (ha : z_in h x 1 a.toNatClampNeg) (he : z_el h x 1 a.toNatClampNeg = e) : j_Fs x h (j_up h e 7 (j_i (Int32.ofInt 0))) ∧ z_I (j_up h e 7 (j_i (Int32.ofInt 0))) x ∧ z_eq (z_c (j_up h e 7 (j_i (Int32.ofInt 0))) x) (n_withdraw (z_c h x) a) := by
  have ke : j_kd h e = some (.inl 7) := by rw [← he]; exact z_k1 w ha
  have s9 : j_Sc z_S h (j_u (j_it h) e 7 (Int32.ofInt 0)) := j_Sc.rf.put ke (show z_S 7 7 = true from rfl)
  have un : ∀ q f, f ≠ 7 → j_u (j_it h) e 7 (Int32.ofInt 0) q f = j_it h q f := fun q f hf => j_u_nk hf
  have ne : ∀ q c, j_kd h q = some (.inl c) → c ≠ 7 → ∀ f, j_u (j_it h) e 7 (Int32.ofInt 0) q f = j_it h q f := fun q c hq hc f => j_u_ne (fun z => by rw [z, ke] at hq; cases hq; exact hc rfl)
  obtain ⟨fr, I', q'⟩ := z_wi w I.1 s9 (fun k hk => by
    have c := I.2 k hk
    unfold z_ca at c ⊢
    show j_u (j_it h) e 7 (Int32.ofInt 0) (z_el h x 1 k) 8 = z_te (j_u (j_it h) e 7 (Int32.ofInt 0) x (j_pf (j_u (j_it h) e 7 (Int32.ofInt 0) (z_el h x 1 k) 1))) (j_u (j_it h) e 7 (Int32.ofInt 0) (z_el h x 1 k) 2) (j_u (j_it h) e 7 (Int32.ofInt 0) (z_el h x 1 k) 3) (j_u (j_it h) e 7 (Int32.ofInt 0) (z_el h x 1 k) 4) ∧ j_u (j_it h) e 7 (Int32.ofInt 0) (z_el h x 1 k) 9 = z_tl (j_u (j_it h) e 7 (Int32.ofInt 0) x (j_pf (j_u (j_it h) e 7 (Int32.ofInt 0) (z_el h x 1 k) 1))) (j_u (j_it h) e 7 (Int32.ofInt 0) (z_el h x 1 k) 2) (j_u (j_it h) e 7 (Int32.ofInt 0) (z_el h x 1 k) 3) (j_u (j_it h) e 7 (Int32.ofInt 0) (z_el h x 1 k) 4)
    rw [un _ 8 (by decide), un _ 9 (by decide), un _ 1 (by decide), un _ 2 (by decide), un _ 3 (by decide), un _ 4 (by decide), ne x 8 w.1 (by decide)]
    exact c)
  refine ⟨fr.fs, I', q'.tr ⟨fun k hk => rfl, fun k i t hk hi ht => ?_, fun k f hk hf => ?_, fun k f hk hf => ?_, fun k f hk hf => rfl⟩⟩
  · exact ne _ 5 (z_km w hk hi).2 (by decide) _
  · exact ne _ 4 (z_k0 w hk) (by decide) _
  · have hk : z_in h x 1 k := hk
    show z_wr h (j_u (j_it h) e 7 (Int32.ofInt 0)) x k f = if k = a.toNatClampNeg then (if f = 6 then Int32.ofInt 0 else z_cr h x k f) else z_cr h x k f
    have z9 : ∀ f, f ≠ 6 → (if k = a.toNatClampNeg then (if f = 6 then Int32.ofInt 0 else z_cr h x k f) else z_cr h x k f) = z_cr h x k f := fun f hf => by
      by_cases hka : k = a.toNatClampNeg
      · rw [if_pos hka, if_neg hf]
      · rw [if_neg hka]
    match f, hf with
    | 6, _ =>
      show j_u (j_it h) e 7 (Int32.ofInt 0) (z_el h x 1 k) 7 = _
      by_cases hka : k = a.toNatClampNeg
      · rw [if_pos hka, if_pos rfl, hka, he]
        exact j_u_at
      · rw [if_neg hka]
        exact j_u_ne (fun z => hka (I.r hk ha (z.trans he.symm)))
    | 0, _ => exact (z9 0 (by decide)).symm
    | 1, _ => exact (z9 1 (by decide)).symm
    | 2, _ => exact (z9 2 (by decide)).symm
    | 3, _ => exact (z9 3 (by decide)).symm
    | 4, _ => exact (z9 4 (by decide)).symm
    | 5, _ => exact (z9 5 (by decide)).symm
    | n + 7, hf => omega
/-- prints stand alike where the same is held -/
theorem z_st_c {A B : j_Z} (e : z_eq A B) (P : ∀ k, z_lt A 2 k → z_lt A 1 (A.2.2.2.2 k 0).toNatClampNeg ∧ ((A.2.2.2.2 k 2).toInt < 0 ∨ (A.2.2.2.2 k 2).toNatClampNeg < k)) : ∀ n k, k < n → z_lt A 2 k → z_st A k = z_st B k := by
  intro n
  induction n with
  | zero => intro k h; omega
  | succ n ih =>
    intro k hn hk
    obtain ⟨p1, p2⟩ := P k hk
    have e0 := e.2.2.2.2 k 0 hk (by decide)
    have e1 := e.2.2.2.2 k 1 hk (by decide)
    have e2 := e.2.2.2.2 k 2 hk (by decide)
    have one : z_one A k = z_one B k := by
      unfold z_one
      rw [← e0, ← e1, ← e.2.2.2.1 _ 6 p1 (by decide), ← e.2.2.2.1 _ 1 p1 (by decide)]
      rcases j_pf34' (A.2.2.2.1 (A.2.2.2.2 k 0).toNatClampNeg 1) with ⟨_, q⟩ | ⟨_, q⟩
      · rw [q, e.1 3 (by decide)]
      · rw [q, e.1 4 (by decide)]
    rw [z_st_e, z_st_e, one, ← e2]
    by_cases z : (A.2.2.2.2 k 2).toInt < 0
    · rw [if_pos z, if_pos z]
    · have p3 : (A.2.2.2.2 k 2).toNatClampNeg < k := p2.resolve_left z
      rw [if_neg z, if_neg z, z_tb_f k _ p3, z_tb_f k _ p3, ih _ (by omega) (by unfold z_lt at hk ⊢; omega)]
theorem z_I.P {h : j_H} {x : Nat} (w : j_WF h x) (I : z_I h x) : ∀ k, z_lt (z_c h x) 2 k → z_lt (z_c h x) 1 ((z_c h x).2.2.2.2 k 0).toNatClampNeg ∧ (((z_c h x).2.2.2.2 k 2).toInt < 0 ∨ ((z_c h x).2.2.2.2 k 2).toNatClampNeg < k) := fun k hk => by
  obtain ⟨r, r1, r2, r3, r4, r5, r6, r7⟩ := z_pr w I hk rfl
  have r3 : ((z_c h x).2.2.2.2 k 0).toNatClampNeg = r := r3
  rw [r3]
  refine ⟨r1, ?_⟩
  rcases r7 with ⟨_, q⟩ | ⟨q, q1, -, -, -, q5⟩
  · exact Or.inl q
  · have q5 : ((z_c h x).2.2.2.2 k 2).toNatClampNeg = q := q5
    exact Or.inr (by rw [q5]; exact q1)
theorem z_cnt_st {A B : j_Z} (e : z_eq A B) (P : ∀ k, z_lt A 2 k → z_lt A 1 (A.2.2.2.2 k 0).toNatClampNeg ∧ ((A.2.2.2.2 k 2).toInt < 0 ∨ (A.2.2.2.2 k 2).toNatClampNeg < k)) (h0 : 0 ≤ (A.1 2).toInt) : z_cnt (z_st A) (A.1 2).toNatClampNeg = z_cnt (z_st B) (B.1 2).toNatClampNeg := by
  rw [← e.1 2 (by decide)]
  have cl := j_clamp h0
  exact z_cnt_c _ (fun k hk => z_st_c e P (k + 1) k (Nat.lt_succ_self k) (by unfold z_lt; omega))
set_option maxHeartbeats 4000000 in
set_option maxRecDepth 20000 in
theorem c_G_withdrawz {h : j_H} {x : Nat} {a : Int32} (hW : j_WF h x) (I : z_I h x) : j_Ct 142 6 90 1 6 [j_r (some x), j_i a] h (fun v h' => ((0 ≤ a.toInt ∧ a.toInt < (j_sz h x 1).toInt) ∧ ¬ (z_cr h x a.toNatClampNeg 6).toInt = 0) ∧ v = some (j_i (a_withdraw (z_c h x) a)) ∧ j_Fs x h h' ∧ z_I h' x ∧ z_eq (z_c h' x) (n_withdraw (z_c h x) a)) (fun k h' => ((k = 2 ∧ ¬ (0 ≤ a.toInt ∧ a.toInt < (j_sz h x 1).toInt)) ∨ (k = 1 ∧ (0 ≤ a.toInt ∧ a.toInt < (j_sz h x 1).toInt) ∧ (z_cr h x a.toNatClampNeg 6).toInt = 0)) ∧ h' = h) := by
  refine j_intro km_142 (Nat.le_of_ble_eq_true rfl) ?_
  intro J hJ hF
  obtain ⟨kx, hG, L0, L1, L2, e0, l0, e1, l1, e2, l2, ap, pn⟩ := id hW
  have z0 : (Int32.ofInt 0).toInt = 0 := by decide
  have z1 : (Int32.ofInt 1).toInt = 1 := by decide
  have eR : j_sz h x 1 = j_it h L1 2 := j_sz_e e1
  refine hJ [] 400 _ _ _ _ _ _ ?_
  conv => whnf
  refine ⟨kx, rfl, _, _, _, _, _, _, c_isRunx hW e1, ⟨Nat.le_of_ble_eq_true rfl, Nat.le_of_ble_eq_true rfl, Nat.le_of_ble_eq_true rfl, Nat.le_of_ble_eq_true rfl⟩, fun _ _ z => False.elim z, ?_⟩
  rintro v9 h9 ⟨e9, r1, rfl, zr1⟩
  obtain rfl : h = h9 := e9.symm
  conv => whnf
  refine ⟨fun c3 => ?_, fun c3 => ?_⟩
  rotate_left
  · have c3 : ¬ ¬ r1.toInt = 0 := c3
    have ka : ¬ (0 ≤ a.toInt ∧ a.toInt < (j_sz h x 1).toInt) := by
      rw [eR]
      rcases zr1 with ⟨-, q⟩ | ⟨q, -⟩
      · rw [q, z1] at c3; exact absurd (by decide) c3
      · exact q
    conv => whnf
    exact ⟨⟨Nat.le_of_ble_eq_true rfl, Nat.le_of_ble_eq_true rfl⟩, ⟨Nat.le_of_ble_eq_true rfl, Nat.le_of_ble_eq_true rfl⟩, Or.inl ⟨rfl, ka⟩, rfl⟩
  have c3 : ¬ r1.toInt = 0 := c3
  have ka : 0 ≤ a.toInt ∧ a.toInt < (j_sz h x 1).toInt := by
    rw [eR]
    rcases zr1 with ⟨q, -⟩ | ⟨-, q⟩
    · exact q
    · rw [q, z0] at c3; exact absurd rfl c3
  have ka' : 0 ≤ a.toInt ∧ a.toInt < (j_it h L1 2).toInt := by rw [← eR]; exact ka
  have hin : z_in h x 1 a.toNatClampNeg := by unfold z_in; rw [j_clamp ka.1]; exact ka.2
  conv => whnf
  refine ⟨_, rfl, kx, fun o4 eo => ?_⟩
  obtain rfl : o4 = some L1 := eo.symm.trans e1
  conv => whnf
  refine ⟨l1.1, rfl, _, _, _, _, _, _, c_AL_get (h := h) l1 j_Sc.rf j_sf_ok ka'.1 ka'.2, ⟨Nat.le_of_ble_eq_true rfl, Nat.le_of_ble_eq_true rfl, Nat.le_of_ble_eq_true rfl, Nat.le_of_ble_eq_true rfl⟩, fun _ _ z => False.elim z, ?_⟩
  rintro v9 h9 ⟨e9, e, rfl, ke, xg5⟩
  obtain rfl : h = h9 := e9.symm
  have he := z_el_get e1 xg5
  have c6 : z_cr h x a.toNatClampNeg 6 = j_it h e 7 := by
    show j_it h (z_el h x 1 a.toNatClampNeg) 7 = _
    rw [he]
  conv => whnf
  refine ⟨Or.inr ⟨_, rfl, ke⟩, ?_⟩
  conv => whnf
  refine ⟨_, rfl, ke, fun x6 ex6 => ?_⟩
  obtain rfl : x6 = j_it h e 7 := ex6.symm
  conv => whnf
  refine ⟨fun c7 => ?_, fun c7 => ?_⟩
  rotate_left
  · have c7 : ¬ ¬ (j_it h e 7).toInt = 0 := c7
    conv => whnf
    exact ⟨⟨Nat.le_of_ble_eq_true rfl, Nat.le_of_ble_eq_true rfl⟩, ⟨Nat.le_of_ble_eq_true rfl, Nat.le_of_ble_eq_true rfl⟩, Or.inr ⟨rfl, ka, by rw [c6]; exact Decidable.not_not.mp c7⟩, rfl⟩
  have c7 : ¬ (j_it h e 7).toInt = 0 := c7
  conv => whnf
  refine ⟨kx, rfl, _, _, _, _, _, _, c_countPx hW I, ⟨Nat.le_of_ble_eq_true rfl, Nat.le_of_ble_eq_true rfl, Nat.le_of_ble_eq_true rfl, Nat.le_of_ble_eq_true rfl⟩, fun _ _ z => False.elim z, ?_⟩
  rintro v9 h9 ⟨e9, rfl⟩
  obtain rfl : h = h9 := e9.symm
  obtain ⟨f2, I2, q2⟩ := z_withdrawn hW I hin he
  conv => whnf
  refine ⟨Or.inl rfl, _, rfl, ke, ?_⟩
  conv => whnf
  refine ⟨kx, rfl, _, _, _, _, _, _, c_countPx (h := j_up h e 7 (j_i (Int32.ofInt 0))) f2.1 I2, ⟨Nat.le_of_ble_eq_true rfl, Nat.le_of_ble_eq_true rfl, Nat.le_of_ble_eq_true rfl, Nat.le_of_ble_eq_true rfl⟩, fun _ _ z => False.elim z, ?_⟩
  rintro v9 h9 ⟨rfl, rfl⟩
  conv => whnf
  refine ⟨trivial, ⟨Nat.le_of_ble_eq_true rfl, Nat.le_of_ble_eq_true rfl⟩, ⟨ka, by rw [c6]; exact c7⟩, ?_, f2, I2, q2⟩
  have h0 : 0 ≤ (j_sz (j_up h e 7 (j_i (Int32.ofInt 0))) x 2).toInt := by
    obtain ⟨-, -, -, -, M2, -, -, -, -, m1, m2, -⟩ := f2.1
    rw [j_sz_e m1]
    exact m2.2.1
  have hc := z_cnt_st q2 (z_I.P f2.1 I2) h0
  unfold a_withdraw
  rw [show z_cnt (z_st (z_c (j_up h e 7 (j_i (Int32.ofInt 0))) x)) (j_sz (j_up h e 7 (j_i (Int32.ofInt 0))) x 2).toNatClampNeg = z_cnt (z_st (n_withdraw (z_c h x) a)) ((n_withdraw (z_c h x) a).1 2).toNatClampNeg from hc]
  rfl
