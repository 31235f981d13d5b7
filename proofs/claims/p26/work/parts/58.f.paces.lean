/-! runs dated anew; a pace told; the slip told: word for word -/
set_option maxHeartbeats 4000000 in
set_option maxRecDepth 20000 in
theorem c_dateBx {h : j_H} {it : Nat → Nat → Int32} {y : Nat} {a : Int32} (ky : j_kd h y = some (.inl 7)) (hp : 2 ≤ a.toInt) (m0 : 0 ≤ (it y 2).toInt) (m1 : (it y 2).toInt ≤ 10008) (d0 : 0 ≤ (it y 3).toInt) (d1 : (it y 3).toInt ≤ 10008) (s0 : 0 ≤ (it y 4).toInt) (s1 : (it y 4).toInt ≤ 9) : j_Ct 155 2 48 0 0 [j_r (some y), j_i a] (j_wi h it) (fun v h' => v = none ∧ h' = j_wi h (j_u (j_u it y 8 (z_te a (it y 2) (it y 3) (it y 4))) y 9 (z_tl a (it y 2) (it y 3) (it y 4)))) j_no := by
  refine j_intro km_155 (Nat.le_of_ble_eq_true rfl) ?_
  intro J hJ hF
  refine hJ [] 400 _ _ _ _ _ _ ?_
  conv => whnf
  refine ⟨_, rfl, ky, fun x1 ex1 => ?_⟩
  obtain rfl : x1 = it y 2 := ex1.symm
  conv => whnf
  refine ⟨_, rfl, ky, fun x2 ex2 => ?_⟩
  obtain rfl : x2 = it y 3 := ex2.symm
  conv => whnf
  refine ⟨_, rfl, ky, fun x3 ex3 => ?_⟩
  obtain rfl : x3 = it y 4 := ex3.symm
  conv => whnf
  refine ⟨rfl, _, _, _, _, _, _, c_Table_earlyx (h := j_wi h it) hp (z_b1 m0 m1 d0 d1 s0 s1), ⟨Nat.le_of_ble_eq_true rfl, Nat.le_of_ble_eq_true rfl, Nat.le_of_ble_eq_true rfl, Nat.le_of_ble_eq_true rfl⟩, fun _ _ z => False.elim z, ?_⟩
  rintro v9 h9 ⟨rfl, rfl⟩
  conv => whnf
  refine ⟨_, rfl, ky, ?_⟩
  conv => whnf
  refine ⟨_, rfl, ky, fun x6 ex6 => ?_⟩
  obtain rfl : x6 = it y 2 := ex6.symm.trans (show j_u it y 8 (z_te a (it y 2) (it y 3) (it y 4)) y 2 = it y 2 from j_u_nk (by decide))
  conv => whnf
  refine ⟨_, rfl, ky, fun x7 ex7 => ?_⟩
  obtain rfl : x7 = it y 3 := ex7.symm.trans (show j_u it y 8 (z_te a (it y 2) (it y 3) (it y 4)) y 3 = it y 3 from j_u_nk (by decide))
  conv => whnf
  refine ⟨_, rfl, ky, fun x8 ex8 => ?_⟩
  obtain rfl : x8 = it y 4 := ex8.symm.trans (show j_u it y 8 (z_te a (it y 2) (it y 3) (it y 4)) y 4 = it y 4 from j_u_nk (by decide))
  conv => whnf
  refine ⟨rfl, _, _, _, _, _, _, c_Table_latex hp (z_b2 m0 m1 d0 d1 s0 s1), ⟨Nat.le_of_ble_eq_true rfl, Nat.le_of_ble_eq_true rfl, Nat.le_of_ble_eq_true rfl, Nat.le_of_ble_eq_true rfl⟩, fun _ _ z => False.elim z, ?_⟩
  rintro v9 h9 ⟨rfl, rfl⟩
  conv => whnf
  refine ⟨_, rfl, ky, ?_⟩
  conv => whnf
  exact ⟨rfl, ⟨Nat.le_of_ble_eq_true rfl, Nat.le_of_ble_eq_true rfl⟩, rfl, rfl⟩
def z_Sd (c k : Nat) : Bool := Nat.beq c 7 && (Nat.beq k 8 || Nat.beq k 9)
/-- the first k runs are dated by the paces of hB; the others as they were -/
def z_dt (hB : j_H) (x k : Nat) (it : Nat → Nat → Int32) : Prop := j_Sc z_Sd hB it ∧ ∀ j, z_in hB x 1 j → (j < k → z_ca (j_wi hB it) x (z_el hB x 1 j)) ∧ (k ≤ j → ∀ f, it (z_el hB x 1 j) f = j_it hB (z_el hB x 1 j) f)
theorem z_dt.same {hB : j_H} {x k : Nat} {it : Nat → Nat → Int32} (t : z_dt hB x k it) (c : z_in hB x 1 k → z_ca (j_wi hB it) x (z_el hB x 1 k)) : z_dt hB x (k + 1) it := ⟨t.1, fun j hj => ⟨fun z => by
    by_cases e : j = k
    · rw [e]; rw [e] at hj; exact c hj
    · exact (t.2 j hj).1 (by omega), fun z => (t.2 j hj).2 (by omega)⟩⟩
theorem z_dt.st {hB : j_H} {x k e : Nat} {p : Int32} {it it' : Nat → Nat → Int32} (w : j_WF hB x) (I : z_I0 hB x) (t : z_dt hB x k it) (hk : z_in hB x 1 k) (he : z_el hB x 1 k = e) (hp : j_it hB x (j_pf (j_it hB e 1)) = p) (e1 : it' = j_u (j_u it e 8 (z_te p (it e 2) (it e 3) (it e 4))) e 9 (z_tl p (it e 2) (it e 3) (it e 4))) : z_dt hB x (k + 1) it' := by
  have ke : j_kd hB e = some (.inl 7) := by rw [← he]; exact z_k1 w hk
  have g := (t.2 k hk).2 (Nat.le_refl k)
  rw [he] at g
  have R : ∀ q f, it' q f = if q = e ∧ f = 9 then z_tl p (j_it hB e 2) (j_it hB e 3) (j_it hB e 4) else if q = e ∧ f = 8 then z_te p (j_it hB e 2) (j_it hB e 3) (j_it hB e 4) else it q f := fun q f => by
    rw [e1, j_uq, j_uq, g 2, g 3, g 4]
  have s9 : j_Sc z_Sd hB it' := fun q f hq => by
    rw [R, if_neg (fun z => by have := hq 7 (by rw [z.1]; exact ke); rw [z.2] at this; cases this), if_neg (fun z => by have := hq 7 (by rw [z.1]; exact ke); rw [z.2] at this; cases this)]
    exact t.1 q f hq
  refine ⟨s9, fun j hj => ?_⟩
  by_cases hjk : j = k
  · subst hjk
    refine ⟨fun _ => ?_, fun z => by omega⟩
    rw [he]
    have gx : it' x (j_pf (it' e 1)) = p := by
      have : it' e 1 = j_it hB e 1 := s9.at ke rfl
      rw [this]
      exact (s9.at w.1 rfl).trans hp
    unfold z_ca
    show it' e 8 = z_te (it' x (j_pf (it' e 1))) (it' e 2) (it' e 3) (it' e 4) ∧ it' e 9 = z_tl (it' x (j_pf (it' e 1))) (it' e 2) (it' e 3) (it' e 4)
    rw [gx, show it' e 2 = j_it hB e 2 from s9.at ke rfl, show it' e 3 = j_it hB e 3 from s9.at ke rfl, show it' e 4 = j_it hB e 4 from s9.at ke rfl, R e 8, R e 9, if_neg (fun z => absurd z.2 (by decide)), if_pos ⟨rfl, rfl⟩, if_pos ⟨rfl, rfl⟩]
    exact ⟨rfl, rfl⟩
  · have ne : z_el hB x 1 j ≠ e := fun z => by
      have a := (I.2.2.1 j hj).1
      have b := (I.2.2.1 k hk).1
      rw [z, ← he] at a
      omega
    have g' : ∀ f, it' (z_el hB x 1 j) f = it (z_el hB x 1 j) f := fun f => by rw [R, if_neg (fun z => ne z.1), if_neg (fun z => ne z.1)]
    refine ⟨fun z => ?_, fun z f => by rw [g']; exact (t.2 j hj).2 (by omega) f⟩
    have c := (t.2 j hj).1 (by omega)
    unfold z_ca at c ⊢
    have gx : ∀ f, it' x f = it x f := fun f => (s9.at w.1 rfl).trans (t.1.at w.1 rfl).symm
    show it' (z_el hB x 1 j) 8 = z_te (it' x (j_pf (it' (z_el hB x 1 j) 1))) (it' (z_el hB x 1 j) 2) (it' (z_el hB x 1 j) 3) (it' (z_el hB x 1 j) 4) ∧ it' (z_el hB x 1 j) 9 = z_tl (it' x (j_pf (it' (z_el hB x 1 j) 1))) (it' (z_el hB x 1 j) 2) (it' (z_el hB x 1 j) 3) (it' (z_el hB x 1 j) 4)
    rw [g' 8, g' 9, g' 1, g' 2, g' 3, g' 4, gx]
    exact c
/-- a pace told -/
def n_pacez (z : j_Z) (a b : Int32) : j_Z := (j_u1 z.1 (j_pf a) b, z.2)
theorem j_pf34' (a : Int32) : (a.toInt = 0 ∧ j_pf a = 3) ∨ (a.toInt ≠ 0 ∧ j_pf a = 4) := by
  unfold j_pf
  by_cases z : a.toInt = 0
  · exact Or.inl ⟨z, if_pos z⟩
  · exact Or.inr ⟨z, if_neg z⟩
set_option maxHeartbeats 4000000 in
set_option maxRecDepth 20000 in
theorem c_G_pacez {h : j_H} {x : Nat} {a b : Int32} (hW : j_WF h x) (I : z_I h x) (V : z_V (z_c h x)) : j_Ct 127 6 90 1 6 [j_r (some x), j_i a, j_i b] h (fun v h' => ((a.toInt = 0 ∨ a.toInt = 1) ∧ (2 ≤ b.toInt ∧ b.toInt ≤ 200)) ∧ v = some (j_i (j_it h x (j_pf a))) ∧ j_Fs x h h' ∧ z_I h' x ∧ z_eq (z_c h' x) (n_pacez (z_c h x) a b)) (fun k h' => ((k = 2 ∧ ¬ (a.toInt = 0 ∨ a.toInt = 1)) ∨ (k = 0 ∧ (a.toInt = 0 ∨ a.toInt = 1) ∧ ¬ (2 ≤ b.toInt ∧ b.toInt ≤ 200))) ∧ h' = h) := by
  refine j_intro km_127 (Nat.le_of_ble_eq_true rfl) ?_
  intro J hJ hF
  have kx := hW.1
  have z0 : (Int32.ofInt 0).toInt = 0 := by decide
  have z1 : (Int32.ofInt 1).toInt = 1 := by decide
  have y2 : (Int32.ofInt 2).toInt = 2 := by decide
  have y200 : (Int32.ofInt 200).toInt = 200 := by decide
  have LP : ∀ (r5 : Int32), r5 = j_it h x (j_pf a) → (a.toInt = 0 ∨ a.toInt = 1) → (2 ≤ b.toInt ∧ b.toInt ≤ 200) → J 64 [some (j_r (some x)), some (j_i a), some (j_i b), some (j_i r5), some (j_i (Int32.ofInt 0)), none] [] (j_up h x (j_pf a) (j_i b)) 0 0 := by
    intro r5 hr ca cb
    have hf := j_pf34' a
    obtain ⟨fB, IB, qB⟩ := z_x0 (v := b) (f := j_pf a) hW I.1 (by omega)
    have vB : j_it (j_up h x (j_pf a) (j_i b)) x (j_pf a) = b := j_upi
    have vO : ∀ j, j ≠ j_pf a → j_it (j_up h x (j_pf a) (j_i b)) x j = j_it h x j := fun j hj => j_upm hj
    have rB : ∀ k, z_in (j_up h x (j_pf a) (j_i b)) x 1 k → z_in h x 1 k := fun k hk => by
      have := qB.1 1 (by decide)
      have this : j_sz (j_up h x (j_pf a) (j_i b)) x 1 = z_cn h x 1 := this.trans (if_neg (by omega))
      unfold z_in at hk ⊢
      rw [this] at hk
      exact hk
    have eB : ∀ k, z_in h x 1 k → ∀ f, j_it (j_up h x (j_pf a) (j_i b)) (z_el h x 1 k) f = j_it h (z_el h x 1 k) f := fun k hk f => (j_up_ne h (j_i b) (fun z => by have := z_k1 hW hk; rw [z, kx] at this; cases this) f).1
    have elB : ∀ k, z_el (j_up h x (j_pf a) (j_i b)) x 1 k = z_el h x 1 k := fun _ => rfl
    generalize j_up h x (j_pf a) (j_i b) = hB at fB IB qB vB vO rB eB elB ⊢
    obtain ⟨kx, hG, L0, L1, L2, e0, l0, e1, l1, e2, l2, ap, pn⟩ := id fB.1
    have b1 := l1.2.1; have d1 := l1.2.2.1
    have eR : j_sz hB x 1 = j_it hB L1 2 := j_sz_e e1
    have L64 : ∀ (n : Nat) (v8 : Int32) (it : Nat → Nat → Int32), z_dt hB x v8.toNatClampNeg it → 0 ≤ v8.toInt → v8.toInt ≤ (j_it hB L1 2).toInt → (j_it hB L1 2).toInt - v8.toInt < (n : Int) → J 64 [some (j_r (some x)), some (j_i a), some (j_i b), some (j_i r5), some (j_i v8), none] [] (j_wi hB it) 0 0 := by
      intro n
      induction n with
      | zero => intro v8 it t hn hm hz; omega
      | succ n ih64 =>
        intro v8 it t hn hm hz
        have cl := j_clamp hn
        have sc : j_Sc z_S hB it := t.1.mono (fun c k z => by
          unfold z_Sd at z
          obtain ⟨z1, z2⟩ := (Bool.and_eq_true _ _).mp z
          obtain rfl := Nat.eq_of_beq_eq_true z1
          rcases (Bool.or_eq_true _ _).mp z2 with z2 | z2
          · obtain rfl := Nat.eq_of_beq_eq_true z2; rfl
          · obtain rfl := Nat.eq_of_beq_eq_true z2; rfl)
        refine hJ [64] 400 _ _ _ _ _ _ ?_
        conv => whnf
        refine ⟨_, rfl, kx, fun o9 eo => ?_⟩
        obtain rfl : o9 = some L1 := eo.symm.trans e1
        conv => whnf
        refine ⟨l1.1, rfl, _, _, _, _, _, _, c_AL_size (h := hB) l1 sc z_Sok, ⟨Nat.le_of_ble_eq_true rfl, Nat.le_of_ble_eq_true rfl, Nat.le_of_ble_eq_true rfl, Nat.le_of_ble_eq_true rfl⟩, fun _ _ z => False.elim z, ?_⟩
        rintro v9 h9 ⟨rfl, rfl⟩
        conv => whnf
        refine ⟨fun c10 => ?_, fun c10 => ?_⟩
        · have c10 : (j_it hB L1 2).toInt ≤ v8.toInt := c10
          obtain ⟨f1, I1, q1⟩ := z_wi fB.1 IB sc (fun k hk => (t.2 k hk).1 (by unfold z_in at hk; rw [eR] at hk; omega))
          conv => whnf
          refine ⟨trivial, ⟨Nat.le_of_ble_eq_true rfl, Nat.le_of_ble_eq_true rfl⟩, ⟨ca, cb⟩, by rw [hr], fB.tr f1.fs, I1, q1.tr ?_⟩
          refine ⟨fun k hk => qB.1 k hk, fun k i t' hk hi ht => ?_, fun k g hk hg => ?_, fun k g hk hg => ?_, fun k g hk hg => qB.2.2.2.2 k g hk hg⟩
          · exact (t.1.at (z_km fB.1 hk hi).2 rfl).trans (qB.2.1 k i t' hk hi ht)
          · exact (t.1.at (z_k0 fB.1 hk) rfl).trans (qB.2.2.1 k g hk hg)
          · match g, hg with
            | 6, hg => exact (t.1.at (z_k1 fB.1 hk) rfl).trans (qB.2.2.2.1 k 6 hk hg)
            | 0, hg => exact qB.2.2.2.1 k 0 hk hg
            | 1, hg => exact qB.2.2.2.1 k 1 hk hg
            | 2, hg => exact qB.2.2.2.1 k 2 hk hg
            | 3, hg => exact qB.2.2.2.1 k 3 hk hg
            | 4, hg => exact qB.2.2.2.1 k 4 hk hg
            | 5, hg => exact qB.2.2.2.1 k 5 hk hg
            | n + 7, hg => omega
        · have c10 : ¬ (j_it hB L1 2).toInt ≤ v8.toInt := c10
          have hin : z_in hB x 1 v8.toNatClampNeg := by unfold z_in; rw [eR]; omega
          have hin0 := rB _ hin
          have vr := V.2.2.2 _ hin0
          have ca0 := I.2 _ hin0
          have gB := (t.2 _ hin).2 (Nat.le_refl _)
          have eB0 := eB _ hin0
          conv => whnf
          refine ⟨_, rfl, kx, fun o11 eo => ?_⟩
          obtain rfl : o11 = some L1 := eo.symm.trans e1
          conv => whnf
          refine ⟨l1.1, rfl, _, _, _, _, _, _, c_AL_get (h := hB) l1 sc z_Sok (by omega) (by omega), ⟨Nat.le_of_ble_eq_true rfl, Nat.le_of_ble_eq_true rfl, Nat.le_of_ble_eq_true rfl, Nat.le_of_ble_eq_true rfl⟩, fun _ _ z => False.elim z, ?_⟩
          rintro v9 h9 ⟨rfl, e, rfl, ke, xg12⟩
          have he : z_el hB x 1 v8.toNatClampNeg = e := z_el_get e1 xg12
          have he0 : z_el h x 1 v8.toNatClampNeg = e := (elB _).symm.trans he
          rw [he] at gB
          rw [he0] at ca0 eB0
          have w1 : z_cr h x v8.toNatClampNeg 1 = j_it h e 1 := by show j_it h (z_el h x 1 v8.toNatClampNeg) 1 = _; rw [he0]
          have w2 : z_cr h x v8.toNatClampNeg 2 = j_it h e 2 := by show j_it h (z_el h x 1 v8.toNatClampNeg) 2 = _; rw [he0]
          have w3 : z_cr h x v8.toNatClampNeg 3 = j_it h e 3 := by show j_it h (z_el h x 1 v8.toNatClampNeg) 3 = _; rw [he0]
          have w4 : z_cr h x v8.toNatClampNeg 4 = j_it h e 4 := by show j_it h (z_el h x 1 v8.toNatClampNeg) 4 = _; rw [he0]
          have vr : ((j_it h e 1).toInt = 0 ∨ (j_it h e 1).toInt = 1) ∧ (0 ≤ (j_it h e 2).toInt ∧ (j_it h e 2).toInt ≤ 10008) ∧ (0 ≤ (j_it h e 3).toInt ∧ (j_it h e 3).toInt ≤ 10008) ∧ (0 ≤ (j_it h e 4).toInt ∧ (j_it h e 4).toInt ≤ 9) := by
            rw [← w1, ← w2, ← w3, ← w4]
            exact vr
          have t17 : (v8 + Int32.ofInt 1).toInt = v8.toInt + 1 := j_inc1 (by omega)
          have cl2 := j_clamp (i := v8 + Int32.ofInt 1) (by omega)
          have ek : (v8 + Int32.ofInt 1).toNatClampNeg = v8.toNatClampNeg + 1 := by omega
          conv => whnf
          refine ⟨Or.inr ⟨_, rfl, ke⟩, ?_⟩
          conv => whnf
          refine ⟨_, rfl, ke, fun x13 ex13 => ?_⟩
          obtain rfl : x13 = j_it h e 1 := ex13.symm.trans ((gB 1).trans (eB0 1))
          conv => whnf
          refine ⟨fun c16 => ?_, fun c16 => ?_⟩
          · have c16 : ¬ (j_it h e 1).toInt = a.toInt := c16
            have np : j_pf (j_it h e 1) ≠ j_pf a := fun z => by
              rcases j_pf34' (j_it h e 1) with ⟨q1, q2⟩ | ⟨q1, q2⟩
              · rcases hf with ⟨q3, q4⟩ | ⟨q3, q4⟩
                · omega
                · omega
              · rcases hf with ⟨q3, q4⟩ | ⟨q3, q4⟩
                · omega
                · omega
            have cc : z_ca (j_wi hB it) x (z_el hB x 1 v8.toNatClampNeg) := by
              rw [he]
              unfold z_ca at ca0 ⊢
              show it e 8 = z_te (it x (j_pf (it e 1))) (it e 2) (it e 3) (it e 4) ∧ it e 9 = z_tl (it x (j_pf (it e 1))) (it e 2) (it e 3) (it e 4)
              rw [gB 8, gB 9, gB 1, gB 2, gB 3, gB 4, eB0 8, eB0 9, eB0 1, eB0 2, eB0 3, eB0 4, show it x (j_pf (j_it h e 1)) = j_it h x (j_pf (j_it h e 1)) from (t.1.at kx rfl).trans (vO _ np)]
              exact ca0
            exact j_use hF (ih64 _ it (by rw [ek]; exact t.same (fun _ => cc)) (by omega) (by omega) (by omega)) (And.intro rfl (And.intro rfl (And.intro rfl (And.intro rfl (And.intro rfl trivial)))))
          · have c16 : ¬ ¬ (j_it h e 1).toInt = a.toInt := c16
            have ea : j_it h e 1 = a := Int32.toInt_inj.mp (Decidable.not_not.mp c16)
            have t2 := t.st (e := e) (p := b) fB.1 IB hin he (by rw [eB0 1, ea]; exact vB) rfl
            conv => whnf
            refine ⟨ke, rfl, _, _, _, _, _, _, c_dateBx (h := hB) ke cb.1 (by rw [gB 2, eB0 2]; exact vr.2.1.1) (by rw [gB 2, eB0 2]; exact vr.2.1.2) (by rw [gB 3, eB0 3]; exact vr.2.2.1.1) (by rw [gB 3, eB0 3]; exact vr.2.2.1.2) (by rw [gB 4, eB0 4]; exact vr.2.2.2.1) (by rw [gB 4, eB0 4]; exact vr.2.2.2.2), ⟨Nat.le_of_ble_eq_true rfl, Nat.le_of_ble_eq_true rfl, Nat.le_of_ble_eq_true rfl, Nat.le_of_ble_eq_true rfl⟩, fun _ _ z => False.elim z, ?_⟩
            rintro v9 h9 ⟨rfl, rfl⟩
            exact j_use hF (ih64 _ _ (by rw [ek]; exact t2) (by omega) (by omega) (by omega)) (And.intro rfl (And.intro rfl (And.intro rfl (And.intro rfl (And.intro rfl trivial)))))
    have cl0 : (Int32.ofInt 0).toNatClampNeg = 0 := by decide
    exact L64 100 (Int32.ofInt 0) (j_it hB) (by rw [cl0]; exact ⟨j_Sc.rf, fun j _ => ⟨fun z => by omega, fun _ _ => rfl⟩⟩) (by omega) (by omega) (by omega)
  refine hJ [64] 400 _ _ _ _ _ _ ?_
  conv => whnf
  refine ⟨rfl, _, _, _, _, _, _, c_isClockx, ⟨Nat.le_of_ble_eq_true rfl, Nat.le_of_ble_eq_true rfl, Nat.le_of_ble_eq_true rfl, Nat.le_of_ble_eq_true rfl⟩, fun _ _ z => False.elim z, ?_⟩
  rintro v9 h9 ⟨e9, r1, rfl, zr1⟩
  obtain rfl : h = h9 := e9.symm
  conv => whnf
  refine ⟨fun c2 => ?_, fun c2 => ?_⟩
  rotate_left
  · have c2 : ¬ ¬ r1.toInt = 0 := c2
    have ca : ¬ (a.toInt = 0 ∨ a.toInt = 1) := by
      rcases zr1 with ⟨-, q⟩ | ⟨q, -⟩
      · rw [q, z1] at c2; exact absurd (by decide) c2
      · exact q
    conv => whnf
    exact ⟨⟨Nat.le_of_ble_eq_true rfl, Nat.le_of_ble_eq_true rfl⟩, ⟨Nat.le_of_ble_eq_true rfl, Nat.le_of_ble_eq_true rfl⟩, Or.inl ⟨rfl, ca⟩, rfl⟩
  have c2 : ¬ r1.toInt = 0 := c2
  have ca : a.toInt = 0 ∨ a.toInt = 1 := by
    rcases zr1 with ⟨q, -⟩ | ⟨-, q⟩
    · exact q
    · rw [q, z0] at c2; exact absurd rfl c2
  conv => whnf
  refine ⟨rfl, _, _, _, _, _, _, c_within, ⟨Nat.le_of_ble_eq_true rfl, Nat.le_of_ble_eq_true rfl, Nat.le_of_ble_eq_true rfl, Nat.le_of_ble_eq_true rfl⟩, fun _ _ z => False.elim z, ?_⟩
  rintro v8 h8 ⟨e8, r3, rfl, zr3⟩
  obtain rfl : h = h8 := e8.symm
  conv => whnf
  refine ⟨fun c4 => ?_, fun c4 => ?_⟩
  rotate_left
  · have c4 : ¬ ¬ r3.toInt = 0 := c4
    have cb : ¬ (2 ≤ b.toInt ∧ b.toInt ≤ 200) := by
      rcases zr3 with ⟨-, -, q⟩ | ⟨q, -⟩
      · rw [q, z1] at c4; exact absurd (by decide) c4
      · intro z
        refine q ⟨?_, ?_⟩
        · show (Int32.ofInt 2).toInt ≤ _; rw [y2]; exact z.1
        · show _ ≤ (Int32.ofInt 200).toInt; rw [y200]; exact z.2
    conv => whnf
    exact ⟨⟨Nat.le_of_ble_eq_true rfl, Nat.le_of_ble_eq_true rfl⟩, ⟨Nat.le_of_ble_eq_true rfl, Nat.le_of_ble_eq_true rfl⟩, Or.inr ⟨rfl, ca, cb⟩, rfl⟩
  have c4 : ¬ r3.toInt = 0 := c4
  have cb : 2 ≤ b.toInt ∧ b.toInt ≤ 200 := by
    rcases zr3 with ⟨q1, q2, -⟩ | ⟨-, q⟩
    · have q1 : (Int32.ofInt 2).toInt ≤ b.toInt := q1
      have q2 : b.toInt ≤ (Int32.ofInt 200).toInt := q2
      rw [y2] at q1
      rw [y200] at q2
      exact ⟨q1, q2⟩
    · rw [q, z0] at c4; exact absurd rfl c4
  conv => whnf
  refine ⟨kx, rfl, _, _, _, _, _, _, c_paceOfx kx, ⟨Nat.le_of_ble_eq_true rfl, Nat.le_of_ble_eq_true rfl, Nat.le_of_ble_eq_true rfl, Nat.le_of_ble_eq_true rfl⟩, fun _ _ z => False.elim z, ?_⟩
  rintro v7 h7 ⟨e7, zr5⟩
  obtain rfl : h = h7 := e7.symm
  rcases zr5 with ⟨a0, rfl⟩ | ⟨a0, rfl⟩
  · have ep : j_pf a = 3 := if_pos a0
    have lp := LP _ (by rw [ep]) ca cb
    rw [ep] at lp
    conv => whnf
    refine ⟨fun c6 => absurd a0 c6, fun c6 => ?_⟩
    conv => whnf
    refine ⟨_, rfl, kx, ?_⟩
    exact j_use hF lp (And.intro rfl (And.intro rfl (And.intro rfl (And.intro rfl (And.intro rfl trivial)))))
  · have ep : j_pf a = 4 := if_neg a0
    have lp := LP _ (by rw [ep]) ca cb
    rw [ep] at lp
    conv => whnf
    refine ⟨fun c6 => ?_, fun c6 => absurd a0 c6⟩
    conv => whnf
    refine ⟨_, rfl, kx, ?_⟩
    exact j_use hF lp (And.intro rfl (And.intro rfl (And.intro rfl (And.intro rfl (And.intro rfl trivial)))))
theorem c_G_slipz {h : j_H} {x : Nat} {a : Int32} (hW : j_WF h x) (I : z_I h x) : j_Ct 136 6 90 1 6 [j_r (some x), j_i a] h (fun v h' => (0 ≤ a.toInt ∧ a.toInt ≤ 9) ∧ v = some (j_i (j_it h x 5)) ∧ j_Fs x h h' ∧ z_I h' x ∧ z_eq (z_c h' x) (j_u1 (z_cn h x) 5 a, (z_c h x).2)) (fun k h' => k = 0 ∧ ¬ (0 ≤ a.toInt ∧ a.toInt ≤ 9) ∧ h' = h) := by
  refine (c_G_slip hW.1).to (fun v h' g => ?_) (fun _ _ z => z)
  obtain ⟨c, e, e'⟩ := g
  obtain ⟨t1, t2, t3⟩ := z_x (v := a) hW I (Or.inl rfl)
  rw [e']
  exact ⟨c, e, t1, t2, t3⟩
