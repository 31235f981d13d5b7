theorem z_part_0 {z : j_Z} {a : Int32} : z_eq (j_u1 z.1 6 (z.1 6 + a), z.2) (z_part z a 0 0) := by
  refine ⟨fun k hk => rfl, fun k i t hk hi ht => ?_, fun k f hk hf => rfl, fun k f hk hf => rfl, fun k f hk hf => rfl⟩
  show z.2.1 k i t = if k < 0 ∨ (k = 0 ∧ i < 0) then (n_years z a).2.1 k i t else z.2.1 k i t
  rw [if_neg (by omega)]
/-- m's own numbers written -/
theorem z_mint {ρ : Nat → Nat} {h : j_H} {m P G R Q f : Nat} {x : Int32} (w : j_MX ρ h m P G R Q) : ∀ q s, j_kd h q = some s → s ≠ .inl 12 → ∀ j, j_it (j_up h m f (j_i x)) q j = j_it h q j := fun q s hq hs j => (j_up_ne h (j_i x) (fun z => by rw [z, w.km] at hq; exact hs (Option.some.inj hq).symm) j).1
theorem z_dmnum {ρ : Nat → Nat} {h : j_H} {m P G R Q f : Nat} {x : Int32} {k' : Nat} (w : j_MX ρ h m P G R Q) (hf : (f = 2 ∧ k' = 6) ∨ (f = 3 ∧ k' = 5)) : z_eq (z_d (j_up h m f (j_i x)) m P G R Q) (j_u1 (z_dn h m P G R Q) k' x, (z_d h m P G R Q).2) := by
  have ne := z_mint (f := f) (x := x) w
  have iG := ne G _ w.lG.1 (by decide) 2
  have iR := ne R _ w.lR.1 (by decide) 2
  have iQ := ne Q _ w.lQ.1 (by decide) 2
  refine ⟨fun k hk => ?_, fun k i t hk hi ht => ?_, fun k g hk hg => ?_, fun k g hk hg => ?_, fun k g hk hg => ?_⟩
  · show z_dn (j_up h m f (j_i x)) m P G R Q k = j_u1 (z_dn h m P G R Q) k' x k
    unfold j_u1
    match k, hk with
    | 0, _ => rw [if_neg (by omega)]; exact iG
    | 1, _ => rw [if_neg (by omega)]; exact iR
    | 2, _ => rw [if_neg (by omega)]; exact iQ
    | 3, _ => rw [if_neg (by omega)]; exact ne P _ w.kP (by decide) 0
    | 4, _ => rw [if_neg (by omega)]; exact ne P _ w.kP (by decide) 1
    | 5, _ =>
      rcases hf with ⟨rfl, rfl⟩ | ⟨rfl, rfl⟩
      · rw [if_neg (by decide)]; exact j_upm (by decide)
      · rw [if_pos rfl]; exact j_upi
    | 6, _ =>
      rcases hf with ⟨rfl, rfl⟩ | ⟨rfl, rfl⟩
      · rw [if_pos rfl]; exact j_upi
      · rw [if_neg (by decide)]; exact j_upm (by decide)
    | n + 7, hk => omega
  · have hk : (k : Int) < (j_it (j_up h m f (j_i x)) G 2).toInt := hk
    rw [iG] at hk
    obtain ⟨b, b1, b2, b3, b4, b5⟩ := w.ga hk ht
    show j_it (j_up h m f (j_i x)) ((j_rf h (z_ml h G k) t).getD 0) i = z_dm h G k i t
    rw [b5, b1, Option.getD_some]
    exact ne b _ b2 (by decide) i
  · have hk : (k : Int) < (j_it (j_up h m f (j_i x)) G 2).toInt := hk
    rw [iG] at hk
    exact ne _ _ (w.g hk).1 (by decide) _
  · have hk : (k : Int) < (j_it (j_up h m f (j_i x)) R 2).toInt := hk
    rw [iR] at hk
    have ob := ne _ _ (w.r hk).1 (by decide)
    show z_dr (j_up h m f (j_i x)) R k g = z_dr h R k g
    match g, hg with
    | 0, _ => exact ob 0
    | 1, _ => exact ob 1
    | 2, _ => exact ob 2
    | 3, _ => exact ob 3
    | 4, _ => exact ob 4
    | 5, _ => exact ob 5
    | 6, _ =>
      show (if (j_it (j_up h m f (j_i x)) (z_ml h R k) 6).toInt = 0 then Int32.ofInt 1 else Int32.ofInt 0) = (if (j_it h (z_ml h R k) 6).toInt = 0 then Int32.ofInt 1 else Int32.ofInt 0)
      rw [ob 6]
    | n + 7, h => omega
  · have hk : (k : Int) < (j_it (j_up h m f (j_i x)) Q 2).toInt := hk
    rw [iQ] at hk
    exact ne _ _ (w.p hk).1 (by decide) _
theorem z_yearM {ρ : Nat → Nat} {h : j_H} {m P G R Q : Nat} {x : Int32} (w : j_MX ρ h m P G R Q) : z_eq (z_d (j_up h m 2 (j_i x)) m P G R Q) (j_u1 (z_d h m P G R Q).1 6 x, (z_d h m P G R Q).2) := z_dmnum w (Or.inl ⟨rfl, rfl⟩)
/-! the model: years go by, word for word -/
def z_PT (ρ : Nat → Nat) (m P G R Q : Nat) (z : j_Z) (a : Int32) (h : j_H) (n c : Nat) (hh : j_H) : Prop := j_MX ρ hh m P G R Q ∧ j_Mg m G R Q h hh ∧ z_eq (z_d hh m P G R Q) (z_part z a n c) ∧ j_it hh m 0 = Int32.ofInt 0
section PT
variable {ρ : Nat → Nat} {h hh h1 : j_H} {m P G R Q n c : Nat} {z : j_Z} {a : Int32}
theorem z_PT.f (p : z_PT ρ m P G R Q z a h n c hh) (st : j_Mf ρ m hh h1) (t : j_it h1 m 0 = Int32.ofInt 0) : z_PT ρ m P G R Q z a h n c h1 := ⟨p.1.f st, p.2.1.tr p.1 (st.mg p.1), (z_mfd p.1 st).tr p.2.2.1, t⟩
theorem z_PT.st {b d : Nat} (p : z_PT ρ m P G R Q z a h n c hh) (hn : (n : Int) < (j_it hh G 2).toInt) (hb : j_rf hh (z_ml hh G n) 0 = some b) (hd : j_rf hh (z_ml hh G n) 1 = some d) : z_PT ρ m P G R Q z a h n (c + 1) (j_ui (j_ui hh b c (z_lf z a n c)) d c (z.2.1 n c 1 + (z.2.1 n c 0 - z_lf z a n c))) := by
  obtain ⟨w, g, e, t⟩ := p
  obtain ⟨w1, g1, e1, m1⟩ := z_setM (i := c) (x := z_lf z a n c) w hn (by decide) hb
  have s1 : j_it (j_ui hh b c (z_lf z a n c)) G 2 = j_it hh G 2 := e1.1 0 (by decide)
  obtain ⟨w2, g2, e2, m2⟩ := z_setM (k := n) (t := 1) (b := d) (i := c) (x := z.2.1 n c 1 + (z.2.1 n c 0 - z_lf z a n c)) w1 (by rw [s1]; exact hn) (by decide) hd
  exact ⟨w2, (g.tr w g1).tr w1 g2, (e2.tr (n_set_c (e1.tr (n_set_c e rfl)) rfl)).tr z_part_st, (m2 0).trans ((m1 0).trans t)⟩
end PT
set_option maxHeartbeats 4000000 in
set_option maxRecDepth 20000 in
theorem c_Mo_passz {ρ : Nat → Nat} {h : j_H} {m P G R Q : Nat} {a : Int32} (w : j_MX ρ h m P G R Q) (V : z_V (z_d h m P G R Q)) : j_Ct 206 3 61 1 4 [j_r (some m), j_i a] h (z_MQ m P G R Q h (q_pass (z_dn h m P G R Q) a) (z_dn h m P G R Q 6 + a) (n_years (z_d h m P G R Q) a)) j_no := by
  refine j_intro km_206 (Nat.le_of_ble_eq_true rfl) ?_
  intro J hJ hF
  have q0 : (Int32.ofInt 0).toInt = 0 := by decide
  have q2 : (Int32.ofInt 2).toInt = 2 := by decide
  have In : 0 ≤ a.toInt → ∀ (k : Nat) (i e : Nat) (c : Int32) (hh : j_H) (n : Nat) (cn sn : Nat), (∀ (h2 : j_H) (cn sn : Nat), z_PT ρ m P G R Q (z_d h m P G R Q) a h (n + 1) 0 h2 → j_Ir h2 i G ((n : Int) + 1) → cn ≤ 1 → sn ≤ 4 → J 58 [some (j_r (some m)), some (j_i a), some (j_r (some i)), none, none, none] [] h2 cn sn) →
      z_PT ρ m P G R Q (z_d h m P G R Q) a h n c.toNatClampNeg hh → j_Ir hh i G ((n : Int) + 1) → z_ml hh G n = e → (n : Int) < (j_it hh G 2).toInt → cn ≤ 1 → sn ≤ 4 → 0 ≤ c.toInt → c.toInt ≤ 2 → 2 - c.toInt < (k : Int) → J 80 [some (j_r (some m)), some (j_i a), some (j_r (some i)), some (j_r (some e)), some (j_i c), none] [] hh cn sn := by
    intro a0 k
    induction k with
    | zero => intro i e c hh n cn sn back p r he hn hc hs c0 c2 hk; omega
    | succ k ih =>
      intro i e c hh n cn sn back p r he hn hc hs c0 c2 hk
      have clc := j_clamp c0
      refine hJ [58, 80] 400 _ _ _ _ _ _ ?_
      conv => whnf
      refine ⟨fun q => ?_, fun q => ?_⟩
      · have q : (Int32.ofInt 2).toInt ≤ c.toInt := q
        have c9 : c.toNatClampNeg = 2 := by omega
        rw [c9] at p
        exact j_use hF (back hh cn sn ⟨p.1, p.2.1, p.2.2.1.tr z_part_n, p.2.2.2⟩ r hc hs) (And.intro rfl (And.intro rfl (And.intro rfl trivial)))
      have q : ¬ (Int32.ofInt 2).toInt ≤ c.toInt := q
      have cN : c.toNatClampNeg < 2 := by omega
      have w1 := p.1
      have e1 := p.2.2.1
      obtain ⟨ke, -, -⟩ := w1.g hn
      obtain ⟨b, b1, b2, b3, b4, b5⟩ := w1.ga hn (show 0 < 4 by decide)
      obtain ⟨d, d1, d2, d3, d4, d5⟩ := w1.ga hn (show 1 < 4 by decide)
      have nbd : b ≠ d := fun z => absurd (w1.ai hn hn (show 0 < 4 by decide) (show 1 < 4 by decide) b1 (by rw [z]; exact d1)).2 (by decide)
      have hz : z_lt (z_d h m P G R Q) 0 n := by
        have e0 : j_it hh G 2 = (z_d h m P G R Q).1 0 := e1.1 0 (by decide)
        show (n : Int) < ((z_d h m P G R Q).1 0).toInt
        rw [← e0]; exact hn
      have nt : ∀ t, t < 4 → z_dm hh G n c.toNatClampNeg t = (z_d h m P G R Q).2.1 n c.toNatClampNeg t := fun t ht => (e1.2.1 n c.toNatClampNeg t hn cN ht).trans (if_neg (by omega))
      have vb : j_it hh b c.toNatClampNeg = (z_d h m P G R Q).2.1 n c.toNatClampNeg 0 := (b5 _).symm.trans (nt 0 (by decide))
      have vd : j_it hh d c.toNatClampNeg = (z_d h m P G R Q).2.1 n c.toNatClampNeg 1 := (d5 _).symm.trans (nt 1 (by decide))
      have vp : j_it hh P c.toNatClampNeg = (z_d h m P G R Q).1 (3 + c.toNatClampNeg) := by
        have c01 : c.toNatClampNeg = 0 ∨ c.toNatClampNeg = 1 := by omega
        rcases c01 with z | z
        · rw [z]; exact e1.1 3 (by decide)
        · rw [z]; exact e1.1 4 (by decide)
      have Vp : 2 ≤ ((z_d h m P G R Q).1 (3 + c.toNatClampNeg)).toInt := by
        have c01 : c.toNatClampNeg = 0 ∨ c.toNatClampNeg = 1 := by omega
        rcases c01 with z | z
        · rw [z]; exact V.1.1.1
        · rw [z]; exact V.1.2.1
      have Vm := (V.2.2.1 n c.toNatClampNeg hz cN).1
      have v2 : vp_in c 2 := j_vp c0 (by omega)
      subst he
      conv => whnf
      refine ⟨_, rfl, ke, fun o eo => ?_⟩
      obtain rfl : o = some b := eo.symm.trans b1
      conv => whnf
      refine ⟨_, _, rfl, b2, rfl, by rw [b3]; exact v2, fun x ex => ?_⟩
      obtain rfl : x = (z_d h m P G R Q).2.1 n c.toNatClampNeg 0 := ex.symm.trans vb
      conv => whnf
      refine ⟨_, rfl, ke, fun o eo => ?_⟩
      obtain rfl : o = some b := eo.symm.trans b1
      conv => whnf
      refine ⟨_, rfl, w1.km, fun o eo => ?_⟩
      obtain rfl : o = some P := eo.symm.trans w1.eP
      conv => whnf
      refine ⟨_, _, rfl, w1.kP, rfl, by rw [w1.nP]; exact v2, fun y ey => ?_⟩
      obtain rfl : y = (z_d h m P G R Q).1 (3 + c.toNatClampNeg) := ey.symm.trans vp
      conv => whnf
      refine ⟨rfl, _, _, _, _, _, _, c_Mo_leftx Vp Vm a0, ⟨Nat.le_of_ble_eq_true rfl, Nat.le_of_ble_eq_true rfl, by (try dsimp only); omega, by (try dsimp only); omega⟩, fun _ _ z => False.elim z, ?_⟩
      rintro v9 h9 ⟨e9, rfl⟩
      obtain rfl : hh = h9 := e9.symm
      conv => whnf
      refine ⟨_, rfl, b2, by rw [b3]; exact v2, ?_⟩
      conv => whnf
      refine ⟨_, rfl, ke, fun o eo => ?_⟩
      obtain rfl : o = some d := eo.symm.trans d1
      conv => whnf
      refine ⟨_, _, rfl, d2, rfl, show vp_in c (j_ln hh d) by rw [d3]; exact v2, fun x2 ex2 => ?_⟩
      obtain rfl : x2 = (z_d h m P G R Q).2.1 n c.toNatClampNeg 1 := ex2.symm.trans ((show j_u (j_it hh) b c.toNatClampNeg (z_lf (z_d h m P G R Q) a n c.toNatClampNeg) d c.toNatClampNeg = j_it hh d c.toNatClampNeg from j_u_ne nbd.symm).trans vd)
      conv => whnf
      refine ⟨_, rfl, ke, fun o eo => ?_⟩
      obtain rfl : o = some b := eo.symm.trans b1
      conv => whnf
      refine ⟨_, _, rfl, b2, rfl, show vp_in c (j_ln hh b) by rw [b3]; exact v2, fun x3 ex3 => ?_⟩
      obtain rfl : x3 = z_lf (z_d h m P G R Q) a n c.toNatClampNeg := ex3.symm.trans (show j_u (j_it hh) b c.toNatClampNeg (z_lf (z_d h m P G R Q) a n c.toNatClampNeg) b c.toNatClampNeg = z_lf (z_d h m P G R Q) a n c.toNatClampNeg from j_u_at)
      conv => whnf
      refine ⟨_, rfl, d2, show vp_in c (j_ln hh d) by rw [d3]; exact v2, ?_⟩
      have p2 := p.st hn b1 d1
      have tc : (c + Int32.ofInt 1).toInt = c.toInt + 1 := j_inc1 (by omega)
      have ec : (c + Int32.ofInt 1).toNatClampNeg = c.toNatClampNeg + 1 := by
        have := j_clamp (i := c + Int32.ofInt 1) (by omega)
        omega
      rw [← ec] at p2
      have r1 := r.ui (a := b) (k := c.toNatClampNeg) (x := z_lf (z_d h m P G R Q) a n c.toNatClampNeg) b2 w1.lG.1
      have r2 := r1.ui (a := d) (k := c.toNatClampNeg) (x := (z_d h m P G R Q).2.1 n c.toNatClampNeg 1 + ((z_d h m P G R Q).2.1 n c.toNatClampNeg 0 - z_lf (z_d h m P G R Q) a n c.toNatClampNeg)) d2 w1.lG.1
      have n2 : (n : Int) < (j_it (j_ui (j_ui hh b c.toNatClampNeg (z_lf (z_d h m P G R Q) a n c.toNatClampNeg)) d c.toNatClampNeg ((z_d h m P G R Q).2.1 n c.toNatClampNeg 1 + ((z_d h m P G R Q).2.1 n c.toNatClampNeg 0 - z_lf (z_d h m P G R Q) a n c.toNatClampNeg))) G 2).toInt := by
        have e0 : _ = (z_d h m P G R Q).1 0 := p2.2.2.1.1 0 (by decide)
        exact (congrArg (fun x : Int32 => (n : Int) < x.toInt) e0).mpr hz
      conv => whnf
      exact j_use hF (ih i (z_ml hh G n) (c + Int32.ofInt 1) _ n _ _ back p2 r2 rfl n2 (by (try dsimp only); omega) (by (try dsimp only); omega) (by omega) (by omega) (by omega)) (And.intro rfl (And.intro rfl (And.intro rfl (And.intro rfl (And.intro rfl trivial)))))
  have L : (1 ≤ a.toInt ∧ a.toInt ≤ 300) → (z_dn h m P G R Q 6 + a).toInt ≤ 3000 → ∀ (k i : Nat) (hh : j_H) (n : Nat) (cn sn : Nat), z_PT ρ m P G R Q (z_d h m P G R Q) a h n 0 hh → j_Ir hh i G (n : Int) → cn ≤ 1 → sn ≤ 4 → ((j_it hh G 2).toInt - (n : Int)).toNat < k → J 58 [some (j_r (some m)), some (j_i a), some (j_r (some i)), none, none, none] [] hh cn sn := by
    intro hr hy k
    induction k with
    | zero => intro i hh n cn sn p r hc hs hk; omega
    | succ k ih =>
      intro i hh n cn sn p r hc hs hk
      have w1 := p.1
      have wbb := w1.b
      have r0 := r
      obtain ⟨ki, r3, m2, c0, n0, nz⟩ := r0
      refine hJ [58, 80] 400 _ _ _ _ _ _ ?_
      conv => whnf
      refine ⟨ki, rfl, _, _, _, _, _, _, c_IT_hasNext ki r3 w1.lG.1, ⟨Nat.le_of_ble_eq_true rfl, Nat.le_of_ble_eq_true rfl, by (try dsimp only); omega, by (try dsimp only); omega⟩, fun _ _ z => False.elim z, ?_⟩
      rintro v9 h9 ⟨e9, b9, rfl, hb9⟩
      obtain rfl : hh = h9 := e9.symm
      conv => whnf
      refine ⟨fun c => ?_, fun c => ?_⟩
      · have c : b9.toInt = 0 := c
        have hn : (n : Int) = (j_it hh G 2).toInt := by
          rcases hb9 with ⟨q, -⟩ | ⟨-, q⟩
          · omega
          · omega
        have e0 : j_it hh G 2 = (z_d h m P G R Q).1 0 := p.2.2.1.1 0 (by decide)
        have eA := p.2.2.1.tr (z_part_all (z := z_d h m P G R Q) (a := a) (n := n) (by rw [← e0]; omega))
        conv => whnf
        refine ⟨_, rfl, w1.km, fun y ey => ?_⟩
        obtain rfl : y = j_it hh m 2 := ey.symm
        conv => whnf
        exact ⟨trivial, ⟨by (try dsimp only); omega, by (try dsimp only); omega⟩, z_MQ.ok ⟨ρ, w1⟩ p.2.1 p.2.2.2 ((j_cqp hr).trans (j_cqp hy)) eA (eA.1 6 (by decide))⟩
      · have c : ¬ b9.toInt = 0 := c
        have hn : (n : Int) < (j_it hh G 2).toInt := by
          rcases hb9 with ⟨-, q⟩ | ⟨q, -⟩
          · omega
          · exact absurd q c
        have cl := j_clamp (i := j_it hh i 0) (by omega)
        conv => whnf
        refine ⟨ki, rfl, _, _, _, _, _, _, c_IT_next ki r3 m2 w1.lG (by omega) (by omega), ⟨Nat.le_of_ble_eq_true rfl, Nat.le_of_ble_eq_true rfl, by (try dsimp only); omega, by (try dsimp only); omega⟩, fun _ _ z => False.elim z, ?_⟩
        rintro v9 h9 ⟨⟨e, arr, rfl, ke, a1, a2⟩, e9⟩
        have he : z_ml hh G n = e := by
          have en : (j_it hh i 0).toNatClampNeg = n := by omega
          rw [en] at a2
          exact z_ml_of a1 a2
        obtain ⟨st, rn⟩ := r.next (ρ := ρ) (m := m) w1.km w1.lG.1 hn (by omega)
        have t9 : j_it h9 m 0 = Int32.ofInt 0 := by
          rw [e9]
          have ni : m ≠ i := fun z => by have := w1.km; rw [z, ki] at this; cases this
          exact ((j_up_ne _ _ ni 0).1).trans (((j_up_ne _ _ ni 0).1).trans p.2.2.2)
        rw [← e9] at st rn
        have z9 := congrArg Int32.toInt (st.sz w1.lG.1)
        have he9 : z_ml h9 G n = e := (z_ml_f st w1.lG hn).trans he
        have k0 : (Int32.ofInt 0).toNatClampNeg = 0 := by decide
        conv => whnf
        refine ⟨Or.inr ⟨_, rfl, st.kd ke⟩, ?_⟩
        conv => whnf
        exact j_use hF (In (by omega) 4 i e (Int32.ofInt 0) h9 n _ _ (fun h2 cn sn p2 r2 hc hs => ih i h2 (n + 1) cn sn p2 (by rw [show ((n + 1 : Nat) : Int) = (n : Int) + 1 from rfl]; exact r2) hc hs (by
          have e0 : j_it hh G 2 = (z_d h m P G R Q).1 0 := p.2.2.1.1 0 (by decide)
          have e2 : j_it h2 G 2 = (z_d h m P G R Q).1 0 := p2.2.2.1.1 0 (by decide)
          rw [e2, ← e0]
          omega)) (by rw [k0]; exact p.f st t9) rn he9 (by omega) (by (try dsimp only); omega) (by (try dsimp only); omega) (by omega) (by omega) (by omega)) (And.intro rfl (And.intro rfl (And.intro rfl (And.intro rfl (And.intro rfl trivial)))))
  refine hJ [58] 400 _ _ _ _ _ _ ?_
  conv => whnf
  refine ⟨_, rfl, w.km, ?_⟩
  show j_go _ _ _ _ _ _ _ _ _ _ (j_up h m 0 (j_i (Int32.ofInt (0)))) _ _
  have st1 : j_Mf ρ m h (j_up h m 0 (j_i (Int32.ofInt (0)))) := j_Mf.fi w.km (by decide)
  have tH1 : j_it (j_up h m 0 (j_i (Int32.ofInt (0)))) m 0 = Int32.ofInt 0 := j_upi
  generalize j_up h m 0 (j_i (Int32.ofInt (0))) = h1 at st1 tH1 ⊢
  have w1 := w.f st1
  have y1 : j_it h1 m 2 = z_dn h m P G R Q 6 := st1.2.1.2 2 (Or.inl rfl)
  conv => whnf
  refine ⟨rfl, _, _, _, _, _, _, c_Mo_isx, ⟨Nat.le_of_ble_eq_true rfl, Nat.le_of_ble_eq_true rfl, Nat.le_of_ble_eq_true rfl, Nat.le_of_ble_eq_true rfl⟩, fun _ _ z => False.elim z, ?_⟩
  rintro v9 h9 ⟨e9, r, rfl, zr⟩
  have mr := j_zx zr
  have z1 : (Int32.ofInt 1).toInt = 1 := by decide
  have z300 : ((Int16.ofInt 300).toInt32).toInt = 300 := by decide
  obtain rfl : h1 = h9 := e9.symm
  conv => whnf
  refine ⟨fun c => ?_, fun c => ?_⟩
  rotate_left
  · have c : ¬ ¬ r.toInt = 0 := c
    conv => whnf
    refine ⟨w1.km, rfl, _, _, _, _, _, _, c_Mo_refusex w1.km, ⟨Nat.le_of_ble_eq_true rfl, Nat.le_of_ble_eq_true rfl, Nat.le_of_ble_eq_true rfl, Nat.le_of_ble_eq_true rfl⟩, fun _ _ z => False.elim z, ?_⟩
    rintro v8 h8 ⟨rfl, e8⟩
    have st8 : j_Mf ρ m h1 h8 := by rw [e8]; exact j_Mf.fi w1.km (by decide)
    have t8 : j_it h8 m 0 = Int32.ofInt 1 := by rw [e8]; exact j_upi
    conv => whnf
    exact ⟨trivial, ⟨Nat.le_of_ble_eq_true rfl, Nat.le_of_ble_eq_true rfl⟩, z_MQ.no w (st1.tr st8) t8 (j_cqn (by omega)) (by decide)⟩
  have c : ¬ r.toInt = 0 := c
  have hr : 1 ≤ a.toInt ∧ a.toInt ≤ 300 := by omega
  have z3000 : ((Int16.ofInt 3000).toInt32).toInt = 3000 := by decide
  conv => whnf
  refine ⟨_, rfl, w1.km, fun y ey => ?_⟩
  obtain rfl : y = z_dn h m P G R Q 6 := ey.symm.trans y1
  conv => whnf
  refine ⟨fun c2 => ?_, fun c2 => ?_⟩
  rotate_left
  · have c2 : ¬ (z_dn h m P G R Q 6 + a).toInt ≤ ((Int16.ofInt 3000).toInt32).toInt := c2
    rw [z3000] at c2
    have cs := c2
    conv => whnf
    refine ⟨w1.km, rfl, _, _, _, _, _, _, c_Mo_refusex w1.km, ⟨Nat.le_of_ble_eq_true rfl, Nat.le_of_ble_eq_true rfl, Nat.le_of_ble_eq_true rfl, Nat.le_of_ble_eq_true rfl⟩, fun _ _ z => False.elim z, ?_⟩
    rintro v8 h8 ⟨rfl, e8⟩
    have st8 : j_Mf ρ m h1 h8 := by rw [e8]; exact j_Mf.fi w1.km (by decide)
    have t8 : j_it h8 m 0 = Int32.ofInt 2 := by rw [e8]; exact j_upi
    conv => whnf
    exact ⟨trivial, ⟨Nat.le_of_ble_eq_true rfl, Nat.le_of_ble_eq_true rfl⟩, z_MQ.no w (st1.tr st8) t8 ((j_cqp hr).trans (j_cqn cs)) (by decide)⟩
  have c2 : (z_dn h m P G R Q 6 + a).toInt ≤ ((Int16.ofInt 3000).toInt32).toInt := c2
  rw [z3000] at c2
  conv => whnf
  refine ⟨_, rfl, w1.km, fun y2 ey2 => ?_⟩
  obtain rfl : y2 = z_dn h m P G R Q 6 := ey2.symm.trans y1
  conv => whnf
  refine ⟨_, rfl, w1.km, ?_⟩
  show j_go _ _ _ _ _ _ _ _ _ _ (j_up h1 m 2 (j_i (z_dn h m P G R Q 6 + a))) _ _
  have w2 : j_MX ρ (j_up h1 m 2 (j_i (z_dn h m P G R Q 6 + a))) m P G R Q := w1.wm
  have tH2 : j_it (j_up h1 m 2 (j_i (z_dn h m P G R Q 6 + a))) m 0 = Int32.ofInt 0 := (j_upm (by decide)).trans tH1
  have e2 : z_eq (z_d (j_up h1 m 2 (j_i (z_dn h m P G R Q 6 + a))) m P G R Q) (z_part (z_d h m P G R Q) a 0 0) := (z_yearM w1).tr ((z_num_c (i := 6) (by decide) (z_mfd w st1) rfl).tr z_part_0)
  have o2 : j_Mg m G R Q h (j_up h1 m 2 (j_i (z_dn h m P G R Q 6 + a))) := by
    have g1 := st1.mg w
    refine ⟨g1.1.trans (j_On.up (Or.inl (Or.inl ⟨12, w.km, by decide⟩))), fun q hq hz => g1.2.1 q hq hz, fun q c hq h3 h9 => g1.2.2 q c hq h3 h9⟩
  generalize j_up h1 m 2 (j_i (z_dn h m P G R Q 6 + a)) = h2 at w2 tH2 e2 o2 ⊢
  have wb2 := w2.b
  conv => whnf
  refine ⟨_, rfl, w2.km, fun o eo => ?_⟩
  obtain rfl : o = some G := eo.symm.trans w2.eG
  conv => whnf
  refine ⟨w2.lG.1, rfl, _, _, _, _, _, _, c_AL_iterator w2.lG.1, ⟨Nat.le_of_ble_eq_true rfl, Nat.le_of_ble_eq_true rfl, Nat.le_of_ble_eq_true rfl, Nat.le_of_ble_eq_true rfl⟩, fun _ _ z => False.elim z, ?_⟩
  rintro v9 h9 ⟨i, rfl, hi, o, od, ki, r3, m2, c0⟩
  have kR9 : j_kd h9 G = some (.inl 3) := (o.2 G (j_nn w2.lG.1)).1.trans w2.lG.1
  have zR9 : j_it h9 G 2 = j_it h2 G 2 := ((o.2 G (j_nn w2.lG.1)).2.2 (fun z => z) 2).1
  obtain ⟨st, r0⟩ := j_Ir.new (ρ := ρ) w2.km kR9 hi o od ki r3 m2 c0 (by rw [zR9]; omega)
  have p2 : z_PT ρ m P G R Q (z_d h m P G R Q) a h 0 0 h2 := ⟨w2, o2, e2, tH2⟩
  exact j_use hF (L hr c2 100 i h9 0 _ _ (p2.f st (((o.2 m (j_nn w2.km)).2.2 (fun z => z) 0).1.trans tH2)) r0 (Nat.le_of_ble_eq_true rfl) (Nat.le_of_ble_eq_true rfl) (by rw [zR9]; omega)) (And.intro rfl (And.intro rfl (And.intro rfl trivial)))
