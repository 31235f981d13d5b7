/-! the model: slip and pace, state for state -/
theorem j_MX.putP {ρ : Nat → Nat} {h : j_H} {m P G R Q i : Nat} {a : Int32} (w : j_MX ρ h m P G R Q) (ha : a ≠ 0) : j_MX ρ (j_ui h P i a) m P G R Q := by
  have ne : ∀ q s, j_kd h q = some s → (s ≠ .inr 0 ∨ ρ q ≠ 1) → ∀ k, j_it (j_ui h P i a) q k = j_it h q k := fun q s hq hs k => (j_up_ne h (j_i a) (fun z => by
    rcases hs with hs | hs
    · rw [z, w.kP] at hq; exact hs (Option.some.inj hq).symm
    · exact hs (by rw [z]; exact w.rP)) k).1
  have lk : ∀ L kk M, j_LK h L kk M → j_LK (j_ui h P i a) L kk M := fun L kk M l => by
    obtain ⟨kL, b0, b1, arr, t, f1, f2, f3, f4, f5, f6⟩ := l
    have i2 := ne L _ kL (Or.inl (fun z => nomatch z)) 2
    exact ⟨kL, by rw [i2]; exact b0, by rw [i2]; exact b1, arr, t, f1, f2, f3, by rw [i2]; exact f4, f5, fun j hj => f6 j (by rw [i2] at hj; exact hj)⟩
  have el : ∀ {L kk M}, j_LK h L kk M → ∀ arr, j_rf h L 1 = some arr → ∀ j e : Nat, (j : Int) < (j_it h L 2).toInt → j_rf h arr j = some e → j_kd h e = some kk := fun {L kk M} l a ha j e hj he => by
    obtain ⟨kL, b0, b1, arr, t, f1, f2, f3, f4, f5, f6⟩ := l
    obtain rfl : arr = a := Option.some.inj (f1.symm.trans ha)
    obtain ⟨y, y1, y2⟩ := f6 j hj
    obtain rfl : y = e := Option.some.inj (y1.symm.trans he)
    exact y2
  have iG := ne G _ w.lG.1 (Or.inl (fun z => nomatch z)) 2
  have iR := ne R _ w.lR.1 (Or.inl (fun z => nomatch z)) 2
  have iQ := ne Q _ w.lQ.1 (Or.inl (fun z => nomatch z)) 2
  refine ⟨w.km, ⟨w.eP, w.kP, w.nP, w.rP, fun k hk => ?_⟩, ⟨w.eG, lk _ _ _ w.lG⟩, ⟨w.eR, lk _ _ _ w.lR⟩, ⟨w.eQ, lk _ _ _ w.lQ⟩, w.ap, ?_, ?_, ?_, w.rz, fun arr a1 j e hj a2 => w.y.1 arr a1 j e (by rw [iG] at hj; exact hj) a2, fun arr a1 j e hj a2 => w.y.2.1 arr a1 j e (by rw [iR] at hj; exact hj) a2, ?_⟩
  · by_cases e : k = i
    · rw [e, show j_it (j_ui h P i a) P i = a from j_u_at]; exact ha
    · rw [show j_it (j_ui h P i a) P k = j_it h P k from j_u_nk e]; exact w.zP k hk
  · intro arr a1 j e hj a2
    rw [iG] at hj
    exact w.aG arr a1 j e hj a2
  · intro arr a1 j e hj a2
    rw [iR] at hj
    have ke := el w.lR arr a1 j e hj a2
    unfold j_rA
    rw [ne e _ ke (Or.inl (fun z => nomatch z)) 1]
    exact w.aR arr a1 j e hj a2
  · intro arr a1 j e hj a2
    rw [iQ] at hj
    have ke := el w.lQ arr a1 j e hj a2
    obtain ⟨g1, g2, g3, g4, g5⟩ := w.aQ arr a1 j e hj a2
    have n := ne e _ ke (Or.inr (by rw [g1]; decide))
    exact ⟨g1, g2, by rw [n 0]; exact g3, by rw [n 0, iR]; exact g4, by rw [n 2]; exact g5⟩
  · obtain ⟨-, -, ν, y3⟩ := w.y
    exact ⟨ν, fun arr a1 j e hj a2 => y3 arr a1 j e (by rw [iG] at hj; exact hj) a2⟩
/-- a pace's cell written -/
theorem z_putP {ρ : Nat → Nat} {h : j_H} {m P G R Q i : Nat} {b : Int32} (w : j_MX ρ h m P G R Q) (hi : i < 2) : z_eq (z_d (j_ui h P i b) m P G R Q) (j_u1 (z_dn h m P G R Q) (3 + i) b, (z_d h m P G R Q).2) := by
  have ne : ∀ q s, j_kd h q = some s → (s ≠ .inr 0 ∨ ρ q ≠ 1) → ∀ k, j_it (j_ui h P i b) q k = j_it h q k := fun q s hq hs k => (j_up_ne h (j_i b) (fun z => by
    rcases hs with hs | hs
    · rw [z, w.kP] at hq; exact hs (Option.some.inj hq).symm
    · exact hs (by rw [z]; exact w.rP)) k).1
  have pe : ∀ j, j_it (j_ui h P i b) P j = if j = i then b else j_it h P j := fun j => by
    by_cases z : j = i
    · rw [if_pos z, z]; exact j_u_at
    · rw [if_neg z]; exact j_u_nk z
  have iG := ne G _ w.lG.1 (Or.inl (by decide)) 2
  have iR := ne R _ w.lR.1 (Or.inl (by decide)) 2
  have iQ := ne Q _ w.lQ.1 (Or.inl (by decide)) 2
  refine ⟨fun k hk => ?_, fun k i' t hk hi' ht => ?_, fun k g hk hg => ?_, fun k g hk hg => ?_, fun k g hk hg => ?_⟩
  · show z_dn (j_ui h P i b) m P G R Q k = j_u1 (z_dn h m P G R Q) (3 + i) b k
    unfold j_u1
    have hi2 : i = 0 ∨ i = 1 := by omega
    match k, hk with
    | 0, _ => rw [if_neg (by omega)]; exact iG
    | 1, _ => rw [if_neg (by omega)]; exact iR
    | 2, _ => rw [if_neg (by omega)]; exact iQ
    | 3, _ =>
      refine (pe 0).trans ?_
      rcases hi2 with rfl | rfl
      · rw [if_pos rfl, if_pos rfl]
      · rw [if_neg (by decide), if_neg (by decide)]; rfl
    | 4, _ =>
      refine (pe 1).trans ?_
      rcases hi2 with rfl | rfl
      · rw [if_neg (by decide), if_neg (by decide)]; rfl
      · rw [if_pos rfl, if_pos rfl]
    | 5, _ => rw [if_neg (by omega)]; exact ne m _ w.km (Or.inl (by decide)) 3
    | 6, _ => rw [if_neg (by omega)]; exact ne m _ w.km (Or.inl (by decide)) 2
    | n + 7, hk => omega
  · have hk : (k : Int) < (j_it (j_ui h P i b) G 2).toInt := hk
    rw [iG] at hk
    obtain ⟨b9, b1, b2, b3, b4, b5⟩ := w.ga hk ht
    show j_it (j_ui h P i b) ((j_rf h (z_ml h G k) t).getD 0) i' = z_dm h G k i' t
    rw [b5, b1, Option.getD_some]
    exact ne b9 _ b2 (Or.inr (by rw [b4]; decide)) i'
  · have hk : (k : Int) < (j_it (j_ui h P i b) G 2).toInt := hk
    rw [iG] at hk
    exact ne _ _ (w.g hk).1 (Or.inl (by decide)) _
  · have hk : (k : Int) < (j_it (j_ui h P i b) R 2).toInt := hk
    rw [iR] at hk
    have ob := ne _ _ (w.r hk).1 (Or.inl (by decide))
    show z_dr (j_ui h P i b) R k g = z_dr h R k g
    match g, hg with
    | 0, _ => exact ob 0
    | 1, _ => exact ob 1
    | 2, _ => exact ob 2
    | 3, _ => exact ob 3
    | 4, _ => exact ob 4
    | 5, _ => exact ob 5
    | 6, _ =>
      show (if (j_it (j_ui h P i b) (z_ml h R k) 6).toInt = 0 then Int32.ofInt 1 else Int32.ofInt 0) = (if (j_it h (z_ml h R k) 6).toInt = 0 then Int32.ofInt 1 else Int32.ofInt 0)
      rw [ob 6]
    | n + 7, h => omega
  · have hk : (k : Int) < (j_it (j_ui h P i b) Q 2).toInt := hk
    rw [iQ] at hk
    obtain ⟨kq, pq⟩ := w.p hk
    exact ne _ _ kq (Or.inr (by rw [pq.1]; decide)) _
theorem c_Mo_slipz {ρ : Nat → Nat} {h : j_H} {m P G R Q : Nat} {a : Int32} (w : j_MX ρ h m P G R Q) : j_Ct 212 1 22 0 0 [j_r (some m), j_i a] h (z_MQ m P G R Q h (q_slip a) (z_dn h m P G R Q 5) (n_slipz (z_d h m P G R Q) a)) j_no := by
  refine (c_Mo_slipx w.km).to (fun v h' g => ?_) (fun _ _ z => z)
  have f1 : j_Mf ρ m h (j_up h m 0 (j_i (Int32.ofInt 0))) := j_Mf.fi w.km (by decide)
  have w1 := w.f f1
  have g1 := f1.mg w
  rcases g with ⟨c1, rfl, e⟩ | ⟨c1, rfl, e⟩
  · rw [e]
    exact z_MQ.ok ⟨ρ, w1.wm⟩ ⟨g1.1.trans (j_On.up (Or.inl (Or.inl ⟨12, w.km, by decide⟩))), fun q hq hz => g1.2.1 q hq hz, fun q c hq h3 h9 => g1.2.2 q c hq h3 h9⟩ ((j_upm (by decide)).trans j_upi) (j_cqp c1) ((z_dmnum w1 (Or.inr ⟨rfl, rfl⟩)).tr (z_num_c (i := 5) (by decide) (z_mfd w f1) rfl)) rfl
  · rw [e]
    exact z_MQ.no w (f1.tr (j_Mf.fi (h := j_up h m 0 (j_i (Int32.ofInt 0))) w.km (by decide))) j_upi (j_cqn c1) (by decide)
theorem c_Mo_pacez {ρ : Nat → Nat} {h : j_H} {m P G R Q : Nat} {a b : Int32} (w : j_MX ρ h m P G R Q) : j_Ct 205 1 22 0 0 [j_r (some m), j_i a, j_i b] h (z_MQ m P G R Q h (q_pace a b) (z_dn h m P G R Q (j_pf a)) (n_pacez (z_d h m P G R Q) a b)) j_no := by
  refine (c_Mo_pacex w).to (fun v h' g => ?_) (fun _ _ z => z)
  have f1 : j_Mf ρ m h (j_up h m 0 (j_i (Int32.ofInt 0))) := j_Mf.fi w.km (by decide)
  have w1 := w.f f1
  have g1 := f1.mg w
  rcases g with ⟨⟨c1, c2⟩, rfl, e⟩ | ⟨c1, rfl, e⟩ | ⟨c1, c2, rfl, e⟩
  · have hb : b ≠ 0 := fun z => by rw [z] at c2; exact absurd c2.1 (by decide)
    have cl : (a.toNatClampNeg : Int) = a.toInt := j_clamp (by omega)
    have ip : j_pf a = 3 + a.toNatClampNeg := by
      rcases j_pf34' a with ⟨q1, q2⟩ | ⟨q1, q2⟩
      · rw [q2]; omega
      · rw [q2]; omega
    have va : j_it h P a.toNatClampNeg = z_dn h m P G R Q (j_pf a) := by
      have a01 : a.toNatClampNeg = 0 ∨ a.toNatClampNeg = 1 := by omega
      rw [ip]
      rcases a01 with z | z
      · rw [z]; rfl
      · rw [z]; rfl
    rw [e]
    refine z_MQ.ok ⟨ρ, w1.putP hb⟩ ⟨g1.1.trans (j_On.up (v := j_i b) (Or.inl (Or.inr w.kP))), fun q hq hz => g1.2.1 q hq hz, fun q c hq h3 h9 => g1.2.2 q c hq h3 h9⟩ ((j_t0i w1.km w1.kP (by decide)).trans j_upi) ((j_cqp c1).trans (j_cqp c2)) ?_ va
    unfold n_pacez
    rw [ip]
    exact (z_putP w1 (by omega)).tr (z_num_c (i := 3 + a.toNatClampNeg) (by omega) (z_mfd w f1) rfl)
  · rw [e]
    exact z_MQ.no w (f1.tr (j_Mf.fi (h := j_up h m 0 (j_i (Int32.ofInt 0))) w.km (by decide))) j_upi (j_cqn c1) (by decide)
  · rw [e]
    exact z_MQ.no w (f1.tr (j_Mf.fi (h := j_up h m 0 (j_i (Int32.ofInt 0))) w.km (by decide))) j_upi ((j_cqp c1).trans (j_cqn c2)) (by decide)
