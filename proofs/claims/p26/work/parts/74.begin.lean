/-! the law from its entry -/
set_option maxHeartbeats 4000000 in
set_option maxRecDepth 20000 in
theorem j_lawstart {J : j_J} {L sc : Nat} {h0 : j_H} (hJ : j_Cl k_law j_lF j_lP j_no J) (hF : j_Fg J) (hL : L ≤ 2560) (ks : j_kd h0 sc = some (.inr 10)) (ls : j_ln h0 sc = L) (hk : ∀ q c, j_kd h0 q ≠ some (.inl c)) (hz : ∃ z t, j_st h0 0 = some z ∧ j_kd h0 z = some (.inr t) ∧ t % 10 = 2 ∧ j_ln h0 z = 0) (sa : j_SA h0) : J 0 (j_ent 7 [j_r (some sc)]) [] h0 0 0 := by
  refine hJ [27] 400 _ _ _ _ _ _ ?_
  conv => whnf
  refine ⟨⟨Nat.le_of_ble_eq_true rfl, Nat.le_of_ble_eq_true rfl⟩, fun x hx => ?_⟩
  show j_go _ _ _ _ _ _ _ _ _ _ (j_nw h0 x (.inl 8) 0) _ _
  have o1 : j_On (fun _ => False) h0 (j_nw h0 x (.inl 8) 0) := j_On.nw hx
  have kx1 : j_kd (j_nw h0 x (.inl 8) 0) x = some (.inl 8) := if_pos rfl
  have k1 : ∀ q c, j_kd (j_nw h0 x (.inl 8) 0) q = some (.inl c) → c = 8 := fun q c hq => by
    by_cases z : q = x
    · rw [z, kx1] at hq; cases hq; rfl
    · exact absurd ((if_neg z).symm.trans hq) (hk q c)
  generalize j_nw h0 x (.inl 8) 0 = h1 at o1 kx1 k1 ⊢
  have hG1 : j_G h1 := ⟨fun a ha => absurd (k1 a 4 ha) (by decide), fun a ha => absurd (k1 a 4 ha) (by decide), fun a ha => absurd (k1 a 7 ha) (by decide), fun a ha => absurd (k1 a 6 ha) (by decide), fun a ha => absurd (k1 a 6 ha) (by decide)⟩
  have hz1 : ∀ {S : Nat → Prop} {h h' : j_H}, j_On S h h' → (∃ z t, j_st h 0 = some z ∧ j_kd h z = some (.inr t) ∧ t % 10 = 2 ∧ j_ln h z = 0) → ∃ z t, j_st h' 0 = some z ∧ j_kd h' z = some (.inr t) ∧ t % 10 = 2 ∧ j_ln h' z = 0 := fun o ⟨z, t, z1, z2, z3, z4⟩ => ⟨z, t, by rw [o.1]; exact z1, (o.2 z (j_nn z2)).1.trans z2, z3, (o.2 z (j_nn z2)).2.1.trans z4⟩
  have hsc : ∀ {S : Nat → Prop} {h h' : j_H}, j_On S h h' → (j_kd h sc = some (.inr 10) ∧ j_ln h sc = L) → j_kd h' sc = some (.inr 10) ∧ j_ln h' sc = L := fun o ⟨a, b⟩ => ⟨(o.2 sc (j_nn a)).1.trans a, (o.2 sc (j_nn a)).2.1.trans b⟩
  have z1 := hz1 o1 hz
  have c1 := hsc o1 ⟨ks, ls⟩
  have a1 := sa.on o1
  conv => whnf
  refine ⟨trivial, rfl, _, _, _, _, _, _, c_G_init5 kx1 hG1 z1, ⟨Nat.le_of_ble_eq_true rfl, Nat.le_of_ble_eq_true rfl, Nat.le_of_ble_eq_true rfl, Nat.le_of_ble_eq_true rfl⟩, fun _ _ z => False.elim z, ?_⟩
  rintro v9 h2 ⟨rfl, sx, wx, ox, fx⟩
  have z2 := hz1 ox z1
  have c2 := hsc ox c1
  have a2 := a1.on ox
  conv => whnf
  refine ⟨⟨Nat.le_of_ble_eq_true rfl, Nat.le_of_ble_eq_true rfl⟩, fun m hm => ?_⟩
  show j_go _ _ _ _ _ _ _ _ _ _ (j_nw h2 m (.inl 12) 0) _ _
  have o3 : j_On (fun _ => False) h2 (j_nw h2 m (.inl 12) 0) := j_On.nw hm
  have km3 : j_kd (j_nw h2 m (.inl 12) 0) m = some (.inl 12) := if_pos rfl
  have k3 : ∀ q c, j_kd (j_nw h2 m (.inl 12) 0) q = some (.inl c) → c ≤ 8 → j_kd h2 q = some (.inl c) := fun q c hq hc => by
    by_cases z : q = m
    · rw [z, km3] at hq; cases hq; omega
    · exact (if_neg z).symm.trans hq
  have y3 : j_it (j_nw h2 m (.inl 12) 0) m 2 = 0 := if_pos rfl
  generalize j_nw h2 m (.inl 12) 0 = h3 at o3 km3 k3 y3 ⊢
  have w3 := wx.off2 o3 (fun _ z => z.elim) (fun q c hq _ h8 => k3 q c hq h8)
  have z3 := hz1 o3 z2
  have c3 := hsc o3 c2
  have a3 := a2.on o3
  conv => whnf
  refine ⟨trivial, rfl, _, _, _, _, _, _, c_Mo_init km3 y3 z3, ⟨Nat.le_of_ble_eq_true rfl, Nat.le_of_ble_eq_true rfl, Nat.le_of_ble_eq_true rfl, Nat.le_of_ble_eq_true rfl⟩, fun _ _ z => False.elim z, ?_⟩
  rintro v9 h4 ⟨rfl, ⟨ρ, P, G, R, Q, mx, sm, ⟨nG, nR, nQ⟩, be⟩, om, nk⟩
  have w4 := w3.1.off2 om (fun q hq ho => by rw [hq] at ho; exact absurd ho (j_now w3.1 km3 (by decide))) (fun q c hq h4 _ => nk q c hq (by omega))
  have c4 := hsc om c3
  have a4 := a3.on om
  conv => whnf
  refine ⟨⟨Nat.le_of_ble_eq_true rfl, Nat.le_of_ble_eq_true rfl⟩, fun out ho => ?_⟩
  show j_go _ _ _ _ _ _ _ _ _ _ (j_nw h4 out (.inl 9) 0) _ _
  have o5 : j_On (fun _ => False) h4 (j_nw h4 out (.inl 9) 0) := j_On.nw ho
  have ko5 : j_kd (j_nw h4 out (.inl 9) 0) out = some (.inl 9) := if_pos rfl
  have k5 : ∀ q c, j_kd (j_nw h4 out (.inl 9) 0) q = some (.inl c) → c ≤ 8 → j_kd h4 q = some (.inl c) := fun q c hq hc => by
    by_cases z : q = out
    · rw [z, ko5] at hq; cases hq; omega
    · exact (if_neg z).symm.trans hq
  generalize j_nw h4 out (.inl 9) 0 = h5 at o5 ko5 k5 ⊢
  have w5 := w4.1.off2 o5 (fun _ z => z.elim) (fun q c hq _ h8 => k5 q c hq h8)
  have m5 := mx.off o5 (fun _ _ _ _ z => z) (fun _ _ z => z) (fun _ _ z => z) (fun _ _ => Or.inl (fun z => z))
  conv => whnf
  refine ⟨trivial, rfl, _, _, _, _, _, _, c_Out_init, ⟨Nat.le_of_ble_eq_true rfl, Nat.le_of_ble_eq_true rfl, Nat.le_of_ble_eq_true rfl, Nat.le_of_ble_eq_true rfl⟩, fun _ _ z => False.elim z, ?_⟩
  rintro v9 h6 ⟨rfl, e6⟩
  obtain rfl : h5 = h6 := e6.symm
  have dj : j_Dj h5 x G R Q := fun q hq hb => by
    have q3 := w4.2.1 q (w5.2.1 q hq)
    have n3 := j_ow_ex w3.1 q3
    rcases hb with (rfl | rfl | rfl) | hb
    · exact absurd nG n3
    · exact absurd nR n3
    · exact absurd nQ n3
    · obtain ⟨b1, t, b2⟩ := be q (m5.2.1 q hb)
      exact ⟨⟨t, (o5.2 q (j_nn b2)).1.trans b2⟩, (o5.2 q (j_nn b2)).2.1.trans b1⟩
  have y3' := z_off wx sx.1 o3 (fun _ z => z.elim)
  have y4' := z_off w3.1 y3'.1 om (fun q hq ho => by rw [hq] at ho; exact absurd ho (j_now w3.1 km3 (by decide)))
  have y5' := z_off w4.1 y4'.1 o5 (fun _ z => z.elim)
  have zs : z_eq (z_c h5 x) z_s0 := y5'.2.tr (y4'.2.tr (y3'.2.tr (z_start sx.2)))
  have lw : j_LW L sc x m out P G R Q h5 := ⟨⟨w5.1, ⟨ρ, m5.1⟩, ko5, a4.on o5, dj, hsc o5 c4⟩, y5'.1, ⟨z_V0.eq zs, z_B0.eq zs⟩, (m5.2.2.tr (z_start sm)).tr zs.sy⟩
  conv => whnf
  exact j_use hF (j_lawloop hJ hF hL 2600 (Int32.ofInt 0) h5 _ _ lw (by decide) (by rw [show (Int32.ofInt 0).toInt = 0 by decide]; omega) (by rw [show (Int32.ofInt 0).toInt = 0 by decide]; omega) (by decide) (by decide)) (And.intro rfl (And.intro rfl (And.intro rfl (And.intro rfl (And.intro rfl trivial)))))
