/-! span and wider of the object: word for word -/
set_option maxHeartbeats 4000000 in
set_option maxRecDepth 20000 in
theorem c_G_spanx {h : j_H} {x : Nat} {a b c : Int32} (hW : j_WF h x) (I : z_I h x) : j_Ct 137 6 90 1 6 [j_r (some x), j_i a, j_i b, j_i c] h (fun v h' => (((0 ≤ a.toInt ∧ a.toInt < (j_sz h x 0).toInt) ∧ (b.toInt = -1 ∨ b.toInt = 0 ∨ b.toInt = 1)) ∧ (0 ≤ c.toInt ∧ c.toInt ≤ 2)) ∧ v = some (j_i (z_sq (z_c h x) a.toNatClampNeg b c.toNatClampNeg)) ∧ h' = h) (fun k h' => ((k = 2 ∧ ¬ ((0 ≤ a.toInt ∧ a.toInt < (j_sz h x 0).toInt) ∧ (b.toInt = -1 ∨ b.toInt = 0 ∨ b.toInt = 1))) ∨ (k = 0 ∧ ((0 ≤ a.toInt ∧ a.toInt < (j_sz h x 0).toInt) ∧ (b.toInt = -1 ∨ b.toInt = 0 ∨ b.toInt = 1)) ∧ ¬ (0 ≤ c.toInt ∧ c.toInt ≤ 2))) ∧ h' = h) := by
  refine j_intro km_137 (Nat.le_of_ble_eq_true rfl) ?_
  intro J hJ hF
  obtain ⟨kx, hG, L0, L1, L2, e0, l0, e1, l1, e2, l2, ap, pn⟩ := id hW
  have z0 : (Int32.ofInt 0).toInt = 0 := by decide
  have z1 : (Int32.ofInt 1).toInt = 1 := by decide
  have z2 : (Int32.ofInt 2).toInt = 2 := by decide
  have zm : (Int32.ofInt (-1)).toInt = -1 := by decide
  have eG : j_sz h x 0 = j_it h L0 2 := j_sz_e e0
  have eR : j_sz h x 1 = j_it h L1 2 := j_sz_e e1
  refine hJ [] 400 _ _ _ _ _ _ ?_
  conv => whnf
  refine ⟨kx, rfl, _, _, _, _, _, _, c_isGrainx hW e0, ⟨Nat.le_of_ble_eq_true rfl, Nat.le_of_ble_eq_true rfl, Nat.le_of_ble_eq_true rfl, Nat.le_of_ble_eq_true rfl⟩, fun _ _ z => False.elim z, ?_⟩
  rintro v9 h9 ⟨e9, r1, rfl, zr1⟩
  have mr1 := j_zy zr1
  obtain rfl : h = h9 := e9.symm
  conv => whnf
  refine ⟨fun c3 => ?_, fun c3 => ?_⟩
  · have c3 : r1.toInt = 0 := c3
    have ka : ¬ (0 ≤ a.toInt ∧ a.toInt < (j_sz h x 0).toInt) := by
      rw [eG]
      rcases mr1 with ⟨q, -⟩ | ⟨-, q⟩
      · exact absurd c3 q
      · exact q
    conv => whnf
    exact ⟨⟨Nat.le_of_ble_eq_true rfl, Nat.le_of_ble_eq_true rfl⟩, ⟨Nat.le_of_ble_eq_true rfl, Nat.le_of_ble_eq_true rfl⟩, Or.inl ⟨rfl, fun z => ka z.1⟩, rfl⟩
  · have c3 : ¬ r1.toInt = 0 := c3
    have ka : 0 ≤ a.toInt ∧ a.toInt < (j_sz h x 0).toInt := by
      rw [eG]
      rcases mr1 with ⟨-, q⟩ | ⟨q, -⟩
      · exact q
      · exact absurd q c3
    have ka' : 0 ≤ a.toInt ∧ a.toInt < (j_it h L0 2).toInt := by rw [← eG]; exact ka
    have hin : z_in h x 0 a.toNatClampNeg := by unfold z_in; rw [j_clamp ka.1]; exact ka.2
    conv => whnf
    refine ⟨fun c6 => ?_, fun c6 => ?_⟩
    · have c6 : b.toInt = (Int32.ofInt (-1)).toInt := c6
      have kb : b.toInt = -1 ∨ b.toInt = 0 ∨ b.toInt = 1 := Or.inl (c6.trans zm)
      conv => whnf
      refine ⟨rfl, _, _, _, _, _, _, c_within, ⟨Nat.le_of_ble_eq_true rfl, Nat.le_of_ble_eq_true rfl, Nat.le_of_ble_eq_true rfl, Nat.le_of_ble_eq_true rfl⟩, fun _ _ z => False.elim z, ?_⟩
      rintro v9 h9 ⟨e9, r7, rfl, zr7⟩
      have mr7 := j_zx zr7
      obtain rfl : h = h9 := e9.symm
      conv => whnf
      refine ⟨fun c8 => ?_, fun c8 => ?_⟩
      · have c8 : ¬ r7.toInt = 0 := c8
        have kc : 0 ≤ c.toInt ∧ c.toInt ≤ 2 := by
          rcases mr7 with ⟨-, q1, q2⟩ | ⟨q, -⟩
          · have q1 : (Int32.ofInt 0).toInt ≤ c.toInt := q1
            have q2 : c.toInt ≤ (Int32.ofInt 2).toInt := q2
            omega
          · exact absurd q c8
        conv => whnf
        refine ⟨_, rfl, kx, fun o9 eo => ?_⟩
        obtain rfl : o9 = some L0 := eo.symm.trans e0
        conv => whnf
        refine ⟨l0.1, rfl, _, _, _, _, _, _, c_AL_get (h := h) l0 j_Sc.rf j_sf_ok ka'.1 ka'.2, ⟨Nat.le_of_ble_eq_true rfl, Nat.le_of_ble_eq_true rfl, Nat.le_of_ble_eq_true rfl, Nat.le_of_ble_eq_true rfl⟩, fun _ _ z => False.elim z, ?_⟩
        rintro v9 h9 ⟨e9, e, rfl, ke, xg7⟩
        obtain rfl : h = h9 := e9.symm
        have he : z_el h x 0 a.toNatClampNeg = e := z_el_get e0 xg7
        conv => whnf
        refine ⟨Or.inr ⟨_, rfl, ke⟩, ?_⟩
        conv => whnf
        refine ⟨kx, rfl, _, _, _, _, _, _, c_G_earlyOfx hW I hin he, ⟨Nat.le_of_ble_eq_true rfl, Nat.le_of_ble_eq_true rfl, Nat.le_of_ble_eq_true rfl, Nat.le_of_ble_eq_true rfl⟩, fun _ _ z => False.elim z, ?_⟩
        rintro v9 h9 ⟨e9, rfl⟩
        obtain rfl : h = h9 := e9.symm
        conv => whnf
        refine ⟨kx, rfl, _, _, _, _, _, _, c_G_lateOfx hW I hin he, ⟨Nat.le_of_ble_eq_true rfl, Nat.le_of_ble_eq_true rfl, Nat.le_of_ble_eq_true rfl, Nat.le_of_ble_eq_true rfl⟩, fun _ _ z => False.elim z, ?_⟩
        rintro v9 h9 ⟨e9, rfl⟩
        obtain rfl : h = h9 := e9.symm
        have clc := j_clamp kc.1
        generalize hE : z_eO (z_c h x) a.toNatClampNeg b (Int32.ofInt (-1)) = E
        generalize hL : z_lO (z_c h x) a.toNatClampNeg b (Int32.ofInt (-1)) = F
        conv => whnf
        refine ⟨fun c15 => ?_, fun c15 => ?_⟩
        · have c15 : ¬ c.toInt = 0 := c15
          conv => whnf
          refine ⟨fun c18 => ?_, fun c18 => ?_⟩
          · have c18 : ¬ c.toInt = (Int32.ofInt 1).toInt := c18
            rw [z1] at c18
            conv => whnf
            refine ⟨fun c21 => ?_, fun c21 => ?_⟩
            · have c21 : E.toInt ≤ F.toInt := c21
              conv => whnf
              refine ⟨rfl, _, _, _, _, _, _, c_oneIfx, ⟨Nat.le_of_ble_eq_true rfl, Nat.le_of_ble_eq_true rfl, Nat.le_of_ble_eq_true rfl, Nat.le_of_ble_eq_true rfl⟩, fun _ _ z => False.elim z, ?_⟩
              rintro v9 h9 ⟨e9, rfl⟩
              obtain rfl : h = h9 := e9.symm
              conv => whnf
              refine ⟨trivial, ⟨Nat.le_of_ble_eq_true rfl, Nat.le_of_ble_eq_true rfl⟩, ⟨⟨ka, kb⟩, kc⟩, congrArg (fun r => some (j_i r)) ?_, rfl⟩
              unfold z_sq
              rw [if_neg (show ¬ c.toNatClampNeg = 0 by omega), if_neg (show ¬ c.toNatClampNeg = 1 by omega), hE, hL, decide_eq_false (show ¬ F.toInt < E.toInt by omega)]
              exact if_pos (by decide)
            · have c21 : ¬ E.toInt ≤ F.toInt := c21
              conv => whnf
              refine ⟨rfl, _, _, _, _, _, _, c_oneIfx, ⟨Nat.le_of_ble_eq_true rfl, Nat.le_of_ble_eq_true rfl, Nat.le_of_ble_eq_true rfl, Nat.le_of_ble_eq_true rfl⟩, fun _ _ z => False.elim z, ?_⟩
              rintro v9 h9 ⟨e9, rfl⟩
              obtain rfl : h = h9 := e9.symm
              conv => whnf
              refine ⟨trivial, ⟨Nat.le_of_ble_eq_true rfl, Nat.le_of_ble_eq_true rfl⟩, ⟨⟨ka, kb⟩, kc⟩, congrArg (fun r => some (j_i r)) ?_, rfl⟩
              unfold z_sq
              rw [if_neg (show ¬ c.toNatClampNeg = 0 by omega), if_neg (show ¬ c.toNatClampNeg = 1 by omega), hE, hL, decide_eq_true (show F.toInt < E.toInt by omega)]
              exact if_neg (by decide)
          · have c18 : ¬ ¬ c.toInt = (Int32.ofInt 1).toInt := c18
            have c18 : c.toInt = 1 := (Classical.not_not.mp c18).trans z1
            conv => whnf
            refine ⟨trivial, ⟨Nat.le_of_ble_eq_true rfl, Nat.le_of_ble_eq_true rfl⟩, ⟨⟨ka, kb⟩, kc⟩, congrArg (fun r => some (j_i r)) ?_, rfl⟩
            unfold z_sq
            rw [if_neg (show ¬ c.toNatClampNeg = 0 by omega), if_pos (show c.toNatClampNeg = 1 by omega), hL]
        · have c15 : ¬ ¬ c.toInt = 0 := c15
          have c15 : c.toInt = 0 := Classical.not_not.mp c15
          conv => whnf
          refine ⟨trivial, ⟨Nat.le_of_ble_eq_true rfl, Nat.le_of_ble_eq_true rfl⟩, ⟨⟨ka, kb⟩, kc⟩, congrArg (fun r => some (j_i r)) ?_, rfl⟩
          unfold z_sq
          rw [if_pos (show c.toNatClampNeg = 0 by omega), hE]
      · have c8 : ¬ ¬ r7.toInt = 0 := c8
        have kc : ¬ (0 ≤ c.toInt ∧ c.toInt ≤ 2) := by
          rcases mr7 with ⟨q, -⟩ | ⟨-, q⟩
          · exact absurd q c8
          · intro z
            refine q ⟨?_, ?_⟩
            · show (Int32.ofInt 0).toInt ≤ _; omega
            · show _ ≤ (Int32.ofInt 2).toInt; omega
        conv => whnf
        exact ⟨⟨Nat.le_of_ble_eq_true rfl, Nat.le_of_ble_eq_true rfl⟩, ⟨Nat.le_of_ble_eq_true rfl, Nat.le_of_ble_eq_true rfl⟩, Or.inr ⟨rfl, ⟨ka, kb⟩, kc⟩, rfl⟩
    · have c6 : ¬ b.toInt = (Int32.ofInt (-1)).toInt := c6
      conv => whnf
      refine ⟨rfl, _, _, _, _, _, _, c_isClockx, ⟨Nat.le_of_ble_eq_true rfl, Nat.le_of_ble_eq_true rfl, Nat.le_of_ble_eq_true rfl, Nat.le_of_ble_eq_true rfl⟩, fun _ _ z => False.elim z, ?_⟩
      rintro v9 h9 ⟨e9, r5, rfl, zr5⟩
      have mr5 := j_zy zr5
      obtain rfl : h = h9 := e9.symm
      conv => whnf
      refine ⟨fun c7 => ?_, fun c7 => ?_⟩
      rotate_left
      · have c7 : ¬ ¬ r5.toInt = 0 := c7
        have kb : ¬ (b.toInt = -1 ∨ b.toInt = 0 ∨ b.toInt = 1) := by
          rcases mr5 with ⟨q, -⟩ | ⟨-, q⟩
          · exact absurd q c7
          · omega
        conv => whnf
        exact ⟨⟨Nat.le_of_ble_eq_true rfl, Nat.le_of_ble_eq_true rfl⟩, ⟨Nat.le_of_ble_eq_true rfl, Nat.le_of_ble_eq_true rfl⟩, Or.inl ⟨rfl, fun z => kb z.2⟩, rfl⟩
      · have c7 : ¬ r5.toInt = 0 := c7
        have kb : b.toInt = -1 ∨ b.toInt = 0 ∨ b.toInt = 1 := by
          rcases mr5 with ⟨-, q⟩ | ⟨q, -⟩
          · omega
          · exact absurd q c7
        conv => whnf
        refine ⟨rfl, _, _, _, _, _, _, c_within, ⟨Nat.le_of_ble_eq_true rfl, Nat.le_of_ble_eq_true rfl, Nat.le_of_ble_eq_true rfl, Nat.le_of_ble_eq_true rfl⟩, fun _ _ z => False.elim z, ?_⟩
        rintro v9 h9 ⟨e9, r7, rfl, zr7⟩
        have mr7 := j_zx zr7
        obtain rfl : h = h9 := e9.symm
        conv => whnf
        refine ⟨fun c8 => ?_, fun c8 => ?_⟩
        · have c8 : ¬ r7.toInt = 0 := c8
          have kc : 0 ≤ c.toInt ∧ c.toInt ≤ 2 := by
            rcases mr7 with ⟨-, q1, q2⟩ | ⟨q, -⟩
            · have q1 : (Int32.ofInt 0).toInt ≤ c.toInt := q1
              have q2 : c.toInt ≤ (Int32.ofInt 2).toInt := q2
              omega
            · exact absurd q c8
          conv => whnf
          refine ⟨_, rfl, kx, fun o9 eo => ?_⟩
          obtain rfl : o9 = some L0 := eo.symm.trans e0
          conv => whnf
          refine ⟨l0.1, rfl, _, _, _, _, _, _, c_AL_get (h := h) l0 j_Sc.rf j_sf_ok ka'.1 ka'.2, ⟨Nat.le_of_ble_eq_true rfl, Nat.le_of_ble_eq_true rfl, Nat.le_of_ble_eq_true rfl, Nat.le_of_ble_eq_true rfl⟩, fun _ _ z => False.elim z, ?_⟩
          rintro v9 h9 ⟨e9, e, rfl, ke, xg7⟩
          obtain rfl : h = h9 := e9.symm
          have he : z_el h x 0 a.toNatClampNeg = e := z_el_get e0 xg7
          conv => whnf
          refine ⟨Or.inr ⟨_, rfl, ke⟩, ?_⟩
          conv => whnf
          refine ⟨kx, rfl, _, _, _, _, _, _, c_G_earlyOfx hW I hin he, ⟨Nat.le_of_ble_eq_true rfl, Nat.le_of_ble_eq_true rfl, Nat.le_of_ble_eq_true rfl, Nat.le_of_ble_eq_true rfl⟩, fun _ _ z => False.elim z, ?_⟩
          rintro v9 h9 ⟨e9, rfl⟩
          obtain rfl : h = h9 := e9.symm
          conv => whnf
          refine ⟨kx, rfl, _, _, _, _, _, _, c_G_lateOfx hW I hin he, ⟨Nat.le_of_ble_eq_true rfl, Nat.le_of_ble_eq_true rfl, Nat.le_of_ble_eq_true rfl, Nat.le_of_ble_eq_true rfl⟩, fun _ _ z => False.elim z, ?_⟩
          rintro v9 h9 ⟨e9, rfl⟩
          obtain rfl : h = h9 := e9.symm
          have clc := j_clamp kc.1
          generalize hE : z_eO (z_c h x) a.toNatClampNeg b (Int32.ofInt (-1)) = E
          generalize hL : z_lO (z_c h x) a.toNatClampNeg b (Int32.ofInt (-1)) = F
          conv => whnf
          refine ⟨fun c15 => ?_, fun c15 => ?_⟩
          · have c15 : ¬ c.toInt = 0 := c15
            conv => whnf
            refine ⟨fun c18 => ?_, fun c18 => ?_⟩
            · have c18 : ¬ c.toInt = (Int32.ofInt 1).toInt := c18
              rw [z1] at c18
              conv => whnf
              refine ⟨fun c21 => ?_, fun c21 => ?_⟩
              · have c21 : E.toInt ≤ F.toInt := c21
                conv => whnf
                refine ⟨rfl, _, _, _, _, _, _, c_oneIfx, ⟨Nat.le_of_ble_eq_true rfl, Nat.le_of_ble_eq_true rfl, Nat.le_of_ble_eq_true rfl, Nat.le_of_ble_eq_true rfl⟩, fun _ _ z => False.elim z, ?_⟩
                rintro v9 h9 ⟨e9, rfl⟩
                obtain rfl : h = h9 := e9.symm
                conv => whnf
                refine ⟨trivial, ⟨Nat.le_of_ble_eq_true rfl, Nat.le_of_ble_eq_true rfl⟩, ⟨⟨ka, kb⟩, kc⟩, congrArg (fun r => some (j_i r)) ?_, rfl⟩
                unfold z_sq
                rw [if_neg (show ¬ c.toNatClampNeg = 0 by omega), if_neg (show ¬ c.toNatClampNeg = 1 by omega), hE, hL, decide_eq_false (show ¬ F.toInt < E.toInt by omega)]
                exact if_pos (by decide)
              · have c21 : ¬ E.toInt ≤ F.toInt := c21
                conv => whnf
                refine ⟨rfl, _, _, _, _, _, _, c_oneIfx, ⟨Nat.le_of_ble_eq_true rfl, Nat.le_of_ble_eq_true rfl, Nat.le_of_ble_eq_true rfl, Nat.le_of_ble_eq_true rfl⟩, fun _ _ z => False.elim z, ?_⟩
                rintro v9 h9 ⟨e9, rfl⟩
                obtain rfl : h = h9 := e9.symm
                conv => whnf
                refine ⟨trivial, ⟨Nat.le_of_ble_eq_true rfl, Nat.le_of_ble_eq_true rfl⟩, ⟨⟨ka, kb⟩, kc⟩, congrArg (fun r => some (j_i r)) ?_, rfl⟩
                unfold z_sq
                rw [if_neg (show ¬ c.toNatClampNeg = 0 by omega), if_neg (show ¬ c.toNatClampNeg = 1 by omega), hE, hL, decide_eq_true (show F.toInt < E.toInt by omega)]
                exact if_neg (by decide)
            · have c18 : ¬ ¬ c.toInt = (Int32.ofInt 1).toInt := c18
              have c18 : c.toInt = 1 := (Classical.not_not.mp c18).trans z1
              conv => whnf
              refine ⟨trivial, ⟨Nat.le_of_ble_eq_true rfl, Nat.le_of_ble_eq_true rfl⟩, ⟨⟨ka, kb⟩, kc⟩, congrArg (fun r => some (j_i r)) ?_, rfl⟩
              unfold z_sq
              rw [if_neg (show ¬ c.toNatClampNeg = 0 by omega), if_pos (show c.toNatClampNeg = 1 by omega), hL]
          · have c15 : ¬ ¬ c.toInt = 0 := c15
            have c15 : c.toInt = 0 := Classical.not_not.mp c15
            conv => whnf
            refine ⟨trivial, ⟨Nat.le_of_ble_eq_true rfl, Nat.le_of_ble_eq_true rfl⟩, ⟨⟨ka, kb⟩, kc⟩, congrArg (fun r => some (j_i r)) ?_, rfl⟩
            unfold z_sq
            rw [if_pos (show c.toNatClampNeg = 0 by omega), hE]
        · have c8 : ¬ ¬ r7.toInt = 0 := c8
          have kc : ¬ (0 ≤ c.toInt ∧ c.toInt ≤ 2) := by
            rcases mr7 with ⟨q, -⟩ | ⟨-, q⟩
            · exact absurd q c8
            · intro z
              refine q ⟨?_, ?_⟩
              · show (Int32.ofInt 0).toInt ≤ _; omega
              · show _ ≤ (Int32.ofInt 2).toInt; omega
          conv => whnf
          exact ⟨⟨Nat.le_of_ble_eq_true rfl, Nat.le_of_ble_eq_true rfl⟩, ⟨Nat.le_of_ble_eq_true rfl, Nat.le_of_ble_eq_true rfl⟩, Or.inr ⟨rfl, ⟨ka, kb⟩, kc⟩, rfl⟩
set_option maxHeartbeats 4000000 in
set_option maxRecDepth 20000 in
theorem c_G_widerx {h : j_H} {x : Nat} {a b : Int32} (hW : j_WF h x) (I : z_I h x) : j_Ct 141 6 90 1 6 [j_r (some x), j_i a, j_i b] h (fun v h' => (((0 ≤ a.toInt ∧ a.toInt < (j_sz h x 0).toInt) ∧ (0 ≤ b.toInt ∧ b.toInt < (j_sz h x 1).toInt)) ∧ (¬ (z_cr h x b.toNatClampNeg 6).toInt = 0)) ∧ v = some (j_i (z_wd (z_c h x) a.toNatClampNeg b)) ∧ h' = h) (fun k h' => ((k = 2 ∧ ¬ ((0 ≤ a.toInt ∧ a.toInt < (j_sz h x 0).toInt) ∧ (0 ≤ b.toInt ∧ b.toInt < (j_sz h x 1).toInt))) ∨ (k = 1 ∧ ((0 ≤ a.toInt ∧ a.toInt < (j_sz h x 0).toInt) ∧ (0 ≤ b.toInt ∧ b.toInt < (j_sz h x 1).toInt)) ∧ ¬ (¬ (z_cr h x b.toNatClampNeg 6).toInt = 0))) ∧ h' = h) := by
  refine j_intro km_141 (Nat.le_of_ble_eq_true rfl) ?_
  intro J hJ hF
  obtain ⟨kx, hG, L0, L1, L2, e0, l0, e1, l1, e2, l2, ap, pn⟩ := id hW
  have z0 : (Int32.ofInt 0).toInt = 0 := by decide
  have z1 : (Int32.ofInt 1).toInt = 1 := by decide
  have z2 : (Int32.ofInt 2).toInt = 2 := by decide
  have zm : (Int32.ofInt (-1)).toInt = -1 := by decide
  have eG : j_sz h x 0 = j_it h L0 2 := j_sz_e e0
  have eR : j_sz h x 1 = j_it h L1 2 := j_sz_e e1
  refine hJ [] 400 _ _ _ _ _ _ ?_
  conv => whnf
  refine ⟨kx, rfl, _, _, _, _, _, _, c_isGrainx hW e0, ⟨Nat.le_of_ble_eq_true rfl, Nat.le_of_ble_eq_true rfl, Nat.le_of_ble_eq_true rfl, Nat.le_of_ble_eq_true rfl⟩, fun _ _ z => False.elim z, ?_⟩
  rintro v9 h9 ⟨e9, r1, rfl, zr1⟩
  have mr1 := j_zy zr1
  obtain rfl : h = h9 := e9.symm
  conv => whnf
  refine ⟨fun c3 => ?_, fun c3 => ?_⟩
  · have c3 : r1.toInt = 0 := c3
    have ka : ¬ (0 ≤ a.toInt ∧ a.toInt < (j_sz h x 0).toInt) := by
      rw [eG]
      rcases mr1 with ⟨q, -⟩ | ⟨-, q⟩
      · exact absurd c3 q
      · exact q
    conv => whnf
    exact ⟨⟨Nat.le_of_ble_eq_true rfl, Nat.le_of_ble_eq_true rfl⟩, ⟨Nat.le_of_ble_eq_true rfl, Nat.le_of_ble_eq_true rfl⟩, Or.inl ⟨rfl, fun z => ka z.1⟩, rfl⟩
  · have c3 : ¬ r1.toInt = 0 := c3
    have ka : 0 ≤ a.toInt ∧ a.toInt < (j_sz h x 0).toInt := by
      rw [eG]
      rcases mr1 with ⟨-, q⟩ | ⟨q, -⟩
      · exact q
      · exact absurd q c3
    have ka' : 0 ≤ a.toInt ∧ a.toInt < (j_it h L0 2).toInt := by rw [← eG]; exact ka
    have hin : z_in h x 0 a.toNatClampNeg := by unfold z_in; rw [j_clamp ka.1]; exact ka.2
    conv => whnf
    refine ⟨kx, rfl, _, _, _, _, _, _, c_isRunx hW e1, ⟨Nat.le_of_ble_eq_true rfl, Nat.le_of_ble_eq_true rfl, Nat.le_of_ble_eq_true rfl, Nat.le_of_ble_eq_true rfl⟩, fun _ _ z => False.elim z, ?_⟩
    rintro v9 h9 ⟨e9, r4, rfl, zr4⟩
    have mr4 := j_zy zr4
    obtain rfl : h = h9 := e9.symm
    conv => whnf
    refine ⟨fun c6 => ?_, fun c6 => ?_⟩
    rotate_left
    · have c6 : ¬ ¬ r4.toInt = 0 := c6
      have kb : ¬ (0 ≤ b.toInt ∧ b.toInt < (j_sz h x 1).toInt) := by
        rw [eR]
        rcases mr4 with ⟨q, -⟩ | ⟨-, q⟩
        · exact absurd q c6
        · exact q
      conv => whnf
      exact ⟨⟨Nat.le_of_ble_eq_true rfl, Nat.le_of_ble_eq_true rfl⟩, ⟨Nat.le_of_ble_eq_true rfl, Nat.le_of_ble_eq_true rfl⟩, Or.inl ⟨rfl, fun z => kb z.2⟩, rfl⟩
    · have c6 : ¬ r4.toInt = 0 := c6
      have kb : 0 ≤ b.toInt ∧ b.toInt < (j_sz h x 1).toInt := by
        rw [eR]
        rcases mr4 with ⟨-, q⟩ | ⟨q, -⟩
        · exact q
        · exact absurd q c6
      have kb' : 0 ≤ b.toInt ∧ b.toInt < (j_it h L1 2).toInt := by rw [← eR]; exact kb
      conv => whnf
      refine ⟨_, rfl, kx, fun o7 eo => ?_⟩
      obtain rfl : o7 = some L1 := eo.symm.trans e1
      conv => whnf
      refine ⟨l1.1, rfl, _, _, _, _, _, _, c_AL_get (h := h) l1 j_Sc.rf j_sf_ok kb'.1 kb'.2, ⟨Nat.le_of_ble_eq_true rfl, Nat.le_of_ble_eq_true rfl, Nat.le_of_ble_eq_true rfl, Nat.le_of_ble_eq_true rfl⟩, fun _ _ z => False.elim z, ?_⟩
      rintro v9 h9 ⟨e9, y, rfl, ky, xg8⟩
      obtain rfl : h = h9 := e9.symm
      have hy : z_el h x 1 b.toNatClampNeg = y := z_el_get e1 xg8
      have c6' : z_cr h x b.toNatClampNeg 6 = j_it h y 7 := by
        show j_it h (z_el h x 1 b.toNatClampNeg) 7 = _
        rw [hy]
      conv => whnf
      refine ⟨Or.inr ⟨_, rfl, ky⟩, ?_⟩
      conv => whnf
      refine ⟨_, rfl, ky, fun x9 ex9 => ?_⟩
      obtain rfl : x9 = j_it h y 7 := ex9.symm
      conv => whnf
      refine ⟨fun c10 => ?_, fun c10 => ?_⟩
      rotate_left
      · have c10 : ¬ ¬ (j_it h y 7).toInt = 0 := c10
        conv => whnf
        exact ⟨⟨Nat.le_of_ble_eq_true rfl, Nat.le_of_ble_eq_true rfl⟩, ⟨Nat.le_of_ble_eq_true rfl, Nat.le_of_ble_eq_true rfl⟩, Or.inr ⟨rfl, ⟨ka, kb⟩, fun z => z (by rw [c6']; exact Classical.not_not.mp c10)⟩, rfl⟩
      · have c10 : ¬ (j_it h y 7).toInt = 0 := c10
        conv => whnf
        refine ⟨_, rfl, kx, fun o9 eo => ?_⟩
        obtain rfl : o9 = some L0 := eo.symm.trans e0
        conv => whnf
        refine ⟨l0.1, rfl, _, _, _, _, _, _, c_AL_get (h := h) l0 j_Sc.rf j_sf_ok ka'.1 ka'.2, ⟨Nat.le_of_ble_eq_true rfl, Nat.le_of_ble_eq_true rfl, Nat.le_of_ble_eq_true rfl, Nat.le_of_ble_eq_true rfl⟩, fun _ _ z => False.elim z, ?_⟩
        rintro v9 h9 ⟨e9, e, rfl, ke, xg7⟩
        obtain rfl : h = h9 := e9.symm
        have he : z_el h x 0 a.toNatClampNeg = e := z_el_get e0 xg7
        conv => whnf
        refine ⟨Or.inr ⟨_, rfl, ke⟩, ?_⟩
        conv => whnf
        refine ⟨kx, rfl, _, _, _, _, _, _, c_G_lateOfx hW I hin he, ⟨Nat.le_of_ble_eq_true rfl, Nat.le_of_ble_eq_true rfl, Nat.le_of_ble_eq_true rfl, Nat.le_of_ble_eq_true rfl⟩, fun _ _ z => False.elim z, ?_⟩
        rintro v9 h9 ⟨e9, rfl⟩
        obtain rfl : h = h9 := e9.symm
        conv => whnf
        refine ⟨kx, rfl, _, _, _, _, _, _, c_G_earlyOfx hW I hin he, ⟨Nat.le_of_ble_eq_true rfl, Nat.le_of_ble_eq_true rfl, Nat.le_of_ble_eq_true rfl, Nat.le_of_ble_eq_true rfl⟩, fun _ _ z => False.elim z, ?_⟩
        rintro v9 h9 ⟨e9, rfl⟩
        obtain rfl : h = h9 := e9.symm
        conv => whnf
        refine ⟨kx, rfl, _, _, _, _, _, _, c_G_lateOfx hW I hin he, ⟨Nat.le_of_ble_eq_true rfl, Nat.le_of_ble_eq_true rfl, Nat.le_of_ble_eq_true rfl, Nat.le_of_ble_eq_true rfl⟩, fun _ _ z => False.elim z, ?_⟩
        rintro v9 h9 ⟨e9, rfl⟩
        obtain rfl : h = h9 := e9.symm
        conv => whnf
        refine ⟨kx, rfl, _, _, _, _, _, _, c_G_earlyOfx hW I hin he, ⟨Nat.le_of_ble_eq_true rfl, Nat.le_of_ble_eq_true rfl, Nat.le_of_ble_eq_true rfl, Nat.le_of_ble_eq_true rfl⟩, fun _ _ z => False.elim z, ?_⟩
        rintro v9 h9 ⟨e9, rfl⟩
        obtain rfl : h = h9 := e9.symm
        conv => whnf
        exact ⟨trivial, ⟨Nat.le_of_ble_eq_true rfl, Nat.le_of_ble_eq_true rfl⟩, ⟨⟨ka, kb⟩, by rw [c6']; exact c10⟩, rfl, rfl⟩
set_option maxHeartbeats 4000000 in
set_option maxRecDepth 20000 in
theorem c_Lw_spanx {h : j_H} {x out : Nat} {a b c : Int32} (hW : j_WF h x) (I : z_I h x) (ko : j_kd h out = some (.inl 9)) : j_Ct 246 7 116 1 6 [j_r (some x), j_i a, j_i b, j_i c, j_r (some out)] h (z_LQ x out h (q_span (z_c h x) a b c) (z_sq (z_c h x) a.toNatClampNeg b c.toNatClampNeg) (z_c h x)) j_no := by
  refine j_intro km_246 (Nat.le_of_ble_eq_true rfl) ?_
  intro J hJ hF
  refine hJ [] 400 _ _ _ _ _ _ ?_
  conv => whnf
  refine ⟨hW.1, rfl, _, _, _, _, _, _, c_G_spanx hW I, ⟨Nat.le_of_ble_eq_true rfl, Nat.le_of_ble_eq_true rfl, Nat.le_of_ble_eq_true rfl, Nat.le_of_ble_eq_true rfl⟩, ?_, ?_⟩
  · rintro k9 h9 ⟨hk, e9⟩
    obtain rfl : h = h9 := e9.symm
    rcases hk with ⟨rfl, c1⟩ | ⟨rfl, c1, c2⟩
    · conv => whnf
      intro a9
      conv => whnf
      exact ⟨trivial, ⟨Nat.le_of_ble_eq_true rfl, Nat.le_of_ble_eq_true rfl⟩, z_LQ.no hW I (j_cqn c1) (by decide)⟩
    · conv => whnf
      intro a9
      conv => whnf
      exact ⟨trivial, ⟨Nat.le_of_ble_eq_true rfl, Nat.le_of_ble_eq_true rfl⟩, z_LQ.no hW I ((j_cqp c1).trans (j_cqn c2)) (by decide)⟩
  · rintro v9 h9 ⟨⟨c1, c2⟩, rfl, e9⟩
    obtain rfl : h = h9 := e9.symm
    conv => whnf
    refine ⟨_, rfl, ko, ?_⟩
    conv => whnf
    exact ⟨trivial, ⟨Nat.le_of_ble_eq_true rfl, Nat.le_of_ble_eq_true rfl⟩, z_LQ.ok ko ((j_cqp c1).trans (j_cqp c2)) ⟨hW, j_On.rf, fun _ z _ => z⟩ I z_eq.rf⟩
set_option maxHeartbeats 4000000 in
set_option maxRecDepth 20000 in
theorem c_Lw_widerx {h : j_H} {x out : Nat} {a b : Int32} (hW : j_WF h x) (I : z_I h x) (ko : j_kd h out = some (.inl 9)) : j_Ct 250 7 115 1 6 [j_r (some x), j_i a, j_i b, j_r (some out)] h (z_LQ x out h (q_wider (z_c h x) a b) (z_wd (z_c h x) a.toNatClampNeg b) (z_c h x)) j_no := by
  refine j_intro km_250 (Nat.le_of_ble_eq_true rfl) ?_
  intro J hJ hF
  refine hJ [] 400 _ _ _ _ _ _ ?_
  conv => whnf
  refine ⟨hW.1, rfl, _, _, _, _, _, _, c_G_widerx hW I, ⟨Nat.le_of_ble_eq_true rfl, Nat.le_of_ble_eq_true rfl, Nat.le_of_ble_eq_true rfl, Nat.le_of_ble_eq_true rfl⟩, ?_, ?_⟩
  · rintro k9 h9 ⟨hk, e9⟩
    obtain rfl : h = h9 := e9.symm
    rcases hk with ⟨rfl, c1⟩ | ⟨rfl, c1, c2⟩
    · conv => whnf
      intro a9
      conv => whnf
      exact ⟨trivial, ⟨Nat.le_of_ble_eq_true rfl, Nat.le_of_ble_eq_true rfl⟩, z_LQ.no hW I (j_cqn c1) (by decide)⟩
    · conv => whnf
      intro a9
      conv => whnf
      exact ⟨trivial, ⟨Nat.le_of_ble_eq_true rfl, Nat.le_of_ble_eq_true rfl⟩, z_LQ.no hW I ((j_cqp c1).trans (j_cqn c2)) (by decide)⟩
  · rintro v9 h9 ⟨⟨c1, c2⟩, rfl, e9⟩
    obtain rfl : h = h9 := e9.symm
    conv => whnf
    refine ⟨_, rfl, ko, ?_⟩
    conv => whnf
    exact ⟨trivial, ⟨Nat.le_of_ble_eq_true rfl, Nat.le_of_ble_eq_true rfl⟩, z_LQ.ok ko ((j_cqp c1).trans (j_cqp c2)) ⟨hW, j_On.rf, fun _ z _ => z⟩ I z_eq.rf⟩
