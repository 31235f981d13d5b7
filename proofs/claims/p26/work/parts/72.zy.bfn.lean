/-! bestSwap: the class's loops and the call -/
theorem z_mul20 {x c : Int32} (h0 : 0 ≤ x.toInt) (h1 : x.toInt ≤ 40) (hc : c.toInt = 20) : (x * c).toInt = x.toInt * 20 := by
  rw [Int32.toInt_mul, hc, Int.bmod_def]
  omega
theorem z_div20 {x c : Int32} (h0 : 0 ≤ x.toInt) (hc : c.toInt = 20) : (x / c).toInt = x.toInt / 20 := by
  rw [t_div h0 (by omega), hc]
theorem z_rem20 {x c : Int32} (h0 : 0 ≤ x.toInt) (hc : c.toInt = 20) : (x - x / c * c).toInt = x.toInt % 20 := by
  have d := z_div20 h0 hc
  have u := j_ub x
  have m : (x / c * c).toInt = x.toInt / 20 * 20 := by
    rw [Int32.toInt_mul, d, hc, Int.bmod_def]
    omega
  rw [j_subI (by omega) (by omega), m]
  omega
/-- the pair p as the class writes it -/
def z_enc (v : Int32) (p : Nat × Nat) : Prop := v.toInt = (if p.1 = p.2 then -1 else 20 * (p.1 : Int) + (p.2 : Int)) ∧ p.1 < 20 ∧ p.2 < 20
theorem z_bst_y {z : j_Z} {a b : Nat} {s : Nat × Nat × Nat} (h : z_okS z a b = true ∧ z_Ds z a b < s.1) : z_bst z a b s = (z_Ds z a b, a, b) := if_pos h
theorem z_bst_n {z : j_Z} {a b : Nat} {s : Nat × Nat × Nat} (h : ¬ (z_okS z a b = true ∧ z_Ds z a b < s.1)) : z_bst z a b s = s := if_neg h
theorem z_bj_n {z : j_Z} {a n : Nat} {s : Nat × Nat × Nat} (h : a < n) : z_bj z a (n + 1) s = z_bst z a n (z_bj z a n s) := if_pos h
set_option maxHeartbeats 4000000 in
set_option maxRecDepth 20000 in
theorem c_G_findBestx {h : j_H} {it : Nat → Nat → Int32} {x : Nat} (hW : j_WF h x) (I : z_I h x) (sc : j_Sc j_sf h it) : j_Ct 99 4 87 0 0 [j_r (some x)] (j_wi h it) (fun v h' => (∃ it', h' = j_wi h it' ∧ j_Sc j_sf h it') ∧ ∃ r, v = some (j_i r) ∧ z_enc r (z_best (z_c h x))) j_no := by
  refine j_intro km_99 (Nat.le_of_ble_eq_true rfl) ?_
  intro J hJ hF
  obtain ⟨kx, hG, L0, L1, L2, e0, l0, e1, l1, e2, l2, ap, pn⟩ := id hW
  have b1 := l1.2.1; have d1 := l1.2.2.1
  have eR : j_sz h x 1 = j_it h L1 2 := j_sz_e e1
  have clR := j_clamp b1
  have zin1 : ∀ i : Nat, z_in h x 1 i ↔ (i : Int) < (j_it h L1 2).toInt := by
    intro i
    unfold z_in
    rw [eR]
  obtain ⟨n, hn⟩ : ∃ n, n = (j_sz h x 1).toNatClampNeg := ⟨_, rfl⟩
  have hnI : (n : Int) = (j_it h L1 2).toInt := by rw [hn, eR, clR]
  refine hJ [10, 26] 400 _ _ _ _ _ _ ?_
  conv => whnf
  refine ⟨kx, rfl, _, _, _, _, _, _, c_G_markRunsx (h := h) hW I sc, ⟨Nat.le_of_ble_eq_true rfl, Nat.le_of_ble_eq_true rfl, Nat.le_of_ble_eq_true rfl, Nat.le_of_ble_eq_true rfl⟩, fun _ _ z => False.elim z, ?_⟩
  rintro v9 h9 ⟨rfl, it2, rfl, sc, hT, hM⟩
  rw [← hn] at hT hM
  obtain ⟨D, hD⟩ : ∃ D, D = z_dbn (z_c h x) := ⟨_, rfl⟩
  have L10 : ∀ (m : Nat) (v3 v4 v5 : Int32), 0 ≤ v5.toInt → v5.toInt ≤ (n : Int) → v3.toInt = (D : Int) - ((z_bk (z_c h x) n v5.toNatClampNeg).1 : Int) → (z_bk (z_c h x) n v5.toNatClampNeg).1 ≤ D → z_enc v4 (z_bk (z_c h x) n v5.toNatClampNeg).2 → (n : Int) - v5.toInt < (m : Int) → J 10 [some (j_r (some x)), some (j_i v3), some (j_i v4), some (j_i v5), none, none] [] (j_wi h it2) 0 0 := by
    intro m
    induction m with
    | zero => intro v3 v4 v5 h0 hl e3 l3 e4 hm; omega
    | succ m ih10 =>
      intro v3 v4 v5 h0 hl e3 l3 e4 hm
      have cl5 := j_clamp h0
      refine hJ [10, 26] 400 _ _ _ _ _ _ ?_
      conv => whnf
      refine ⟨_, rfl, kx, fun o6 eo => ?_⟩
      obtain rfl : o6 = some L1 := eo.symm.trans e1
      conv => whnf
      refine ⟨l1.1, rfl, _, _, _, _, _, _, c_AL_size (h := h) l1 sc j_sf_ok, ⟨Nat.le_of_ble_eq_true rfl, Nat.le_of_ble_eq_true rfl, Nat.le_of_ble_eq_true rfl, Nat.le_of_ble_eq_true rfl⟩, fun _ _ z => False.elim z, ?_⟩
      rintro v9 h9 ⟨rfl, rfl⟩
      conv => whnf
      refine ⟨fun c7 => ?_, fun c7 => ?_⟩
      · have c7 : (j_it h L1 2).toInt ≤ v5.toInt := c7
        have ev : v5.toNatClampNeg = n := by omega
        rw [ev] at e4
        conv => whnf
        refine ⟨trivial, ⟨Nat.le_of_ble_eq_true rfl, Nat.le_of_ble_eq_true rfl⟩, ⟨_, rfl, sc⟩, _, rfl, ?_⟩
        show z_enc v4 (z_bk (z_c h x) (j_sz h x 1).toNatClampNeg (j_sz h x 1).toNatClampNeg).2
        rw [← hn]
        exact e4
      · have c7 : ¬ (j_it h L1 2).toInt ≤ v5.toInt := c7
        have tv5 : (v5 + Int32.ofInt 1).toInt = v5.toInt + 1 := j_inc1 (by omega)
        have ctv5 := j_clamp (i := v5 + Int32.ofInt 1) (by omega)
        have ek5 : (v5 + Int32.ofInt 1).toNatClampNeg = v5.toNatClampNeg + 1 := by omega
        have L26 : ∀ (m : Nat) (v8 v9 v10 : Int32), 0 ≤ v10.toInt → v5.toInt < v10.toInt → v10.toInt ≤ (n : Int) → v8.toInt = (D : Int) - ((z_bj (z_c h x) v5.toNatClampNeg v10.toNatClampNeg (z_bk (z_c h x) n v5.toNatClampNeg)).1 : Int) → (z_bj (z_c h x) v5.toNatClampNeg v10.toNatClampNeg (z_bk (z_c h x) n v5.toNatClampNeg)).1 ≤ D → z_enc v9 (z_bj (z_c h x) v5.toNatClampNeg v10.toNatClampNeg (z_bk (z_c h x) n v5.toNatClampNeg)).2 → (n : Int) - v10.toInt < (m : Int) → J 26 [some (j_r (some x)), some (j_i v8), some (j_i v9), some (j_i v5), some (j_i v10), none] [] (j_wi h it2) 0 0 := by
          intro m
          induction m with
          | zero => intro v8 v9 v10 h0 h5 hl e8 l8 e9 hm; omega
          | succ m ih26 =>
            intro v8 v9 v10 h0 h5 hl e8 l8 e9 hm
            have cl10 := j_clamp h0
            refine hJ [10, 26] 400 _ _ _ _ _ _ ?_
            conv => whnf
            refine ⟨_, rfl, kx, fun o11 eo => ?_⟩
            obtain rfl : o11 = some L1 := eo.symm.trans e1
            conv => whnf
            refine ⟨l1.1, rfl, _, _, _, _, _, _, c_AL_size (h := h) l1 sc j_sf_ok, ⟨Nat.le_of_ble_eq_true rfl, Nat.le_of_ble_eq_true rfl, Nat.le_of_ble_eq_true rfl, Nat.le_of_ble_eq_true rfl⟩, fun _ _ z => False.elim z, ?_⟩
            rintro o9 h9 ⟨rfl, rfl⟩
            conv => whnf
            refine ⟨fun c12 => ?_, fun c12 => ?_⟩
            · have c12 : (j_it h L1 2).toInt ≤ v10.toInt := c12
              have ev : v10.toNatClampNeg = n := by omega
              rw [ev] at e8 l8 e9
              exact j_use hF (ih10 _ _ _ (by omega) (by omega) (by rw [ek5]; exact e8) (by rw [ek5]; exact l8) (by rw [ek5]; exact e9) (by omega)) (And.intro rfl (And.intro rfl (And.intro rfl (And.intro rfl trivial))))
            · have c12 : ¬ (j_it h L1 2).toInt ≤ v10.toInt := c12
              have tv10 : (v10 + Int32.ofInt 1).toInt = v10.toInt + 1 := j_inc1 (by omega)
              have ctv10 := j_clamp (i := v10 + Int32.ofInt 1) (by omega)
              have ek10 : (v10 + Int32.ofInt 1).toNatClampNeg = v10.toNatClampNeg + 1 := by omega
              have hi5 : z_in h x 1 v5.toNatClampNeg := (zin1 _).mpr (by omega)
              have hi10 : z_in h x 1 v10.toNatClampNeg := (zin1 _).mpr (by omega)
              have bj := z_bj_n (z := z_c h x) (a := v5.toNatClampNeg) (n := v10.toNatClampNeg) (s := z_bk (z_c h x) n v5.toNatClampNeg) (by omega)
              conv => whnf
              refine ⟨_, rfl, kx, fun o14 eo => ?_⟩
              obtain rfl : o14 = some L1 := eo.symm.trans e1
              conv => whnf
              refine ⟨l1.1, rfl, _, _, _, _, _, _, c_AL_get (h := h) l1 sc j_sf_ok (by omega) (by omega), ⟨Nat.le_of_ble_eq_true rfl, Nat.le_of_ble_eq_true rfl, Nat.le_of_ble_eq_true rfl, Nat.le_of_ble_eq_true rfl⟩, fun _ _ z => False.elim z, ?_⟩
              rintro o9 h9 ⟨rfl, g15, rfl, kg15, xg15⟩
              have yg15 := z_el_get e1 xg15
              conv => whnf
              refine ⟨Or.inr ⟨_, rfl, kg15⟩, ?_⟩
              conv => whnf
              conv => whnf
              refine ⟨_, rfl, kx, fun o16 eo => ?_⟩
              obtain rfl : o16 = some L1 := eo.symm.trans e1
              conv => whnf
              refine ⟨l1.1, rfl, _, _, _, _, _, _, c_AL_get (h := h) l1 sc j_sf_ok (by omega) (by omega), ⟨Nat.le_of_ble_eq_true rfl, Nat.le_of_ble_eq_true rfl, Nat.le_of_ble_eq_true rfl, Nat.le_of_ble_eq_true rfl⟩, fun _ _ z => False.elim z, ?_⟩
              rintro o9 h9 ⟨rfl, g17, rfl, kg17, xg17⟩
              have yg17 := z_el_get e1 xg17
              conv => whnf
              refine ⟨Or.inr ⟨_, rfl, kg17⟩, ?_⟩
              conv => whnf
              refine ⟨rfl, _, _, _, _, _, _, c_G_doublesLessx (h := h) hW I sc hn (by omega) hi5 hi10 (by omega) (by omega) (by omega) yg15 yg17 hT hM kg15 kg17, ⟨Nat.le_of_ble_eq_true rfl, Nat.le_of_ble_eq_true rfl, Nat.le_of_ble_eq_true rfl, Nat.le_of_ble_eq_true rfl⟩, fun _ _ z => False.elim z, ?_⟩
              rintro o9 h9 ⟨rfl, r18, rfl, hr18⟩
              rw [← hD] at hr18
              conv => whnf
              refine ⟨fun c21 => ?_, fun c21 => ?_⟩
              · have c21 : r18.toInt ≤ v8.toInt := c21
                rw [z_bst_n (fun q => by rw [if_pos q.1] at hr18; have := q.2; omega)] at bj
                exact j_use hF (ih26 _ _ _ (by omega) (by omega) (by omega) (by rw [ek10, bj]; exact e8) (by rw [ek10, bj]; exact l8) (by rw [ek10, bj]; exact e9) (by omega)) (And.intro rfl (And.intro rfl (And.intro rfl (And.intro rfl (And.intro rfl trivial)))))
              · have c21 : ¬ r18.toInt ≤ v8.toInt := c21
                have ok : z_okS (z_c h x) v5.toNatClampNeg v10.toNatClampNeg = true := by
                  cases q : z_okS (z_c h x) v5.toNatClampNeg v10.toNatClampNeg with
                  | true => rfl
                  | false =>
                    rw [q, if_neg (by decide)] at hr18
                    omega
                rw [if_pos ok] at hr18
                rw [z_bst_y ⟨ok, by omega⟩] at bj
                exact j_use hF (ih26 _ _ _ (by omega) (by omega) (by omega) (by rw [ek10, bj]; exact hr18) (by rw [ek10, bj]; show z_Ds _ _ _ ≤ D; omega) (by
                  rw [ek10, bj]
                  refine ⟨?_, show v5.toNatClampNeg < 20 by omega, show v10.toNatClampNeg < 20 by omega⟩
                  rw [if_neg (show ¬ v5.toNatClampNeg = v10.toNatClampNeg by omega)]
                  have q20 : ((Int8.ofInt 20).toInt32).toInt = 20 := by decide
                  have m := z_mul20 (x := v5) (c := (Int8.ofInt 20).toInt32) (by omega) (by omega) q20
                  show (v5 * (Int8.ofInt 20).toInt32 + v10).toInt = _
                  rw [j_addI (by omega) (by omega), m]
                  show v5.toInt * 20 + v10.toInt = 20 * (v5.toNatClampNeg : Int) + (v10.toNatClampNeg : Int)
                  omega) (by omega)) (And.intro rfl (And.intro rfl (And.intro rfl (And.intro rfl (And.intro rfl trivial)))))
        have s0 := z_bj_s (z := z_c h x) (a := v5.toNatClampNeg) (s := z_bk (z_c h x) n v5.toNatClampNeg) (v5.toNatClampNeg + 1) (by omega)
        exact j_use hF (L26 30 _ _ _ (by omega) (by omega) (by omega) (by rw [ek5, s0]; exact e3) (by rw [ek5, s0]; exact l3) (by rw [ek5, s0]; exact e4) (by omega)) (And.intro rfl (And.intro rfl (And.intro rfl (And.intro rfl (And.intro rfl trivial)))))
  have q25 : (Int32.ofInt (0)).toInt = 0 := by decide
  have qc25 := j_clamp (i := Int32.ofInt 0) (by omega)
  have cz : (Int32.ofInt 0).toNatClampNeg = 0 := by omega
  exact j_use hF (L10 30 (Int32.ofInt 0) (Int32.ofInt (-1)) (Int32.ofInt 0) (by omega) (by omega) (by rw [cz, q25, hD]; show (0 : Int) = (z_dbn (z_c h x) : Int) - (z_dbn (z_c h x) : Int); omega) (by rw [cz, hD]; exact Nat.le_refl _) (by rw [cz]; exact show z_enc (Int32.ofInt (-1)) (0, 0) from ⟨by decide, by decide, by decide⟩) (by omega)) (And.intro rfl (And.intro rfl (And.intro rfl (And.intro rfl trivial))))
set_option maxHeartbeats 4000000 in
set_option maxRecDepth 20000 in
theorem c_G_runOfPairx {Z : j_Z} {H : j_H} {r a : Int32} (hr : z_enc r (z_best Z)) : j_Ct 135 0 0 0 0 [j_i r, j_i a] H (fun v h' => h' = H ∧ v = some (j_i (z_bans Z a))) j_no := by
  obtain ⟨e, l1, l2⟩ := hr
  have q20 : ((Int8.ofInt 20).toInt32).toInt = 20 := by decide
  have m1 : (Int32.ofInt (-1)).toInt = -1 := by decide
  have o1 := (z_onat (n := (z_best Z).1) (by omega)).1
  have o2 := (z_onat (n := (z_best Z).2) (by omega)).1
  refine j_intro km_135 (Nat.le_of_ble_eq_true rfl) ?_
  intro J hJ hF
  refine hJ [] 400 _ _ _ _ _ _ ?_
  conv => whnf
  refine ⟨fun c1 => ?_, fun c1 => ?_⟩
  · have c1 : 0 ≤ r.toInt := c1
    have ne : ¬ (z_best Z).1 = (z_best Z).2 := fun q => by rw [if_pos q] at e; omega
    rw [if_neg ne] at e
    conv => whnf
    refine ⟨fun c2 => ?_, fun c2 => ?_⟩
    · have c2 : a.toInt = 0 := c2
      conv => whnf
      refine ⟨by decide, ?_⟩
      conv => whnf
      refine ⟨trivial, ⟨Nat.le_of_ble_eq_true rfl, Nat.le_of_ble_eq_true rfl⟩, rfl, congrArg (fun r => some (j_i r)) (Int32.toInt_inj.mp ?_)⟩
      unfold z_bans
      rw [if_neg ne, if_pos c2, o2]
      have e20 := z_rem20 c1 q20
      show (r - r / (Int8.ofInt 20).toInt32 * (Int8.ofInt 20).toInt32).toInt = _
      rw [e20]
      omega
    · have c2 : ¬ a.toInt = 0 := c2
      conv => whnf
      refine ⟨by decide, ?_⟩
      conv => whnf
      refine ⟨trivial, ⟨Nat.le_of_ble_eq_true rfl, Nat.le_of_ble_eq_true rfl⟩, rfl, congrArg (fun r => some (j_i r)) (Int32.toInt_inj.mp ?_)⟩
      unfold z_bans
      rw [if_neg ne, if_neg c2, o1]
      have e20 := z_div20 c1 q20
      show (r / (Int8.ofInt 20).toInt32).toInt = _
      rw [e20]
      omega
  · have c1 : ¬ 0 ≤ r.toInt := c1
    have eq : (z_best Z).1 = (z_best Z).2 := by
      by_cases q : (z_best Z).1 = (z_best Z).2
      · exact q
      · rw [if_neg q] at e
        omega
    conv => whnf
    refine ⟨trivial, ⟨Nat.le_of_ble_eq_true rfl, Nat.le_of_ble_eq_true rfl⟩, rfl, congrArg (fun r => some (j_i r)) ?_⟩
    unfold z_bans
    rw [if_pos eq]
