/-! pace, word for word, by the law's own call -/
def j_okp (a b : Int32) : Prop := (a.toInt = 0 ∨ a.toInt = 1) ∧ (2 ≤ b.toInt ∧ b.toInt ≤ 200)
/-- the field of x that tells a clock's pace -/
def j_pf (a : Int32) : Nat := if a.toInt = 0 then 3 else 4
set_option maxHeartbeats 4000000 in
set_option maxRecDepth 20000 in
theorem c_Lw_pacex {h : j_H} {x out : Nat} {a b : Int32} (hW : j_WF h x) (ko : j_kd h out = some (.inl 9)) : j_Ct 241 7 115 1 6 [j_r (some x), j_i a, j_i b, j_r (some out)] h (fun v h' => (j_okp a b ∧ v = some (j_i (Int32.ofInt 0)) ∧ ∃ it', h' = j_up (j_wi (j_up h x (j_pf a) (j_i b)) it') out 0 (j_l (j_it h x (j_pf a)).toInt64) ∧ j_Sc j_sm (j_up h x (j_pf a) (j_i b)) it') ∨ (v = some (j_i (Int32.ofInt 1)) ∧ ¬ (a.toInt = 0 ∨ a.toInt = 1) ∧ h' = h) ∨ (v = some (j_i (Int32.ofInt 2)) ∧ (a.toInt = 0 ∨ a.toInt = 1) ∧ ¬ (2 ≤ b.toInt ∧ b.toInt ≤ 200) ∧ h' = h)) j_no := by
  refine j_intro km_241 (Nat.le_of_ble_eq_true rfl) ?_
  intro J hJ hF
  refine hJ [] 400 _ _ _ _ _ _ ?_
  conv => whnf
  refine ⟨hW.1, rfl, _, _, _, _, _, _, c_G_pacex hW, ⟨Nat.le_of_ble_eq_true rfl, Nat.le_of_ble_eq_true rfl, Nat.le_of_ble_eq_true rfl, Nat.le_of_ble_eq_true rfl⟩, ?_, ?_⟩
  · rintro k9 h9 ⟨hk, rfl⟩
    rcases hk with ⟨rfl, ha⟩ | ⟨rfl, ha, hb⟩
    · conv => whnf
      intro a9
      conv => whnf
      exact ⟨trivial, ⟨Nat.le_of_ble_eq_true rfl, Nat.le_of_ble_eq_true rfl⟩, Or.inr (Or.inl ⟨rfl, ha, rfl⟩)⟩
    · conv => whnf
      intro a9
      conv => whnf
      exact ⟨trivial, ⟨Nat.le_of_ble_eq_true rfl, Nat.le_of_ble_eq_true rfl⟩, Or.inr (Or.inr ⟨rfl, ha, hb, rfl⟩)⟩
  · rintro v9 h9 ⟨ha, hb, ⟨a0, rfl, it', rfl, s⟩ | ⟨a0, rfl, it', rfl, s⟩⟩
    · have e : j_pf a = 3 := if_pos a0
      conv => whnf
      refine ⟨_, rfl, ko, ?_⟩
      conv => whnf
      refine ⟨trivial, ⟨Nat.le_of_ble_eq_true rfl, Nat.le_of_ble_eq_true rfl⟩, Or.inl ⟨⟨ha, hb⟩, rfl, it', ?_, ?_⟩⟩
      · rw [e]
      · rw [e]
        exact s
    · have e : j_pf a = 4 := if_neg a0
      conv => whnf
      refine ⟨_, rfl, ko, ?_⟩
      conv => whnf
      refine ⟨trivial, ⟨Nat.le_of_ble_eq_true rfl, Nat.le_of_ble_eq_true rfl⟩, Or.inl ⟨⟨ha, hb⟩, rfl, it', ?_, ?_⟩⟩
      · rw [e]
      · rw [e]
        exact s
