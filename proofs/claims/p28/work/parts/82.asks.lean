/-! what the law asks: spans that are not narrower, motes, ages, prints -/
theorem y_mA {a b c d : Int32} (h : a.toInt ≤ b.toInt) (h2 : c.toInt ≤ d.toInt) : (z_mAx a c).toInt ≤ (z_mAx b d).toInt ∧ b.toInt ≤ (z_mAx b d).toInt := by
  unfold z_mAx
  by_cases p : a < c
  · rw [if_pos p]
    have p := Int32.lt_iff_toInt_lt.mp p
    by_cases q : b < d
    · rw [if_pos q]
      have q := Int32.lt_iff_toInt_lt.mp q
      omega
    · rw [if_neg q]
      rw [Int32.lt_iff_toInt_lt] at q
      omega
  · rw [if_neg p]
    by_cases q : b < d
    · rw [if_pos q]
      have q := Int32.lt_iff_toInt_lt.mp q
      omega
    · rw [if_neg q]
      omega
theorem y_mI {a b c d : Int32} (h : b.toInt ≤ a.toInt) (h2 : d.toInt ≤ c.toInt) : (z_mIn b d).toInt ≤ (z_mIn a c).toInt ∧ (z_mIn b d).toInt ≤ b.toInt := by
  unfold z_mIn
  by_cases p : c < a
  · rw [if_pos p]
    have p := Int32.lt_iff_toInt_lt.mp p
    by_cases q : d < b
    · rw [if_pos q]
      have q := Int32.lt_iff_toInt_lt.mp q
      omega
    · rw [if_neg q]
      rw [Int32.lt_iff_toInt_lt] at q
      omega
  · rw [if_neg p]
    by_cases q : d < b
    · rw [if_pos q]
      have q := Int32.lt_iff_toInt_lt.mp q
      omega
    · rw [if_neg q]
      omega
theorem y_fM {p q : Nat → Bool} {f : Nat → Int32} (hpq : ∀ k, p k = true → q k = true) : ∀ n, (z_fM p f n).toInt ≤ (z_fM q f n).toInt := by
  intro n
  induction n with
  | zero => exact Int.le_refl _
  | succ n ih =>
    show (if p n = true then z_mAx (z_fM p f n) (f n) else z_fM p f n).toInt ≤ (if q n = true then z_mAx (z_fM q f n) (f n) else z_fM q f n).toInt
    have m := y_mA ih (Int.le_refl (f n).toInt)
    by_cases c : p n = true
    · rw [if_pos c, if_pos (hpq n c)]
      exact m.1
    · rw [if_neg c]
      by_cases d : q n = true
      · rw [if_pos d]
        omega
      · rw [if_neg d]
        exact ih
theorem y_fm {p q : Nat → Bool} {f : Nat → Int32} (hpq : ∀ k, p k = true → q k = true) : ∀ n, (z_fm q f n).toInt ≤ (z_fm p f n).toInt := by
  intro n
  induction n with
  | zero => exact Int.le_refl _
  | succ n ih =>
    show (if q n = true then z_mIn (z_fm q f n) (f n) else z_fm q f n).toInt ≤ (if p n = true then z_mIn (z_fm p f n) (f n) else z_fm p f n).toInt
    have m := y_mI ih (Int.le_refl (f n).toInt)
    by_cases c : p n = true
    · rw [if_pos c, if_pos (hpq n c)]
      exact m.1
    · rw [if_neg c]
      by_cases d : q n = true
      · rw [if_pos d]
        omega
      · rw [if_neg d]
        exact ih
section YW
variable {A B : j_Z} {a : Int32}
theorem y_wds {g k : Nat} {c w : Int32} (h : z_pw (n_withdraw A a) g c w k = true) : z_pw A g c w k = true := by
  unfold z_pw z_says at h ⊢
  rw [y_wd k 0 (by decide), y_wd k 1 (by decide)] at h
  obtain ⟨h1, h2⟩ := (Bool.and_eq_true _ _).mp h
  obtain ⟨h3, h4⟩ := (Bool.and_eq_true _ _).mp h2
  have h3 := of_decide_eq_true h3
  rw [h1, h4, decide_eq_true (show ¬ (A.2.2.2.1 k 6).toInt = 0 from fun z => h3 (by
    show ((if k = a.toNatClampNeg then (if 6 = 6 then Int32.ofInt 0 else A.2.2.2.1 k 6) else A.2.2.2.1 k 6) : Int32).toInt = 0
    by_cases e : k = a.toNatClampNeg
    · rw [if_pos e, if_pos rfl]
      decide
    · rw [if_neg e]
      exact z))]
  rfl
theorem y_wde {k : Nat} : z_er (n_withdraw A a) k = z_er A k := by
  unfold z_er z_tp
  rw [y_wd _ _ (by decide), y_wd _ _ (by decide), y_wd _ _ (by decide), y_wd _ _ (by decide), y_wd _ _ (by decide)]
  rfl
theorem y_wdl {k : Nat} : z_lr (n_withdraw A a) k = z_lr A k := by
  unfold z_lr z_tp
  rw [y_wd _ _ (by decide), y_wd _ _ (by decide), y_wd _ _ (by decide), y_wd _ _ (by decide), y_wd _ _ (by decide)]
  rfl
/-- as a run is withdrawn no span gets narrower -/
theorem y_wide {g : Nat} {c w : Int32} : (z_eO (n_withdraw A a) g c w).toInt ≤ (z_eO A g c w).toInt ∧ (z_lO A g c w).toInt ≤ (z_lO (n_withdraw A a) g c w).toInt := by
  unfold z_eO z_lO
  rw [show z_er (n_withdraw A a) = z_er A from funext (fun k => y_wde), show z_lr (n_withdraw A a) = z_lr A from funext (fun k => y_wdl)]
  exact ⟨y_fM (fun k => y_wds) _, y_fm (fun k => y_wds) _⟩
theorem y_wider (e : z_eq B (n_withdraw A a)) (h0 : 0 ≤ (B.1 1).toInt) {g : Nat} {c w : Int32} : (z_eO B g c w).toInt ≤ (z_eO A g c w).toInt ∧ (z_lO A g c w).toInt ≤ (z_lO B g c w).toInt := by
  rw [z_eO_c e h0, z_lO_c e h0]
  exact y_wide
/-- motes, one by one -/
theorem y_gq {k w : Nat} (o : y_ok A) (hk : z_lt A 0 k) (hw : w < 6) : 0 ≤ (z_gq A k w).toInt := by
  have e : z_gq A k w = A.2.1 k (w / 3) (w % 3) := if_pos hw
  rw [e]
  have hi : w / 3 < 2 := by omega
  have v := o.1.1.2.2.1 k (w / 3) hk hi
  have g := o.2.1 k (w / 3) hk hi
  have : w % 3 = 0 ∨ w % 3 = 1 ∨ w % 3 = 2 := by omega
  rcases this with q | q | q <;> rw [q]
  · exact v.1
  · exact v.2.1
  · exact g.1
def y_sm (z : j_Z) (k : Nat) : Nat → Int32 → Int32
  | 0, s => s
  | n + 1, s => y_sm z k n s + z_gq z k n
theorem y_sm6 (o : y_ok A) {k : Nat} (hk : z_lt A 0 k) {s : Int32} : y_sm A k 6 s = s + z_br A k := by
  have u0 := o.1.2.2 k 0 hk (by decide)
  have u1 := o.1.2.2 k 1 hk (by decide)
  show (((((s + A.2.1 k 0 0) + A.2.1 k 0 1) + A.2.1 k 0 2) + A.2.1 k 1 0) + A.2.1 k 1 1) + A.2.1 k 1 2 = s + (A.2.1 k 0 3 + A.2.1 k 1 3)
  rw [← u0, ← u1]
  simp only [Int32.add_assoc]
/-- an age lies in the span of a run -/
theorem y_age {P : Nat → Int} (o : y_ok A) (J : y_J A P) {k g c : Nat} (hk : z_lt A 1 k) (hg : z_lt A 0 g) (hc : c < 2) (h0 : (A.2.2.2.1 k 0).toInt = (g : Int)) (h1 : (A.2.2.2.1 k 1).toInt = (c : Int)) (ht : (A.2.2.1 g 2).toInt = 0) (hp : P c ≤ (A.2.2.1 g 1).toInt) :
    (z_er A k).toInt ≤ (A.1 6 - A.2.2.1 g 1).toInt ∧ (A.1 6 - A.2.2.1 g 1).toInt ≤ (z_lr A k).toInt := by
  obtain ⟨-, -, k3⟩ := J g c hg hc ht hp
  obtain ⟨q1, q2, q3, q4⟩ := k3 k hk h0 h1
  have y6 := o.1.2.1.1
  have y := o.2.2 g hg
  have yr := o.1.2.1.2.2 k hk
  have ea : (A.1 6 - A.2.2.1 g 1).toInt = (A.1 6).toInt - (A.2.2.1 g 1).toInt := j_subI (by omega) (by omega)
  have tp : z_tp A k = A.1 (3 + c) := by
    unfold z_tp j_pf
    by_cases q : (A.2.2.2.1 k 1).toInt = 0
    · rw [if_pos q, show c = 0 by omega]
    · rw [if_neg q, show c = 1 by omega]
  have te := z_te_b (p := z_tp A k) (m := A.2.2.2.1 k 2) (d := A.2.2.2.1 k 3) (s := A.2.2.2.1 k 4)
  have tl := z_tl_b (p := z_tp A k) (m := A.2.2.2.1 k 2) (d := A.2.2.2.1 k 3) (s := A.2.2.2.1 k 4)
  unfold z_er z_lr
  rw [z_yr te y6 yr, z_yr tl y6 yr, ea, tp]
  omega
/-- a print that stands -/
theorem y_prt {k : Nat} (h : z_st A k = true) : ¬ (A.2.2.2.1 (A.2.2.2.2 k 0).toNatClampNeg 6).toInt = 0 ∧ (A.2.2.2.2 k 1).toInt = (A.1 (j_pf (A.2.2.2.1 (A.2.2.2.2 k 0).toNatClampNeg 1))).toInt ∧ (0 ≤ (A.2.2.2.2 k 2).toInt → (A.2.2.2.2 k 2).toNatClampNeg < k → z_st A (A.2.2.2.2 k 2).toNatClampNeg = true) := by
  rw [z_st_e] at h
  obtain ⟨h1, h2⟩ := (Bool.and_eq_true _ _).mp h
  unfold z_one at h1
  obtain ⟨h3, h4⟩ := (Bool.and_eq_true _ _).mp h1
  refine ⟨of_decide_eq_true h3, of_decide_eq_true h4, fun h0 hl => ?_⟩
  rw [if_neg (by omega), z_tb_f _ _ hl] at h2
  exact h2
end YW
