/-! the model: what is added to its lists -/
section MA
variable {ρ ρ' : Nat → Nat} {h h' : j_H} {m P G R Q : Nat}
theorem j_MX.role (w : j_MX ρ h m P G R Q) (hr : ∀ q, ρ' q = ρ q ∨ (ρ q = 0 ∧ j_kd h q ≠ none)) : j_MX ρ' h m P G R Q := by
  obtain ⟨km, ⟨eP, kP, nP, rP, zP⟩, hG, hR, hQ, ap, aG, aR, aQ, rz, y1, y2, y3⟩ := w
  have kp : ∀ q, ρ q ≠ 0 → ρ' q = ρ q := fun q hq => by rcases hr q with z | ⟨z, -⟩; exact z; exact absurd z hq
  refine ⟨km, ⟨eP, kP, nP, by rw [kp P (by omega)]; exact rP, zP⟩, hG, hR, hQ, ap, fun arr a1 j e hj a2 k hk => ?_, aR, fun arr a1 j e hj a2 => ?_, fun q hq => ?_, fun arr a1 j e hj a2 => ?_, fun arr a1 j e hj a2 => ?_, y3⟩
  · obtain ⟨b, b1, b2, b3, b4⟩ := aG arr a1 j e hj a2 k hk
    exact ⟨b, b1, b2, b3, by rw [kp b (by omega)]; exact b4⟩
  · obtain ⟨g1, g⟩ := aQ arr a1 j e hj a2
    exact ⟨by rw [kp e (by omega)]; exact g1, g⟩
  · rcases hr q with z | ⟨-, z⟩
    · rw [z]; exact rz q hq
    · exact absurd hq z
  · have q : ρ e = 1000 + j := y1 arr a1 j e hj a2
    show ρ' e = 1000 + j
    rw [kp e (by omega)]; exact q
  · have q : ρ e = 2000 + j := y2 arr a1 j e hj a2
    show ρ' e = 2000 + j
    rw [kp e (by omega)]; exact q
theorem j_ea.li {L L' arr n e : Nat} {kk : Nat ⊕ Nat} {M : Int} {Pr Pr' : Nat → Nat → Prop} (a : j_Ad h h' L arr n e) (kL : j_kd h L = some (.inl 3)) (e1 : j_rf h L 1 = some arr) (e2 : ∃ t, j_kd h arr = some (.inr t)) (p : j_Ap h L L') (l : j_LK h L' kk M) (A : j_ea h L' Pr) (hp : ∀ j y, j_kd h y = some kk → Pr j y → Pr' j y) : j_ea h' L' Pr' := by
  obtain ⟨t, e2⟩ := e2
  obtain ⟨-, s, -⟩ := a.li kL e1 e2 p l
  obtain ⟨kL', b0, b1, arr', t', f1, f2, f3, f4, f5, f6⟩ := l
  intro ar r1 j y hj r2
  rw [(s 1).2] at r1
  rw [(s 2).1] at hj
  obtain rfl : arr' = ar := Option.some.inj (f1.symm.trans r1)
  have na : arr' ≠ arr := fun z => by
    have := p.2 arr e1 (by rw [← z]; exact f1)
    rw [z] at f4
    omega
  have nL : arr' ≠ L := fun z => by rw [z, kL] at f2; cases f2
  rw [((a.of (j_nn f2) nL na).2.2 j).2] at r2
  obtain ⟨y', y1, y2⟩ := f6 j hj
  obtain rfl : y' = y := Option.some.inj (y1.symm.trans r2)
  exact hp j y' y2 (A arr' f1 j y' hj r2)
theorem j_ea.ad {L arr e : Nat} {kk : Nat ⊕ Nat} {M : Int} {Pr Pr' : Nat → Nat → Prop} (l : j_LK h L kk M) (e1 : j_rf h L 1 = some arr) (a : j_Ad h h' L arr (j_it h L 2).toNatClampNeg e) (h26 : M ≤ 26) (A : j_ea h L Pr) (hp : ∀ j y, j_kd h y = some kk → Pr j y → Pr' j y) (hn : Pr' (j_it h L 2).toNatClampNeg e) : j_ea h' L Pr' := by
  obtain ⟨b, b1, b2, b3, b4, b5, b6, b7, b8, b9, b10⟩ := a
  obtain ⟨kL, c0, c1, arr', t', f1, f2, f3, f4, f5, f6⟩ := l
  have cl := j_clamp c0
  intro ar r1 j y hj r2
  obtain rfl : b = ar := Option.some.inj (b1.symm.trans r1)
  rw [b5, j_inc1 (by omega)] at hj
  by_cases z : (j : Int) < (j_it h L 2).toInt
  · rw [b9 j (by omega)] at r2
    obtain ⟨y', y1, y2⟩ := f6 j z
    obtain rfl : arr' = arr := Option.some.inj (f1.symm.trans e1)
    obtain rfl : y' = y := Option.some.inj (y1.symm.trans r2)
    exact hp j y' y2 (A arr' e1 j y' z r2)
  · obtain rfl : j = (j_it h L 2).toNatClampNeg := by omega
    obtain rfl : e = y := Option.some.inj (b10.symm.trans r2)
    exact hn
/-- what stays as it was when a list grows -/
theorem j_Ad.st {L arr n e q t : Nat} {s : Nat ⊕ Nat} (a : j_Ad h h' L arr n e) (kL : j_kd h L = some (.inl 3)) (e2 : j_kd h arr = some (.inr t)) (e3 : t % 10 = 2) (hq : j_kd h q = some s) (hs : s = .inr 0 ∨ ∃ c, s = .inl c ∧ c ≠ 3) : j_kd h' q = j_kd h q ∧ j_ln h' q = j_ln h q ∧ ∀ k, j_it h' q k = j_it h q k ∧ j_rf h' q k = j_rf h q k := by
  refine a.of (j_nn hq) (fun z => ?_) (fun z => ?_)
  · rw [z, kL] at hq
    rcases hs with rfl | ⟨c, rfl, hc⟩
    · cases hq
    · cases hq; exact hc rfl
  · rw [z, e2] at hq
    rcases hs with rfl | ⟨c, rfl, hc⟩
    · cases hq; omega
    · cases hq
theorem j_gA.ad {L arr n e y t : Nat} (a : j_Ad h h' L arr n e) (kL : j_kd h L = some (.inl 3)) (e2 : j_kd h arr = some (.inr t)) (e3 : t % 10 = 2) (ky : j_kd h y = some (.inl 10)) (g : j_gA ρ h y) : j_gA ρ h' y := fun k hk => by
  obtain ⟨b, b1, b2, b3, b4⟩ := g k hk
  have sy := a.st kL e2 e3 ky (Or.inr ⟨_, rfl, by decide⟩)
  have sb := a.st kL e2 e3 b2 (Or.inl rfl)
  exact ⟨b, ((sy.2.2 k).2).trans b1, sb.1.trans b2, sb.2.1.trans b3, b4⟩
theorem j_rA.ad {L arr n e y t : Nat} (a : j_Ad h h' L arr n e) (kL : j_kd h L = some (.inl 3)) (e2 : j_kd h arr = some (.inr t)) (e3 : t % 10 = 2) (ky : j_kd h y = some (.inl 11)) (g : j_rA h y) : j_rA h' y := by
  have sy := a.st kL e2 e3 ky (Or.inr ⟨_, rfl, by decide⟩)
  unfold j_rA
  rw [(sy.2.2 1).1]; exact g
theorem j_pA.ad {L arr n e y t j : Nat} (a : j_Ad h h' L arr n e) (kL : j_kd h L = some (.inl 3)) (e2 : j_kd h arr = some (.inr t)) (e3 : t % 10 = 2) (ky : j_kd h y = some (.inr 0)) (hz : (j_it h R 2).toInt ≤ (j_it h' R 2).toInt) (g : j_pA ρ h R j y) : j_pA ρ h' R j y := by
  obtain ⟨g1, g2, g3, g4, g5⟩ := g
  have sy := a.st kL e2 e3 ky (Or.inl rfl)
  refine ⟨g1, sy.2.1.trans g2, by rw [(sy.2.2 0).1]; exact g3, by rw [(sy.2.2 0).1]; omega, by rw [(sy.2.2 2).1]; exact g5⟩
theorem j_MX.ad0 {L arr n e t : Nat} (w : j_MX ρ h m P G R Q) (a : j_Ad h h' L arr n e) (kL : j_kd h L = some (.inl 3)) (e2 : j_kd h arr = some (.inr t)) (e3 : t % 10 = 2) :
    j_kd h' m = some (.inl 12) ∧ (j_rf h' m 1 = some P ∧ j_kd h' P = some (.inr 0) ∧ j_ln h' P = 2 ∧ ρ P = 1 ∧ ∀ i, i < 2 → j_it h' P i ≠ 0) ∧ j_rf h' m 4 = some G ∧ j_rf h' m 5 = some R ∧ j_rf h' m 6 = some Q ∧ (∀ q, j_kd h' q = none → ρ q = 0) ∧ ∀ k, j_it h' P k = j_it h P k := by
  have sm := a.st kL e2 e3 w.km (Or.inr ⟨_, rfl, by decide⟩)
  have sP := a.st kL e2 e3 w.kP (Or.inl rfl)
  refine ⟨sm.1.trans w.km, ⟨((sm.2.2 1).2).trans w.eP, sP.1.trans w.kP, sP.2.1.trans w.nP, w.rP, fun i hi => by rw [(sP.2.2 i).1]; exact w.zP i hi⟩, ((sm.2.2 4).2).trans w.eG, ((sm.2.2 5).2).trans w.eR, ((sm.2.2 6).2).trans w.eQ, fun q hq => w.rz q ?_, fun k => (sP.2.2 k).1⟩
  obtain ⟨b, -, -, o, -⟩ := a
  cases z : j_kd h q with
  | none => rfl
  | some k => rw [(o.2 q (j_nn z)).1, z] at hq; cases hq
theorem j_ea.mono {L : Nat} {Pr Pr' : Nat → Nat → Prop} (a : j_ea h L Pr) (hp : ∀ j e, Pr j e → Pr' j e) : j_ea h L Pr' := fun arr a1 j e hj a2 => hp j e (a arr a1 j e hj a2)
theorem j_ea.and {L : Nat} {Pr Pr' : Nat → Nat → Prop} (a : j_ea h L Pr) (b : j_ea h L Pr') : j_ea h L (fun j e => Pr j e ∧ Pr' j e) := fun arr a1 j e hj a2 => ⟨a arr a1 j e hj a2, b arr a1 j e hj a2⟩
/-- a new grain's arrays, numbered -/
def j_nu (h : j_H) (e n : Nat) (ν : Nat → Nat) (b : Nat) : Nat := if j_rf h e 0 = some b then 4 * n + 0 else if j_rf h e 1 = some b then 4 * n + 1 else if j_rf h e 2 = some b then 4 * n + 2 else if j_rf h e 3 = some b then 4 * n + 3 else ν b
theorem j_nu_at {h : j_H} {e n t b : Nat} {ν : Nat → Nat} (ap : ∀ t u b, t < 4 → u < 4 → j_rf h e t = some b → j_rf h e u = some b → t = u) (ht : t < 4) (hb : j_rf h e t = some b) : j_nu h e n ν b = 4 * n + t := by
  have no : ∀ u, u < 4 → u ≠ t → ¬ j_rf h e u = some b := fun u hu hn z => hn (ap u t b hu ht z hb)
  unfold j_nu
  match t, ht with
  | 0, _ => rw [if_pos hb]
  | 1, _ => rw [if_neg (no 0 (by decide) (by decide)), if_pos hb]
  | 2, _ => rw [if_neg (no 0 (by decide) (by decide)), if_neg (no 1 (by decide) (by decide)), if_pos hb]
  | 3, _ => rw [if_neg (no 0 (by decide) (by decide)), if_neg (no 1 (by decide) (by decide)), if_neg (no 2 (by decide) (by decide)), if_pos hb]
  | k + 4, ht => omega
theorem j_nu_ne {h : j_H} {e n b : Nat} {ν : Nat → Nat} (hb : ∀ t, t < 4 → j_rf h e t ≠ some b) : j_nu h e n ν b = ν b := by
  unfold j_nu
  rw [if_neg (hb 0 (by decide)), if_neg (hb 1 (by decide)), if_neg (hb 2 (by decide)), if_neg (hb 3 (by decide))]
theorem j_MX.adG {arr e : Nat} {S : Nat → Prop} (w : j_MX ρ h m P G R Q) (re : ρ e = 1000 + (j_it h G 2).toNatClampNeg) (e4 : ∀ t u b, t < 4 → u < 4 → j_rf h e t = some b → j_rf h e u = some b → t = u) (eS : ∀ t b, t < 4 → j_rf h e t = some b → S b) (oS : j_ea h G (fun _ y => ∀ t b, t < 4 → j_rf h y t = some b → ¬ S b)) (e1 : j_rf h G 1 = some arr) (a : j_Ad h h' G arr (j_it h G 2).toNatClampNeg e) (hM : (j_it h G 2).toInt + 1 ≤ 8) (ke : j_kd h e = some (.inl 10)) (ge : j_gA ρ h e) : j_MX ρ h' m P G R Q := by
  have l := w.lG
  obtain ⟨kL, -, -, arr', t, f1, e2, e3, -⟩ := l
  obtain rfl : arr' = arr := Option.some.inj (f1.symm.trans e1)
  obtain ⟨q1, q2, q3, q4, q5, q6, -⟩ := w.ad0 a kL e2 e3
  have iR := a.li kL e1 e2 w.ap.1 w.lR
  have iQ := a.li kL e1 e2 w.ap.2.1 w.lQ
  have sR : (j_it h' R 2).toInt = (j_it h R 2).toInt := congrArg Int32.toInt (iR.2.1 2).1
  obtain ⟨kR, -, -, aR, tR, g1, g2, g3, g4, g5, -⟩ := w.lR
  refine ⟨q1, q2, ⟨q3, w.lG.ad e1 a hM (by decide) ke⟩, ⟨q4, iR.1⟩, ⟨q5, iQ.1⟩, ⟨iR.2.2, iQ.2.2, w.ap.2.2.mv (iR.2.1 1).2 (iQ.2.1 1).2 (fun z hz => ?_)⟩, ?_, ?_, ?_, q6, ?_⟩
  · obtain rfl : aR = z := Option.some.inj (g1.symm.trans hz)
    obtain ⟨b, -, -, o, -⟩ := a
    exact (o.2 aR (j_nn g2)).2.1
  · exact w.aG.ad w.lG e1 a (by decide) (fun j y ky g => g.ad a kL e2 e3 ky) (ge.ad a kL e2 e3 ke)
  · exact w.aR.li a kL e1 ⟨t, e2⟩ w.ap.1 w.lR (fun j y ky g => g.ad a kL e2 e3 ky)
  · exact w.aQ.li a kL e1 ⟨t, e2⟩ w.ap.2.1 w.lQ (fun j y ky g => g.ad a kL e2 e3 ky (by omega))
  · obtain ⟨y1, y2, ν, y3⟩ := w.y
    have rf' : ∀ y, j_kd h y = some (.inl 10) → ∀ t, j_rf h' y t = j_rf h y t := fun y ky t => ((a.st kL e2 e3 ky (Or.inr ⟨_, rfl, by decide⟩)).2.2 t).2
    refine ⟨y1.ad w.lG e1 a (by decide) (fun j y ky g => g) re, y2.li a kL e1 ⟨t, e2⟩ w.ap.1 w.lR (fun j y ky g => g), j_nu h e (j_it h G 2).toNatClampNeg ν, (y3.and oS).ad w.lG e1 a (by decide) (fun j y ky g t b ht hb => ?_) (fun t b ht hb => ?_)⟩
    · rw [rf' y ky t] at hb
      rw [j_nu_ne (fun u hu z => g.2 t b ht hb (eS u b hu z))]
      exact g.1 t b ht hb
    · rw [rf' e ke t] at hb
      exact j_nu_at e4 ht hb
theorem j_MX.adR {arr e : Nat} (w : j_MX ρ h m P G R Q) (re : ρ e = 2000 + (j_it h R 2).toNatClampNeg) (e1 : j_rf h R 1 = some arr) (a : j_Ad h h' R arr (j_it h R 2).toNatClampNeg e) (hM : (j_it h R 2).toInt + 1 ≤ 20) (ke : j_kd h e = some (.inl 11)) (ge : j_rA h e) : j_MX ρ h' m P G R Q := by
  have l := w.lR
  obtain ⟨kL, -, -, arr', t, f1, e2, e3, -⟩ := l
  obtain rfl : arr' = arr := Option.some.inj (f1.symm.trans e1)
  obtain ⟨q1, q2, q3, q4, q5, q6, -⟩ := w.ad0 a kL e2 e3
  have iG := a.li kL e1 e2 w.ap.1.sy w.lG
  have iQ := a.li kL e1 e2 w.ap.2.2 w.lQ
  have sR : (j_it h R 2).toInt ≤ (j_it h' R 2).toInt := by
    obtain ⟨b, -, -, -, -, s, -⟩ := a
    rw [s, j_inc1 (by omega)]; omega
  obtain ⟨kG, -, -, aG, tG, g1, g2, g3, g4, g5, -⟩ := w.lG
  refine ⟨q1, q2, ⟨q3, iG.1⟩, ⟨q4, w.lR.ad e1 a hM (by decide) ke⟩, ⟨q5, iQ.1⟩, ⟨iG.2.2.sy, w.ap.2.1.mv (iG.2.1 1).2 (iQ.2.1 1).2 (fun z hz => ?_), iQ.2.2⟩, ?_, ?_, ?_, q6, ?_⟩
  · obtain rfl : aG = z := Option.some.inj (g1.symm.trans hz)
    obtain ⟨b, -, -, o, -⟩ := a
    exact (o.2 aG (j_nn g2)).2.1
  · exact w.aG.li a kL e1 ⟨t, e2⟩ w.ap.1.sy w.lG (fun j y ky g => g.ad a kL e2 e3 ky)
  · exact w.aR.ad w.lR e1 a (by decide) (fun j y ky g => g.ad a kL e2 e3 ky) (ge.ad a kL e2 e3 ke)
  · exact w.aQ.li a kL e1 ⟨t, e2⟩ w.ap.2.2 w.lQ (fun j y ky g => g.ad a kL e2 e3 ky sR)
  · obtain ⟨y1, y2, ν, y3⟩ := w.y
    have rf' : ∀ y, j_kd h y = some (.inl 10) → ∀ t, j_rf h' y t = j_rf h y t := fun y ky t => ((a.st kL e2 e3 ky (Or.inr ⟨_, rfl, by decide⟩)).2.2 t).2
    exact ⟨y1.li a kL e1 ⟨t, e2⟩ w.ap.1.sy w.lG (fun j y ky g => g), y2.ad w.lR e1 a (by decide) (fun j y ky g => g) re, ν, y3.li a kL e1 ⟨t, e2⟩ w.ap.1.sy w.lG (fun j y ky g t b ht hb => g t b ht (by rw [← rf' y ky t]; exact hb))⟩
theorem j_MX.adQ {arr e : Nat} (w : j_MX ρ h m P G R Q) (e1 : j_rf h Q 1 = some arr) (a : j_Ad h h' Q arr (j_it h Q 2).toNatClampNeg e) (hM : (j_it h Q 2).toInt + 1 ≤ 10) (ke : j_kd h e = some (.inr 0)) (ge : j_pA ρ h R (j_it h Q 2).toNatClampNeg e) : j_MX ρ h' m P G R Q := by
  have l := w.lQ
  obtain ⟨kL, -, -, arr', t, f1, e2, e3, -⟩ := l
  obtain rfl : arr' = arr := Option.some.inj (f1.symm.trans e1)
  obtain ⟨q1, q2, q3, q4, q5, q6, -⟩ := w.ad0 a kL e2 e3
  have iG := a.li kL e1 e2 w.ap.2.1.sy w.lG
  have iR := a.li kL e1 e2 w.ap.2.2.sy w.lR
  have sR : (j_it h' R 2).toInt = (j_it h R 2).toInt := congrArg Int32.toInt (iR.2.1 2).1
  obtain ⟨kG, -, -, aG, tG, g1, g2, g3, g4, g5, -⟩ := w.lG
  refine ⟨q1, q2, ⟨q3, iG.1⟩, ⟨q4, iR.1⟩, ⟨q5, w.lQ.ad e1 a hM (by decide) ke⟩, ⟨w.ap.1.mv (iG.2.1 1).2 (iR.2.1 1).2 (fun z hz => ?_), iG.2.2.sy, iR.2.2.sy⟩, ?_, ?_, ?_, q6, ?_⟩
  · obtain rfl : aG = z := Option.some.inj (g1.symm.trans hz)
    obtain ⟨b, -, -, o, -⟩ := a
    exact (o.2 aG (j_nn g2)).2.1
  · exact w.aG.li a kL e1 ⟨t, e2⟩ w.ap.2.1.sy w.lG (fun j y ky g => g.ad a kL e2 e3 ky)
  · exact w.aR.li a kL e1 ⟨t, e2⟩ w.ap.2.2.sy w.lR (fun j y ky g => g.ad a kL e2 e3 ky)
  · exact w.aQ.ad w.lQ e1 a (by decide) (fun j y ky g => g.ad a kL e2 e3 ky (by omega)) (ge.ad a kL e2 e3 ke (by omega))
  · obtain ⟨y1, y2, ν, y3⟩ := w.y
    have rf' : ∀ y, j_kd h y = some (.inl 10) → ∀ t, j_rf h' y t = j_rf h y t := fun y ky t => ((a.st kL e2 e3 ky (Or.inr ⟨_, rfl, by decide⟩)).2.2 t).2
    exact ⟨y1.li a kL e1 ⟨t, e2⟩ w.ap.2.1.sy w.lG (fun j y ky g => g), y2.li a kL e1 ⟨t, e2⟩ w.ap.2.2.sy w.lR (fun j y ky g => g), ν, y3.li a kL e1 ⟨t, e2⟩ w.ap.2.1.sy w.lG (fun j y ky g t b ht hb => g t b ht (by rw [← rf' y ky t]; exact hb))⟩
/-- what a call of the model leaves -/
def j_bk (h : j_H) (G R Q q : Nat) : Prop := j_rf h G 1 = some q ∨ j_rf h R 1 = some q ∨ j_rf h Q 1 = some q
def j_mo (h : j_H) (G R Q q : Nat) : Prop := j_mi h q ∨ (q = G ∨ q = R ∨ q = Q) ∨ j_bk h G R Q q
def j_Mg (m G R Q : Nat) (h h' : j_H) : Prop := j_On (j_mo h G R Q) h h' ∧ (∀ q, j_bk h' G R Q q → j_kd h q ≠ none → j_bk h G R Q q) ∧ ∀ q c, j_kd h' q = some (.inl c) → 3 ≤ c → c ≤ 9 → j_kd h q = some (.inl c)
theorem j_Mf.mg (w : j_MX ρ h m P G R Q) (f : j_Mf ρ m h h') : j_Mg m G R Q h h' := by
  refine ⟨f.1.mono (fun q _ z => Or.inl z.mi), fun q hq _ => ?_, f.2.2.2.2.2.2⟩
  unfold j_bk at hq ⊢
  rw [(f.sm w.lG.1 (Or.inl rfl) 1).2, (f.sm w.lR.1 (Or.inl rfl) 1).2, (f.sm w.lQ.1 (Or.inl rfl) 1).2] at hq
  exact hq
theorem j_Mg.ad {h1 : j_H} {L arr n e t : Nat} (w : j_MX ρ h m P G R Q) (f : j_Mf ρ m h h1) (a : j_Ad h1 h' L arr n e) (hL : L = G ∨ L = R ∨ L = Q) (e1 : j_rf h1 L 1 = some arr) (e2 : j_kd h1 arr = some (.inr t)) (e3 : t % 10 = 2) (ot : ∀ L', (L' = G ∨ L' = R ∨ L' = Q) → L' ≠ L → j_rf h' L' 1 = j_rf h1 L' 1) : j_Mg m G R Q h h' := by
  have w1 := w.f f
  have g := f.mg w
  have kL : j_kd h1 L = some (.inl 3) := by rcases hL with rfl | rfl | rfl; exact w1.lG.1; exact w1.lR.1; exact w1.lQ.1
  have kL0 : j_kd h L = some (.inl 3) := by rcases hL with rfl | rfl | rfl; exact w.lG.1; exact w.lR.1; exact w.lQ.1
  have r0 : j_rf h1 L 1 = j_rf h L 1 := (f.sm kL0 (Or.inl rfl) 1).2
  have bk : ∀ q, j_rf h1 L 1 = some q → j_bk h G R Q q := fun q hq => by
    rw [r0] at hq
    rcases hL with rfl | rfl | rfl
    · exact Or.inl hq
    · exact Or.inr (Or.inl hq)
    · exact Or.inr (Or.inr hq)
  obtain ⟨-, -, -, -, -, -, s3⟩ := w1.ad0 a kL e2 e3
  obtain ⟨b, a1, a2, a3, a4, a5, a6, -⟩ := a
  refine ⟨?_, fun q hq hz => ?_, fun q c hq h3 h9 => ?_⟩
  · refine ⟨a3.1.trans g.1.1, fun q hq => ?_⟩
    obtain ⟨u1, u2, u3⟩ := g.1.2 q hq
    obtain ⟨v1, v2, v3⟩ := a3.2 q (by rw [u1]; exact hq)
    refine ⟨v1.trans u1, v2.trans u2, fun hn k => ?_⟩
    have p := u3 hn k
    have r := v3 (fun z => hn (by
      rcases z with z | z
      · exact Or.inr (Or.inl (by rw [z]; exact hL))
      · exact Or.inr (Or.inr (by rw [z]; exact bk arr e1)))) k
    exact ⟨r.1.trans p.1, r.2.1.trans p.2.1, r.2.2.trans p.2.2⟩
  · have one : ∀ L', (L' = G ∨ L' = R ∨ L' = Q) → j_rf h' L' 1 = some q → j_bk h G R Q q := fun L' hL' r => by
      by_cases z : L' = L
      · rw [z, a1] at r
        obtain rfl : b = q := Option.some.inj r
        rcases a2 with rfl | a2
        · exact bk b e1
        · exact absurd (by
            cases y : j_kd h b with
            | none => rfl
            | some k => rw [f.kd y] at a2; cases a2) hz
      · rw [ot L' hL' z] at r
        refine g.2.1 q ?_ hz
        rcases hL' with rfl | rfl | rfl
        · exact Or.inl r
        · exact Or.inr (Or.inl r)
        · exact Or.inr (Or.inr r)
    rcases hq with r | r | r
    · exact one G (Or.inl rfl) r
    · exact one R (Or.inr (Or.inl rfl)) r
    · exact one Q (Or.inr (Or.inr rfl)) r
  · by_cases z : q = b
    · rw [z, a6] at hq; cases hq
    · rw [a4 q z] at hq
      exact g.2.2 q c hq h3 h9
/-- what a call of the model leaves: the answer, the number of the refusal, the numbers -/
def j_MQ (m P G R Q : Nat) (h : j_H) (q : Int) (A : Int32) (N : Nat → Int32) (v : Option j_V) (h' : j_H) : Prop := (∃ ρ', j_MX ρ' h' m P G R Q) ∧ j_Mg m G R Q h h' ∧ j_it h' m 0 = Int32.ofInt q ∧ (q = 0 → j_Bt h' m P G R N) ∧ (q ≠ 0 → j_Bt h' m P G R (j_am h m P G R)) ∧ (q = 0 → v = some (j_i A)) ∧ ∃ r, v = some (j_i r)
theorem j_MQ.no {q n : Int} {A r : Int32} {N : Nat → Int32} (w : j_MX ρ h m P G R Q) (f : j_Mf ρ m h h') (t : j_it h' m 0 = Int32.ofInt n) (e : q = n) (hn : n ≠ 0) : j_MQ m P G R Q h q A N (some (j_i r)) h' :=
  ⟨⟨ρ, w.f f⟩, f.mg w, by rw [e]; exact t, fun z => absurd (e.symm.trans z) hn, fun _ => f.am w, fun z => absurd (e.symm.trans z) hn, r, rfl⟩
theorem j_MQ.ok {q : Int} {A r : Int32} {N : Nat → Int32} (w : ∃ ρ', j_MX ρ' h' m P G R Q) (g : j_Mg m G R Q h h') (t : j_it h' m 0 = Int32.ofInt 0) (e : q = 0) (b : j_Bt h' m P G R N) (hv : r = A) : j_MQ m P G R Q h q A N (some (j_i r)) h' :=
  ⟨w, g, by rw [e]; exact t, fun _ => b, fun z => absurd e z, fun _ => by rw [hv], r, rfl⟩
/-- the same, state for state -/
def z_MQ (m P G R Q : Nat) (h : j_H) (q : Int) (A : Int32) (N : j_Z) (v : Option j_V) (h' : j_H) : Prop := (∃ ρ', j_MX ρ' h' m P G R Q) ∧ j_Mg m G R Q h h' ∧ j_it h' m 0 = Int32.ofInt q ∧ (q = 0 → z_eq (z_d h' m P G R Q) N) ∧ (q ≠ 0 → z_eq (z_d h' m P G R Q) (z_d h m P G R Q)) ∧ (q = 0 → v = some (j_i A)) ∧ ∃ r, v = some (j_i r)
theorem z_MQ.no {q n : Int} {A r : Int32} {N : j_Z} (w : j_MX ρ h m P G R Q) (f : j_Mf ρ m h h') (t : j_it h' m 0 = Int32.ofInt n) (e : q = n) (hn : n ≠ 0) : z_MQ m P G R Q h q A N (some (j_i r)) h' :=
  ⟨⟨ρ, w.f f⟩, f.mg w, by rw [e]; exact t, fun z => absurd (e.symm.trans z) hn, fun _ => z_mfd w f, fun z => absurd (e.symm.trans z) hn, r, rfl⟩
theorem z_MQ.ok {q : Int} {A r : Int32} {N : j_Z} (w : ∃ ρ', j_MX ρ' h' m P G R Q) (g : j_Mg m G R Q h h') (t : j_it h' m 0 = Int32.ofInt 0) (e : q = 0) (b : z_eq (z_d h' m P G R Q) N) (hv : r = A) : z_MQ m P G R Q h q A N (some (j_i r)) h' :=
  ⟨w, g, by rw [e]; exact t, fun _ => b, fun z => absurd e z, fun _ => by rw [hv], r, rfl⟩
theorem j_t0i {h : j_H} {m e k : Nat} {x : Int32} {s : Nat ⊕ Nat} (km : j_kd h m = some (.inl 12)) (ke : j_kd h e = some s) (hs : s ≠ .inl 12) : j_it (j_ui h e k x) m 0 = j_it h m 0 := (j_up_ne h (j_i x) (fun z => by rw [z, ke] at km; exact hs (Option.some.inj km)) 0).1
theorem j_zx {r a b c : Int32} (z : (b.toInt ≤ a.toInt ∧ a.toInt ≤ c.toInt ∧ r = Int32.ofInt 1) ∨ (¬ (b.toInt ≤ a.toInt ∧ a.toInt ≤ c.toInt) ∧ r = Int32.ofInt 0)) : (¬ r.toInt = 0 ∧ b.toInt ≤ a.toInt ∧ a.toInt ≤ c.toInt) ∨ (r.toInt = 0 ∧ ¬ (b.toInt ≤ a.toInt ∧ a.toInt ≤ c.toInt)) := by
  rcases z with ⟨q1, q2, q3⟩ | ⟨q1, q2⟩
  · exact Or.inl ⟨by rw [q3]; decide, q1, q2⟩
  · exact Or.inr ⟨by rw [q2]; decide, q1⟩
theorem j_MX.wm {k : Nat} {x : Int32} (w : j_MX ρ h m P G R Q) : j_MX ρ (j_up h m k (j_i x)) m P G R Q := by
  have ne : ∀ q s, j_kd h q = some s → s ≠ .inl 12 → ∀ j, j_it (j_up h m k (j_i x)) q j = j_it h q j := fun q s hq hs j => (j_up_ne h (j_i x) (fun z => by rw [z, w.km] at hq; exact hs (Option.some.inj hq).symm) j).1
  have lk : ∀ L kk M, j_LK h L kk M → j_LK (j_up h m k (j_i x)) L kk M := fun L kk M l => by
    obtain ⟨kL, b0, b1, arr, t, f1, f2, f3, f4, f5, f6⟩ := l
    have i2 := ne L _ kL (by decide) 2
    exact ⟨kL, by rw [i2]; exact b0, by rw [i2]; exact b1, arr, t, f1, f2, f3, by rw [i2]; exact f4, f5, fun j hj => f6 j (by rw [i2] at hj; exact hj)⟩
  have el : ∀ {L kk M}, j_LK h L kk M → ∀ arr, j_rf h L 1 = some arr → ∀ j e : Nat, (j : Int) < (j_it h L 2).toInt → j_rf h arr j = some e → j_kd h e = some kk := fun {L kk M} l a ha j e hj he => by
    obtain ⟨kL, b0, b1, arr, t, f1, f2, f3, f4, f5, f6⟩ := l
    obtain rfl : arr = a := Option.some.inj (f1.symm.trans ha)
    obtain ⟨y, y1, y2⟩ := f6 j hj
    obtain rfl : y = e := Option.some.inj (y1.symm.trans he)
    exact y2
  have iG := ne G _ w.lG.1 (by decide) 2
  have iR := ne R _ w.lR.1 (by decide) 2
  have iQ := ne Q _ w.lQ.1 (by decide) 2
  refine ⟨w.km, ⟨w.eP, w.kP, w.nP, w.rP, fun k hk => by rw [ne P _ w.kP (by decide) k]; exact w.zP k hk⟩, ⟨w.eG, lk _ _ _ w.lG⟩, ⟨w.eR, lk _ _ _ w.lR⟩, ⟨w.eQ, lk _ _ _ w.lQ⟩, w.ap, ?_, ?_, ?_, w.rz, fun arr a1 j e hj a2 => w.y.1 arr a1 j e (by rw [iG] at hj; exact hj) a2, fun arr a1 j e hj a2 => w.y.2.1 arr a1 j e (by rw [iR] at hj; exact hj) a2, ?_⟩
  · intro arr a1 j e hj a2
    rw [iG] at hj
    exact w.aG arr a1 j e hj a2
  · intro arr a1 j e hj a2
    rw [iR] at hj
    have ke := el w.lR arr a1 j e hj a2
    unfold j_rA
    rw [ne e _ ke (by decide) 1]
    exact w.aR arr a1 j e hj a2
  · intro arr a1 j e hj a2
    rw [iQ] at hj
    have ke := el w.lQ arr a1 j e hj a2
    obtain ⟨g1, g2, g3, g4, g5⟩ := w.aQ arr a1 j e hj a2
    have n := ne e _ ke (by decide)
    exact ⟨g1, g2, by rw [n 0]; exact g3, by rw [n 0, iR]; exact g4, by rw [n 2]; exact g5⟩
  · obtain ⟨-, -, ν, y3⟩ := w.y
    exact ⟨ν, fun arr a1 j e hj a2 => y3 arr a1 j e (by rw [iG] at hj; exact hj) a2⟩
theorem j_Mg.tr {h1 h2 : j_H} (a : j_Mg m G R Q h h1) (w1 : j_MX ρ h1 m P G R Q) (b : j_Mg m G R Q h1 h2) : j_Mg m G R Q h h2 := by
  have e : ∀ q, j_kd h q ≠ none → j_mo h1 G R Q q → j_mo h G R Q q := fun q hq z => by
    rcases z with z | z | z
    · exact Or.inl (by unfold j_mi at z ⊢; rw [(a.1.2 q hq).1] at z; exact z)
    · exact Or.inr (Or.inl z)
    · exact Or.inr (Or.inr (a.2.1 q z hq))
  obtain ⟨a1, a2, a3⟩ := a
  obtain ⟨b1, b2, b3⟩ := b
  refine ⟨⟨b1.1.trans a1.1, fun q hq => ?_⟩, fun q hq hz => a2 q (b2 q hq (by rw [(a1.2 q hz).1]; exact hz)) hz, fun q c hq h3 h9 => a3 q c (b3 q c hq h3 h9) h3 h9⟩
  obtain ⟨u1, u2, u3⟩ := a1.2 q hq
  obtain ⟨v1, v2, v3⟩ := b1.2 q (by rw [u1]; exact hq)
  refine ⟨v1.trans u1, v2.trans u2, fun hn k => ?_⟩
  have p := u3 hn k
  have r := v3 (fun z => hn (e q hq z)) k
  exact ⟨r.1.trans p.1, r.2.1.trans p.2.1, r.2.2.trans p.2.2⟩
end MA
