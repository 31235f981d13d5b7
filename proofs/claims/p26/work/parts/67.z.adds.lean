/-! the model: what its state is when a list has grown -/
def z_drE (h : j_H) (e f : Nat) : Int32 := if f = 6 then (if (j_it h e 6).toInt = 0 then Int32.ofInt 1 else Int32.ofInt 0) else j_it h e f
theorem z_dr_E {h : j_H} {R k f : Nat} : z_dr h R k f = z_drE h (z_ml h R k) f := by
  match f with
  | 0 => rfl
  | 1 => rfl
  | 2 => rfl
  | 3 => rfl
  | 4 => rfl
  | 5 => rfl
  | 6 => rfl
  | n + 7 => rfl
def n_addG (z : j_Z) (E : Nat → Nat → Int32) (F : Nat → Int32) : j_Z := (j_u1 z.1 0 (z.1 0 + Int32.ofInt 1), fun k i t => if k = (z.1 0).toNatClampNeg then E i t else z.2.1 k i t, fun k f => if k = (z.1 0).toNatClampNeg then F f else z.2.2.1 k f, z.2.2.2.1, z.2.2.2.2)
def n_addR (z : j_Z) (F : Nat → Int32) : j_Z := (j_u1 z.1 1 (z.1 1 + Int32.ofInt 1), z.2.1, z.2.2.1, fun k f => if k = (z.1 1).toNatClampNeg then F f else z.2.2.2.1 k f, z.2.2.2.2)
def n_addQ (z : j_Z) (F : Nat → Int32) : j_Z := (j_u1 z.1 2 (z.1 2 + Int32.ofInt 1), z.2.1, z.2.2.1, z.2.2.2.1, fun k f => if k = (z.1 2).toNatClampNeg then F f else z.2.2.2.2 k f)
theorem n_addG_c {A B : j_Z} {E E' : Nat → Nat → Int32} {F F' : Nat → Int32} (e : z_eq A B) (hs : (A.1 0).toInt < 100) (hE : ∀ i t, i < 2 → t < 4 → E i t = E' i t) (hF : ∀ f, f < 3 → F f = F' f) : z_eq (n_addG A E F) (n_addG B E' F') := by
  have e0 := e.1 0 (by decide)
  have sz : ∀ k : Nat, (k : Int) < (A.1 0 + Int32.ofInt 1).toInt → ¬ k = (A.1 0).toNatClampNeg → z_lt A 0 k := fun k hk hn => by
    rw [j_inc1 (by omega)] at hk
    unfold z_lt
    by_cases z : 0 ≤ (A.1 0).toInt
    · have := j_clamp z; omega
    · omega
  refine ⟨z_u1_c e.1 (by rw [e0]), fun k i t hk hi ht => ?_, fun k f hk hf => ?_, fun k f hk hf => e.2.2.2.1 k f (z_u1_lt (R' := A.2) (by decide) hk) hf, fun k f hk hf => e.2.2.2.2 k f (z_u1_lt (R' := A.2) (by decide) hk) hf⟩
  · show (if k = (A.1 0).toNatClampNeg then E i t else A.2.1 k i t) = if k = (B.1 0).toNatClampNeg then E' i t else B.2.1 k i t
    rw [← e0]
    by_cases z : k = (A.1 0).toNatClampNeg
    · rw [if_pos z, if_pos z]; exact hE i t hi ht
    · rw [if_neg z, if_neg z]; exact e.2.1 k i t (sz k hk z) hi ht
  · show (if k = (A.1 0).toNatClampNeg then F f else A.2.2.1 k f) = if k = (B.1 0).toNatClampNeg then F' f else B.2.2.1 k f
    rw [← e0]
    by_cases z : k = (A.1 0).toNatClampNeg
    · rw [if_pos z, if_pos z]; exact hF f hf
    · rw [if_neg z, if_neg z]; exact e.2.2.1 k f (sz k hk z) hf
theorem n_addR_c {A B : j_Z} {F F' : Nat → Int32} (e : z_eq A B) (hs : (A.1 1).toInt < 100) (hF : ∀ f, f < 7 → F f = F' f) : z_eq (n_addR A F) (n_addR B F') := by
  have e0 := e.1 1 (by decide)
  refine ⟨z_u1_c e.1 (by rw [e0]), fun k i t hk hi ht => e.2.1 k i t (z_u1_lt (R' := A.2) (by decide) hk) hi ht, fun k f hk hf => e.2.2.1 k f (z_u1_lt (R' := A.2) (by decide) hk) hf, fun k f hk hf => ?_, fun k f hk hf => e.2.2.2.2 k f (z_u1_lt (R' := A.2) (by decide) hk) hf⟩
  have hk : (k : Int) < (A.1 1 + Int32.ofInt 1).toInt := hk
  show (if k = (A.1 1).toNatClampNeg then F f else A.2.2.2.1 k f) = if k = (B.1 1).toNatClampNeg then F' f else B.2.2.2.1 k f
  rw [← e0]
  by_cases z : k = (A.1 1).toNatClampNeg
  · rw [if_pos z, if_pos z]; exact hF f hf
  · rw [if_neg z, if_neg z]
    refine e.2.2.2.1 k f ?_ hf
    rw [j_inc1 (by omega)] at hk
    unfold z_lt
    by_cases z : 0 ≤ (A.1 1).toInt
    · have := j_clamp z; omega
    · omega
theorem n_addR_run {A z : j_Z} {a b c d : Int32} {F : Nat → Int32} (e : z_eq A z) (hs : (A.1 1).toInt < 100) (h0 : F 0 = a) (h1 : F 1 = b) (h2 : F 2 = z_p0 (z.2.1 a.toNatClampNeg (z_ck b) 0 + c)) (h3 : F 3 = z_p0 (z.2.1 a.toNatClampNeg (z_ck b) 1 + d)) (h4 : F 4 = z.1 5) (h5 : F 5 = z.1 6) (h6 : F 6 = Int32.ofInt 1) : z_eq (n_addR A F) (n_runF z a b c d) := by
  refine (n_addR_c (F' := fun f => (n_runF z a b c d).2.2.2.1 (z.1 1).toNatClampNeg f) e hs (fun f hf => ?_)).tr ⟨fun k hk => rfl, fun k i t hk hi ht => rfl, fun k f hk hf => rfl, fun k f hk hf => ?_, fun k f hk hf => rfl⟩
  · match f, hf with
    | 0, _ => exact h0.trans (show _ = (n_runF z a b c d).2.2.2.1 (z.1 1).toNatClampNeg 0 from (if_pos rfl).symm)
    | 1, _ => exact h1.trans (show _ = (n_runF z a b c d).2.2.2.1 (z.1 1).toNatClampNeg 1 from (if_pos rfl).symm)
    | 2, _ => exact h2.trans (show _ = (n_runF z a b c d).2.2.2.1 (z.1 1).toNatClampNeg 2 from (if_pos rfl).symm)
    | 3, _ => exact h3.trans (show _ = (n_runF z a b c d).2.2.2.1 (z.1 1).toNatClampNeg 3 from (if_pos rfl).symm)
    | 4, _ => exact h4.trans (show _ = (n_runF z a b c d).2.2.2.1 (z.1 1).toNatClampNeg 4 from (if_pos rfl).symm)
    | 5, _ => exact h5.trans (show _ = (n_runF z a b c d).2.2.2.1 (z.1 1).toNatClampNeg 5 from (if_pos rfl).symm)
    | 6, _ => exact h6.trans (show _ = (n_runF z a b c d).2.2.2.1 (z.1 1).toNatClampNeg 6 from (if_pos rfl).symm)
    | n + 7, hf => omega
  · show (if k = (z.1 1).toNatClampNeg then (n_runF z a b c d).2.2.2.1 (z.1 1).toNatClampNeg f else z.2.2.2.1 k f) = (n_runF z a b c d).2.2.2.1 k f
    by_cases q : k = (z.1 1).toNatClampNeg
    · rw [if_pos q, q]
    · rw [if_neg q]
      exact (show _ = z.2.2.2.1 k f from if_neg q).symm
theorem n_addQ_c {A B : j_Z} {F F' : Nat → Int32} (e : z_eq A B) (hs : (A.1 2).toInt < 100) (hF : ∀ f, f < 3 → F f = F' f) : z_eq (n_addQ A F) (n_addQ B F') := by
  have e0 := e.1 2 (by decide)
  refine ⟨z_u1_c e.1 (by rw [e0]), fun k i t hk hi ht => e.2.1 k i t (z_u1_lt (R' := A.2) (by decide) hk) hi ht, fun k f hk hf => e.2.2.1 k f (z_u1_lt (R' := A.2) (by decide) hk) hf, fun k f hk hf => e.2.2.2.1 k f (z_u1_lt (R' := A.2) (by decide) hk) hf, fun k f hk hf => ?_⟩
  have hk : (k : Int) < (A.1 2 + Int32.ofInt 1).toInt := hk
  show (if k = (A.1 2).toNatClampNeg then F f else A.2.2.2.2 k f) = if k = (B.1 2).toNatClampNeg then F' f else B.2.2.2.2 k f
  rw [← e0]
  by_cases z : k = (A.1 2).toNatClampNeg
  · rw [if_pos z, if_pos z]; exact hF f hf
  · rw [if_neg z, if_neg z]
    refine e.2.2.2.2 k f ?_ hf
    rw [j_inc1 (by omega)] at hk
    unfold z_lt
    by_cases z : 0 ≤ (A.1 2).toInt
    · have := j_clamp z; omega
    · omega
section AD
variable {ρ : Nat → Nat} {h h' : j_H} {m P G R Q : Nat}
theorem z_adl {L arr n e : Nat} (e1 : j_rf h L 1 = some arr) (a : j_Ad h h' L arr n e) : (∀ k, k < n → z_ml h' L k = z_ml h L k) ∧ z_ml h' L n = e := by
  obtain ⟨b, b1, b2, b3, b4, b5, b6, b7, b8, b9, b10⟩ := a
  refine ⟨fun k hk => ?_, z_ml_of b1 b10⟩
  unfold z_ml
  rw [b1, e1, Option.getD_some, Option.getD_some, b9 k hk]
theorem z_ado {L arr n e t L' k : Nat} {kk : Nat ⊕ Nat} {M : Int} (a : j_Ad h h' L arr n e) (kL : j_kd h L = some (.inl 3)) (e1 : j_rf h L 1 = some arr) (e2 : j_kd h arr = some (.inr t)) (p : j_Ap h L L') (l : j_LK h L' kk M) (hk : (k : Int) < (j_it h L' 2).toInt) : z_ml h' L' k = z_ml h L' k := by
  obtain ⟨-, s, -⟩ := a.li kL e1 e2 p l
  obtain ⟨kL', b0, b1, arr', t', f1, f2, f3, f4, f5, f6⟩ := l
  have na : arr' ≠ arr := fun z => by
    have := p.2 arr e1 (by rw [← z]; exact f1)
    rw [z] at f4
    omega
  have nL : arr' ≠ L := fun z => by rw [z, kL] at f2; cases f2
  unfold z_ml
  rw [(s 1).2, f1, Option.getD_some, ((a.of (j_nn f2) nL na).2.2 k).2]
theorem z_adr {L arr n e t : Nat} (w : j_MX ρ h m P G R Q) (a : j_Ad h h' L arr n e) (kL : j_kd h L = some (.inl 3)) (e2 : j_kd h arr = some (.inr t)) (e3 : t % 10 = 2) (eG : ∀ k : Nat, (k : Int) < (j_it h G 2).toInt → z_ml h' G k = z_ml h G k) (eR : ∀ k : Nat, (k : Int) < (j_it h R 2).toInt → z_ml h' R k = z_ml h R k) (eQ : ∀ k : Nat, (k : Int) < (j_it h Q 2).toInt → z_ml h' Q k = z_ml h Q k) :
    (∀ (k i t : Nat), (k : Int) < (j_it h G 2).toInt → t < 4 → z_dm h' G k i t = z_dm h G k i t) ∧ (∀ (k f : Nat), (k : Int) < (j_it h G 2).toInt → z_dg h' G k f = z_dg h G k f) ∧ (∀ (k f : Nat), (k : Int) < (j_it h R 2).toInt → z_dr h' R k f = z_dr h R k f) ∧ (∀ (k f : Nat), (k : Int) < (j_it h Q 2).toInt → z_dp h' Q k f = z_dp h Q k f) ∧ (∀ f, j_it h' P f = j_it h P f) ∧ ∀ f, j_it h' m f = j_it h m f := by
  refine ⟨fun k i t hk ht => ?_, fun k f hk => ?_, fun k f hk => ?_, fun k f hk => ?_, fun f => ((a.st kL e2 e3 w.kP (Or.inl rfl)).2.2 f).1, fun f => ((a.st kL e2 e3 w.km (Or.inr ⟨_, rfl, by decide⟩)).2.2 f).1⟩
  · obtain ⟨b, b1, b2, b3, b4, b5⟩ := w.ga hk ht
    rw [b5]
    unfold z_dm
    rw [eG k hk, ((a.st kL e2 e3 (w.g hk).1 (Or.inr ⟨_, rfl, by decide⟩)).2.2 t).2, b1, Option.getD_some]
    exact ((a.st kL e2 e3 b2 (Or.inl rfl)).2.2 i).1
  · unfold z_dg
    rw [eG k hk]
    exact ((a.st kL e2 e3 (w.g hk).1 (Or.inr ⟨_, rfl, by decide⟩)).2.2 _).1
  · have s := fun j => ((a.st kL e2 e3 (w.r hk).1 (Or.inr ⟨_, rfl, by decide⟩)).2.2 j).1
    rw [z_dr_E, z_dr_E, eR k hk]
    unfold z_drE
    rw [s 6, s f]
  · unfold z_dp
    rw [eQ k hk]
    exact ((a.st kL e2 e3 (w.p hk).1 (Or.inl rfl)).2.2 _).1
theorem z_adk {L k : Nat} {x : Int32} (h0 : 0 ≤ x.toInt) (hx : x.toInt < 100) (hk : (k : Int) < (x + Int32.ofInt 1).toInt) (hn : ¬ k = x.toNatClampNeg) : (k : Int) < x.toInt ∧ k < x.toNatClampNeg := by
  rw [j_inc1 (by omega)] at hk
  have := j_clamp h0
  omega
theorem z_addG {arr e : Nat} (w : j_MX ρ h m P G R Q) (e1 : j_rf h G 1 = some arr) (a : j_Ad h h' G arr (j_it h G 2).toNatClampNeg e) : z_eq (z_d h' m P G R Q) (n_addG (z_d h m P G R Q) (fun i t => j_it h' ((j_rf h' e t).getD 0) i) (fun f => j_it h' e (z_df f))) := by
  obtain ⟨kL, l0, l1, arr', t, f1, e2, e3, -⟩ := w.lG
  obtain rfl : arr' = arr := Option.some.inj (f1.symm.trans e1)
  obtain ⟨s1, s2⟩ := z_adl e1 a
  have cl := j_clamp l0
  obtain ⟨r1, r2, r3, r4, r5, r6⟩ := z_adr w a kL e2 e3 (fun k hk => s1 k (by omega)) (fun k hk => z_ado a kL e1 e2 w.ap.1 w.lR hk) (fun k hk => z_ado a kL e1 e2 w.ap.2.1 w.lQ hk)
  have nR : j_it h' R 2 = j_it h R 2 := ((a.li kL e1 e2 w.ap.1 w.lR).2.1 2).1
  have nQ : j_it h' Q 2 = j_it h Q 2 := ((a.li kL e1 e2 w.ap.2.1 w.lQ).2.1 2).1
  have nG : j_it h' G 2 = j_it h G 2 + Int32.ofInt 1 := by
    obtain ⟨b, b1, b2, b3, b4, b5, -⟩ := a
    exact b5
  refine ⟨fun k hk => ?_, fun k i u hk hi hu => ?_, fun k f hk hf => ?_, fun k f hk hf => ?_, fun k f hk hf => ?_⟩
  · match k, hk with
    | 0, _ => exact nG
    | 1, _ => exact nR
    | 2, _ => exact nQ
    | 3, _ => exact r5 0
    | 4, _ => exact r5 1
    | 5, _ => exact r6 3
    | 6, _ => exact r6 2
    | n + 7, hk => omega
  · have hk : (k : Int) < (j_it h' G 2).toInt := hk
    rw [nG] at hk
    show z_dm h' G k i u = if k = (j_it h G 2).toNatClampNeg then j_it h' ((j_rf h' e u).getD 0) i else z_dm h G k i u
    by_cases z : k = (j_it h G 2).toNatClampNeg
    · rw [if_pos z, z]
      unfold z_dm
      rw [s2]
    · rw [if_neg z]
      exact r1 k i u (z_adk (L := G) l0 (by omega) hk z).1 hu
  · have hk : (k : Int) < (j_it h' G 2).toInt := hk
    rw [nG] at hk
    show z_dg h' G k f = if k = (j_it h G 2).toNatClampNeg then j_it h' e (z_df f) else z_dg h G k f
    by_cases z : k = (j_it h G 2).toNatClampNeg
    · rw [if_pos z, z]
      unfold z_dg
      rw [s2]
    · rw [if_neg z]
      exact r2 k f (z_adk (L := G) l0 (by omega) hk z).1
  · have hk : (k : Int) < (j_it h' R 2).toInt := hk
    rw [nR] at hk
    exact r3 k f hk
  · have hk : (k : Int) < (j_it h' Q 2).toInt := hk
    rw [nQ] at hk
    exact r4 k f hk
theorem z_addR {arr e : Nat} (w : j_MX ρ h m P G R Q) (e1 : j_rf h R 1 = some arr) (a : j_Ad h h' R arr (j_it h R 2).toNatClampNeg e) : z_eq (z_d h' m P G R Q) (n_addR (z_d h m P G R Q) (fun f => z_drE h' e f)) := by
  obtain ⟨kL, l0, l1, arr', t, f1, e2, e3, -⟩ := w.lR
  obtain rfl : arr' = arr := Option.some.inj (f1.symm.trans e1)
  obtain ⟨s1, s2⟩ := z_adl e1 a
  have cl := j_clamp l0
  obtain ⟨r1, r2, r3, r4, r5, r6⟩ := z_adr w a kL e2 e3 (fun k hk => z_ado a kL e1 e2 w.ap.1.sy w.lG hk) (fun k hk => s1 k (by omega)) (fun k hk => z_ado a kL e1 e2 w.ap.2.2 w.lQ hk)
  have nG : j_it h' G 2 = j_it h G 2 := ((a.li kL e1 e2 w.ap.1.sy w.lG).2.1 2).1
  have nQ : j_it h' Q 2 = j_it h Q 2 := ((a.li kL e1 e2 w.ap.2.2 w.lQ).2.1 2).1
  have nR : j_it h' R 2 = j_it h R 2 + Int32.ofInt 1 := by
    obtain ⟨b, b1, b2, b3, b4, b5, -⟩ := a
    exact b5
  refine ⟨fun k hk => ?_, fun k i u hk hi hu => ?_, fun k f hk hf => ?_, fun k f hk hf => ?_, fun k f hk hf => ?_⟩
  · match k, hk with
    | 0, _ => exact nG
    | 1, _ => exact nR
    | 2, _ => exact nQ
    | 3, _ => exact r5 0
    | 4, _ => exact r5 1
    | 5, _ => exact r6 3
    | 6, _ => exact r6 2
    | n + 7, hk => omega
  · have hk : (k : Int) < (j_it h' G 2).toInt := hk
    rw [nG] at hk
    exact r1 k i u hk hu
  · have hk : (k : Int) < (j_it h' G 2).toInt := hk
    rw [nG] at hk
    exact r2 k f hk
  · have hk : (k : Int) < (j_it h' R 2).toInt := hk
    rw [nR] at hk
    show z_dr h' R k f = if k = (j_it h R 2).toNatClampNeg then z_drE h' e f else z_dr h R k f
    by_cases z : k = (j_it h R 2).toNatClampNeg
    · rw [if_pos z, z, z_dr_E, s2]
    · rw [if_neg z]
      exact r3 k f (z_adk (L := R) l0 (by omega) hk z).1
  · have hk : (k : Int) < (j_it h' Q 2).toInt := hk
    rw [nQ] at hk
    exact r4 k f hk
theorem z_addQ {arr e : Nat} (w : j_MX ρ h m P G R Q) (e1 : j_rf h Q 1 = some arr) (a : j_Ad h h' Q arr (j_it h Q 2).toNatClampNeg e) : z_eq (z_d h' m P G R Q) (n_addQ (z_d h m P G R Q) (fun f => j_it h' e f)) := by
  obtain ⟨kL, l0, l1, arr', t, f1, e2, e3, -⟩ := w.lQ
  obtain rfl : arr' = arr := Option.some.inj (f1.symm.trans e1)
  obtain ⟨s1, s2⟩ := z_adl e1 a
  have cl := j_clamp l0
  obtain ⟨r1, r2, r3, r4, r5, r6⟩ := z_adr w a kL e2 e3 (fun k hk => z_ado a kL e1 e2 w.ap.2.1.sy w.lG hk) (fun k hk => z_ado a kL e1 e2 w.ap.2.2.sy w.lR hk) (fun k hk => s1 k (by omega))
  have nG : j_it h' G 2 = j_it h G 2 := ((a.li kL e1 e2 w.ap.2.1.sy w.lG).2.1 2).1
  have nR : j_it h' R 2 = j_it h R 2 := ((a.li kL e1 e2 w.ap.2.2.sy w.lR).2.1 2).1
  have nQ : j_it h' Q 2 = j_it h Q 2 + Int32.ofInt 1 := by
    obtain ⟨b, b1, b2, b3, b4, b5, -⟩ := a
    exact b5
  refine ⟨fun k hk => ?_, fun k i u hk hi hu => ?_, fun k f hk hf => ?_, fun k f hk hf => ?_, fun k f hk hf => ?_⟩
  · match k, hk with
    | 0, _ => exact nG
    | 1, _ => exact nR
    | 2, _ => exact nQ
    | 3, _ => exact r5 0
    | 4, _ => exact r5 1
    | 5, _ => exact r6 3
    | 6, _ => exact r6 2
    | n + 7, hk => omega
  · have hk : (k : Int) < (j_it h' G 2).toInt := hk
    rw [nG] at hk
    exact r1 k i u hk hu
  · have hk : (k : Int) < (j_it h' G 2).toInt := hk
    rw [nG] at hk
    exact r2 k f hk
  · have hk : (k : Int) < (j_it h' R 2).toInt := hk
    rw [nR] at hk
    exact r3 k f hk
  · have hk : (k : Int) < (j_it h' Q 2).toInt := hk
    rw [nQ] at hk
    show z_dp h' Q k f = if k = (j_it h Q 2).toNatClampNeg then j_it h' e f else z_dp h Q k f
    by_cases z : k = (j_it h Q 2).toNatClampNeg
    · rw [if_pos z, z]
      unfold z_dp
      rw [s2]
    · rw [if_neg z]
      exact r4 k f (z_adk (L := Q) l0 (by omega) hk z).1
/-- ints written where nothing is in use: what the frame allows -/
theorem j_Mf.wi0 {it : Nat → Nat → Int32} (km : j_kd h m = some (.inl 12)) (s : ∀ q f, j_kd h q ≠ none → it q f = j_it h q f ∨ (ρ q = 0 ∧ (j_kd h q = some (.inr 0) ∨ j_kd h q = some (.inl 10) ∨ (j_kd h q = some (.inl 11) ∧ (f = 1 → 0 ≤ (it q 1).toInt ∧ (it q 1).toInt ≤ 1))))) : j_Mf ρ m h (j_wi h it) := by
  refine ⟨⟨rfl, fun q hq => ⟨rfl, rfl, fun hn k => ⟨?_, rfl, rfl⟩⟩⟩, ⟨fun _ _ => rfl, fun k hk => ?_⟩, fun _ _ _ _ => rfl, fun e he r => ?_, fun b hb r k => ?_, fun b hb r k => ?_, fun _ _ z _ _ => z⟩
  · rcases s q k hq with z | ⟨z, y⟩
    · exact z
    · refine absurd (Or.inr (Or.inr ⟨?_, z⟩)) hn
      rcases y with y | y | ⟨y, -⟩
      · exact Or.inl y
      · exact Or.inr (Or.inl y)
      · exact Or.inr (Or.inr y)
  · rcases s m k (j_nn km) with z | ⟨-, y⟩
    · exact z
    · rw [km] at y
      rcases y with y | y | ⟨y, -⟩ <;> cases y
  · unfold j_rA
    show 0 ≤ (it e 1).toInt ∧ (it e 1).toInt ≤ 1
    rcases s e 1 (j_nn he) with z | ⟨-, y⟩
    · rw [z]; exact r
    · rw [he] at y
      rcases y with y | y | ⟨-, y⟩
      · cases y
      · cases y
      · exact y rfl
  · rcases s b k (j_nn hb) with z | ⟨z, -⟩
    · exact z
    · rw [r] at z; cases z
  · rcases s b k (j_nn hb) with z | ⟨z, -⟩
    · exact z
    · rw [r] at z; cases z
end AD
