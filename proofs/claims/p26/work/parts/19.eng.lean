/-! walks: from the entry, by steps, to the ends -/
def j_sl : j_S → j_L
  | [] => []
  | .inr (.inl x) :: r => some (.inr (.inl x)) :: none :: j_sl r
  | .inl x :: r => some (.inl x) :: j_sl r
  | .inr (.inr o) :: r => some (.inr (.inr o)) :: j_sl r
def j_ent (nL : Nat) (as : j_S) : j_L := j_sl as ++ List.replicate (nL - (j_sl as).length) none
theorem j_sl_len (as : j_S) : (j_sl as).length = (lg_sl (as.map j_m)).length := by
  induction as with
  | nil => rfl
  | cons v r ih =>
    rcases v with x | x | o
    · simp [j_sl, lg_sl, j_m, Value.category, ih]
    · simp [j_sl, lg_sl, j_m, Value.category, ih]
    · cases o <;> simp [j_sl, lg_sl, j_m, va_rf, Value.category, ih]
theorem j_sl_get (as : j_S) : ∀ (i : Nat) (v : j_V), (j_sl as)[i]? = some (some v) → (lg_sl (as.map j_m))[i]? = some (.val (j_m v)) := by
  induction as with
  | nil => intro i v h; simp [j_sl] at h
  | cons w r ih =>
    intro i v h
    have e1 : ∀ w : j_V, j_cat w = 1 → lg_sl ((w :: r).map j_m) = .val (j_m w) :: lg_sl (r.map j_m) := by
      intro w hw
      simp [lg_sl, j_m_cat, hw]
    rcases w with x | x | o
    · rw [e1 _ rfl]
      cases i with
      | zero => simp only [j_sl, List.getElem?_cons_zero, Option.some.injEq] at h ⊢; rw [← h]
      | succ i => exact ih i v (by simpa [j_sl] using h)
    · have e2 : lg_sl ((.inr (.inl x) :: r : j_S).map j_m) = .val (.long x) :: .second :: lg_sl (r.map j_m) := by
        simp [lg_sl, j_m, Value.category]
      rw [e2]
      cases i with
      | zero => simp only [j_sl, List.getElem?_cons_zero, Option.some.injEq] at h ⊢; rw [← h]; rfl
      | succ i =>
        cases i with
        | zero => simp [j_sl] at h
        | succ i => exact ih i v (by simpa [j_sl] using h)
    · rw [e1 _ rfl]
      cases i with
      | zero => simp only [j_sl, List.getElem?_cons_zero, Option.some.injEq] at h ⊢; rw [← h]
      | succ i => exact ih i v (by simpa [j_sl] using h)
theorem j_ent_LR {nL : Nat} {as : j_S} (h : (j_sl as).length ≤ nL) : j_LR nL (j_ent nL as) ((lg_sl (as.map j_m) ++ List.replicate (nL - (lg_sl (as.map j_m)).length) Slot.unset).toArray) := by
  have hl := lv_entry (as.map j_m) (n := nL) (by rw [← j_sl_len]; exact h)
  refine ⟨hl.1, hl.2.1, fun i v hv => ?_⟩
  unfold j_ent at hv
  by_cases hi : i < (j_sl as).length
  · rw [List.getElem?_append_left hi] at hv
    rw [List.getElem?_toArray, List.getElem?_append_left (by rw [← j_sl_len]; exact hi)]
    exact j_sl_get as i v hv
  · rw [List.getElem?_append_right (by omega), List.getElem?_replicate] at hv
    split at hv <;> cases hv
def j_isin : List Nat → Nat → Bool
  | [], _ => false
  | a :: l, pc => bif Nat.beq a pc then true else j_isin l pc
def j_go (code : List j_I) (F : j_F) (P : Option j_V → j_H → Prop) (X : Nat → j_H → Prop) (J : j_J) (stops : List Nat) : Nat → j_J
  | 0 => J
  | n + 1 => fun pc lo st h cn sn => bif j_isin stops pc then J pc lo st h cn sn else match j_find code pc with
    | none => False
    | some q => j_stp F P X q lo st h cn sn (j_go code F P X J stops n)
/-- n steps at most, to a place of 'stops' or to the end; the first step is taken -/
def j_one (code : List j_I) (F : j_F) (P : Option j_V → j_H → Prop) (X : Nat → j_H → Prop) (J : j_J) (stops : List Nat) (n : Nat) (pc : Nat) (lo : j_L) (st : j_S) (h : j_H) (cn sn : Nat) : Prop := match j_find code pc with
  | none => False
  | some q => j_stp F P X q lo st h cn sn (j_go code F P X J stops n)
def j_Cl (code : List j_I) (F : j_F) (P : Option j_V → j_H → Prop) (X : Nat → j_H → Prop) (J : j_J) : Prop := ∀ (stops : List Nat) (n pc : Nat) (lo : j_L) (st : j_S) (h : j_H) (cn sn : Nat), j_one code F P X J stops n pc lo st h cn sn → J pc lo st h cn sn
/-- some locals forgotten -/
def j_le : j_L → j_L → Prop
  | [], _ => True
  | none :: r, _ :: r' => j_le r r'
  | some v :: r, some w :: r' => v = w ∧ j_le r r'
  | some _ :: _, none :: _ => False
  | some _ :: _, [] => False
  | none :: r, [] => j_le r []
theorem j_le_get : ∀ {a b : j_L}, j_le a b → ∀ (i : Nat) (v : j_V), a[i]? = some (some v) → b[i]? = some (some v) := by
  intro a
  induction a with
  | nil => intro b _ i v h; simp at h
  | cons x r ih =>
    intro b hb i v h
    cases x with
    | none =>
      cases i with
      | zero => simp at h
      | succ i =>
        cases b with
        | nil => exact absurd (ih (b := []) hb i v (by simpa using h)) (by simp)
        | cons y r' => simpa using ih (b := r') hb i v (by simpa using h)
    | some w =>
      cases b with
      | nil => exact hb.elim
      | cons y r' =>
        cases y with
        | none => exact hb.elim
        | some z =>
          obtain ⟨rfl, hb⟩ := hb
          cases i with
          | zero => simpa using h
          | succ i => simpa using ih hb i v (by simpa using h)
def j_Fg (J : j_J) : Prop := ∀ (pc : Nat) (lo lo' : j_L) (st : j_S) (h : j_H) (cn sn : Nat), j_le lo' lo → J pc lo' st h cn sn → J pc lo st h cn sn
/-- a method's code, read and linked -/
def j_Md (n : Nat) (code : List j_I) : Prop := plainName (j_y n).cls = true ∧ ∀ q ∈ code, decode (j_b n) q.1 = .ok (q.2.1, q.2.2.1) ∧ j_lk (j_y n).cls (j_y n).name (j_b n) (j_hh n) q
theorem j_intro {n : Nat} {code : List j_I} (hM : j_Md n code) {fr lo mc ms : Nat} {as : j_S} {h : j_H} {P : Option j_V → j_H → Prop} {X : Nat → j_H → Prop} (has : (j_sl as).length ≤ j_ml n)
    (body : ∀ J : j_J, j_Cl code (j_ml n, j_rt n, fr, lo, mc, ms) P X J → j_Fg J → J 0 (j_ent (j_ml n) as) [] h 0 0) : j_Ct n fr lo mc ms as h P X := by
  obtain ⟨hpl, hq⟩ := hM
  intro l hl D T A
  have hbody : ∀ (p : Program) (e : Env) (s : State) (m : MethodId) (args : Array Value) (below : List Frame) (meth : Method) (c : Code) (s₁ : State), BodyLoose p l (j_y n) (headSpec (j_ws n) { frames := fr, cells := mc, slots := ms, locals := lo }) (j_b n) (j_ml n) (j_rt n) e s m args below meth c s₁ → c.maxLocals = j_ml n → c.exceptionTable.toList = tableOf (j_hh n) → j_Pc D T A as h args s →
      W p l e (headSpec (j_ws n) { frames := fr, cells := mc, slots := ms, locals := lo }).room s m args below meth c s.heap [] 0 0 (vx_MQ below (j_Qc D T A P (j_st h)) (j_XC D T A X (j_st h)) args s mc ms A) (entryFrame m args (j_ml n)) := by
   intro p e s m args below meth c s₁ B hml htab hP
   obtain ⟨rfl, hK, hT, hX, hY, hR, hA⟩ := hP
   have hts := atoms_spec (ws := j_ws n) B.pre
   have C0 : j_Cx p l s m (as.map j_m).toArray meth c D T A (j_b n) (j_ml n) (j_y n).cls (j_y n).name (j_rt n) (j_st h) :=
     ⟨B.exec, B.bytes, hml, findClass_of_methodNamed B.named, fun w hw => hts w (List.mem_cons_of_mem _ hw), hK, hT, B.returns, B.notSynchronized, (name_of_methodNamed B.named B.method).1, hl, hA, hX, hY⟩
   rw [lg_entry_eq]
   generalize hW : j_Wok p l e (headSpec (j_ws n) { frames := fr, cells := mc, slots := ms, locals := lo }).room s m (as.map j_m).toArray below meth c (vx_MQ below (j_Qc D T A P (j_st h)) (j_XC D T A X (j_st h)) (as.map j_m).toArray s mc ms A) D T A (j_ml n) (j_st h) = J
   have hfin : J 0 (j_ent (j_ml n) as) [] h 0 0 := by
     refine body J ?_ ?_
     rotate_left
     · subst hW
       intro pc lo1 lo2 st' h' cn sn hle hj ls H locs hL
       exact hj ls H locs ⟨hL.1, hL.2.1, fun i v hv => hL.2.2 i v (j_le_get hle i v hv)⟩
     have one : ∀ (q : j_I) (pc : Nat) (lo' : j_L) (st' : j_S) (h' : j_H) (cn sn : Nat) (K : j_J), j_find code pc = some q → (∀ pc lo st h cn sn, K pc lo st h cn sn → J pc lo st h cn sn) → j_stp (j_ml n, j_rt n, fr, lo, mc, ms) P X q lo' st' h' cn sn K → J pc lo' st' h' cn sn := by
       intro q pc lo' st' h' cn sn K hf hk hs
       obtain ⟨hm, rfl⟩ := j_find_mem hf
       obtain ⟨hd, hlk⟩ := hq q hm
       subst hW
       exact j_stp_ok (F := (j_ml n, j_rt n, fr, lo, mc, ms)) C0 htab rfl rfl rfl rfl hd hlk hs hk
     have many : ∀ (stops : List Nat) (k pc : Nat) (lo' : j_L) (st' : j_S) (h' : j_H) (cn sn : Nat), j_go code (j_ml n, j_rt n, fr, lo, mc, ms) P X J stops k pc lo' st' h' cn sn → J pc lo' st' h' cn sn := by
       intro stops k
       induction k with
       | zero => intro pc lo' st' h' cn sn h1; exact h1
       | succ k ih =>
         intro pc lo' st' h' cn sn h1
         unfold j_go at h1
         cases hi : j_isin stops pc with
         | true => rw [hi] at h1; exact h1
         | false =>
           rw [hi] at h1
           cases hf : j_find code pc with
           | none => rw [hf] at h1; exact h1.elim
           | some q => rw [hf] at h1; exact one q pc lo' st' h' cn sn _ hf ih h1
     intro stops k pc lo' st' h' cn sn h1
     unfold j_one at h1
     cases hf : j_find code pc with
     | none => rw [hf] at h1; exact h1.elim
     | some q => rw [hf] at h1; exact one q pc lo' st' h' cn sn _ hf (many stops k) h1
   subst hW
   exact hfin _ _ _ (j_ent_LR has) hR rfl va_S.rf
  cases hh : j_hh n with
  | nil =>
    refine vx_ofW (cc := j_b n) (maxL := j_ml n) (ret := j_rt n) hpl (show j_ws n = _ :: TB by unfold j_ws; rw [j_w0c hh]) ?_
    intro p e s m args below meth c s₁ B hml ht hP
    exact hbody p e s m args below meth c s₁ B hml (by rw [hh]; exact List.eq_nil_iff_forall_not_mem.mpr (fun x hx => ht x hx)) hP
  | cons x0 l0 =>
    have e9 : j_w0 n = .codeWith (j_y n) (j_b n) (j_ml n) (j_rt n) (x0 :: l0) := by unfold j_w0; rw [hh]
    refine vx_ofWH (cc := j_b n) (maxL := j_ml n) (ret := j_rt n) (hh := x0 :: l0) hpl (show j_ws n = _ :: TB by unfold j_ws; rw [e9]) ?_
    intro p e s m args below meth c s₁ B hml hP
    refine hbody p e s m args below meth c s₁ B hml ?_ hP
    rw [hh]
    exact vx_table (x := j_y n) B (atoms_spec (ws := j_ws n) B.pre _ (by unfold j_ws; rw [e9]; exact List.mem_cons_self))
