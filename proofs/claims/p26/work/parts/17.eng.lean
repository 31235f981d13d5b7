/-! one step of any kind, as a condition -/
def j_pv (ty : FieldType) (st : j_S) (k : j_V → j_S → Prop) : Prop := match ty with
  | .long => j_pl st fun x r => k (j_l x) r
  | .object _ => j_pr st fun x r => k (j_r x) r
  | .array _ => j_pr st fun x r => k (j_r x) r
  | .int => j_pi st fun x r => k (j_i x) r
  | .boolean => j_pi st fun x r => (x = 0 ∨ x = 1) ∧ k (j_i x) r
  | .byte => j_pi st fun x r => x.toInt8.toInt32 = x ∧ k (j_i x) r
  | _ => False
theorem j_pv_of {ty : FieldType} {st : j_S} {k : j_V → j_S → Prop} (h : j_pv ty st k) : ∃ v r, st = v :: r ∧ j_vt ty v ∧ k v r := by
  cases ty <;> simp only [j_pv] at h
  case byte => obtain ⟨x, r, rfl, hx, h⟩ := j_pi_of h; exact ⟨_, _, rfl, ⟨x, rfl, hx⟩, h⟩
  case int => obtain ⟨x, r, rfl, h⟩ := j_pi_of h; exact ⟨_, _, rfl, ⟨x, rfl⟩, h⟩
  case long => obtain ⟨x, r, rfl, h⟩ := j_pl_of h; exact ⟨_, _, rfl, ⟨x, rfl⟩, h⟩
  case boolean => obtain ⟨x, r, rfl, hx, h⟩ := j_pi_of h; exact ⟨_, _, rfl, ⟨x, rfl, hx⟩, h⟩
  case object => obtain ⟨x, r, rfl, h⟩ := j_pr_of h; exact ⟨_, _, rfl, ⟨x, rfl⟩, h⟩
  case array => obtain ⟨x, r, rfl, h⟩ := j_pr_of h; exact ⟨_, _, rfl, ⟨x, rfl⟩, h⟩
/-- what is read gets a name -/
def j_gv (ty : FieldType) (h : j_H) (a k : Nat) (K : j_V → Prop) : Prop := match ty with
  | .long => ∀ x, j_lg h a k = x → K (j_l x)
  | .object _ => ∀ x, j_rf h a k = x → K (j_r x)
  | .array _ => ∀ x, j_rf h a k = x → K (j_r x)
  | _ => ∀ x, j_it h a k = x → K (j_i x)
theorem j_gv_of {ty : FieldType} {h : j_H} {a k : Nat} {K : j_V → Prop} (g : j_gv ty h a k K) : K (j_vv ty h a k) := by
  cases ty <;> exact g _ rfl
def j_rv (ret : Option FieldType) (x : Int32) : Prop := match ret with
  | some .int => True
  | some .boolean => x = 0 ∨ x = 1
  | some .byte => x.toInt8.toInt32 = x
  | _ => False
theorem j_rv_of {ret : Option FieldType} {x : Int32} (h : j_rv ret x) : ∃ ty, ret = some ty ∧ j_vt ty (.inl x) := by
  unfold j_rv at h
  split at h
  · exact ⟨_, rfl, x, rfl⟩
  · exact ⟨_, rfl, x, rfl, h⟩
  · exact ⟨_, rfl, x, rfl, h⟩
  · exact h.elim
def j_ra (ret : Option FieldType) : Prop := match ret with
  | some (.object _) => True
  | some (.array _) => True
  | _ => False
theorem j_ra_of {ret : Option FieldType} (h : j_ra ret) : ∃ ty, ret = some ty ∧ ((∃ n, ty = .object n) ∨ ∃ t, ty = .array t) := by
  unfold j_ra at h
  split at h
  · exact ⟨_, rfl, Or.inl ⟨_, rfl⟩⟩
  · exact ⟨_, rfl, Or.inr ⟨_, rfl⟩⟩
  · exact h.elim
def j_nil (r : j_S) (P : Prop) : Prop := match r with
  | [] => P
  | _ => False
theorem j_nil_of {r : j_S} {P : Prop} (h : j_nil r P) : r = [] ∧ P := by
  cases r with
  | nil => exact ⟨rfl, h⟩
  | cons => exact h.elim
/-- nL, ret, frames, locals, cells, slots -/
abbrev j_F : Type := Nat × Option FieldType × Nat × Nat × Nat × Nat
/-- where a thrown thing of the x-th kind is caught: one more than the place; 0, or none: nowhere -/
def j_hnd (hs : List Nat) (x : Nat) (k : Nat → Prop) : Prop := match hs[x]? with
  | some (p + 1) => k p
  | _ => False
theorem j_hnd_nil {x : Nat} {k : Nat → Prop} : ¬ j_hnd [] x k := fun h => h
theorem j_hnd_of {hs : List Nat} {x : Nat} {k : Nat → Prop} (h : j_hnd hs x k) : ∃ p, hs[x]? = some (p + 1) ∧ k p := by
  unfold j_hnd at h
  split at h
  · rename_i p hp
    exact ⟨p, hp, h⟩
  · exact h.elim
def j_cll (F : j_F) (n : Nat) (as rest : j_S) (pc' : Nat) (lo : j_L) (h : j_H) (cn sn : Nat) (hs : List Nat) (K : j_J) : Prop :=
  Nat.ble (j_cats rest) 8 = true ∧ ∃ (fr lo' mc ms : Nat) (P : Option j_V → j_H → Prop) (X : Nat → j_H → Prop), j_Ct n fr lo' mc ms as h P X ∧ (fr + 1 ≤ F.2.2.1 ∧ 8 + (j_ml n + 11) + lo' ≤ F.2.2.2.1 ∧ cn + mc ≤ F.2.2.2.2.1 ∧ sn + ms ≤ F.2.2.2.2.2) ∧ (∀ x h', X x h' → j_hnd hs x fun p => ∀ a, K p lo [j_r (some a)] h' (cn + mc) (sn + ms)) ∧
    ∀ v h', P v h' → K pc' lo (v.toList ++ rest) h' (cn + mc) (sn + ms)
def j_recvr (h : j_H) (cl : Nat) (as : j_S) : Prop := match as with
  | .inr (.inr (some b)) :: _ => j_kd h b = some (.inl cl)
  | _ => False
theorem j_recvr_of {h : j_H} {cl : Nat} {as : j_S} (g : j_recvr h cl as) : ∃ b r, as = j_r (some b) :: r ∧ j_kd h b = some (.inl cl) := by
  unfold j_recvr at g
  split at g
  · exact ⟨_, _, rfl, g⟩
  · exact g.elim
def j_hdr (as : j_S) : Prop := match as with
  | .inr (.inr (some _)) :: _ => True
  | _ => False
theorem j_hdr_of {as : j_S} (g : j_hdr as) : ∃ b r, as = j_r (some b) :: r := by
  unfold j_hdr at g
  split at g
  · exact ⟨_, _, rfl⟩
  · exact g.elim
def j_stp (F : j_F) (P : Option j_V → j_H → Prop) (X : Nat → j_H → Prop) (q : j_I) (lo : j_L) (st : j_S) (h : j_H) (cn sn : Nat) (K : j_J) : Prop := match q.2.1 with
  | .getfield _ => j_pr st fun o r => ∃ a, o = some a ∧ j_kd h a = some (.inl (j_r1 q)) ∧ j_gv (j_fty (j_r1 q) (j_r2 q)) h a (j_r2 q) fun v => K (j_nx q) lo (v :: r) h cn sn
  | .putfield _ => j_pv (j_fty (j_r1 q) (j_r2 q)) st fun v r => j_pr r fun o r => ∃ a, o = some a ∧ j_kd h a = some (.inl (j_r1 q)) ∧ K (j_nx q) lo r (j_up h a (j_r2 q) v) cn sn
  | .new _ => match j_tg q with
    | [] => (cn + 1 ≤ F.2.2.2.2.1 ∧ sn + j_r2 q ≤ F.2.2.2.2.2) ∧ ∀ a, j_kd h a = none → K (j_nx q) lo (j_r (some a) :: st) (j_nw h a (.inl (j_r1 q)) 0) (cn + 1) (sn + j_r2 q)
    | k :: _ => (cn + 1 ≤ F.2.2.2.2.1 ∧ sn + 6 ≤ F.2.2.2.2.2) ∧ (6 ≤ F.2.2.1 ∧ j_cats st + 82 ≤ F.2.2.2.1) ∧ X k h
  | .newarray _ => j_pi st fun n r => (¬ n < 0 ∧ n.toNatClampNeg * 4 ≤ 536870912) ∧ (cn + 1 ≤ F.2.2.2.2.1 ∧ sn + n.toNatClampNeg ≤ F.2.2.2.2.2) ∧ ∀ a, j_kd h a = none → K (j_nx q) lo (j_r (some a) :: r) (j_nw h a (.inr (j_r1 q)) n.toNatClampNeg) (cn + 1) (sn + n.toNatClampNeg)
  | .anewarray _ => j_pi st fun n r => (¬ n < 0 ∧ n.toNatClampNeg * 4 ≤ 536870912) ∧ (cn + 1 ≤ F.2.2.2.2.1 ∧ sn + n.toNatClampNeg ≤ F.2.2.2.2.2) ∧ ∀ a, j_kd h a = none → K (j_nx q) lo (j_r (some a) :: r) (j_nw h a (.inr 2) n.toNatClampNeg) (cn + 1) (sn + n.toNatClampNeg)
  | .arraylength => j_pr st fun o r => ∃ a t, o = some a ∧ j_kd h a = some (.inr t) ∧ K (j_nx q) lo (j_i (nI (j_ln h a)) :: r) h cn sn
  | .iaload => j_pi st fun i r => j_pr r fun o r => ∃ a t, o = some a ∧ j_kd h a = some (.inr t) ∧ t % 10 = 0 ∧ vp_in i (j_ln h a) ∧ ∀ x, j_it h a i.toNatClampNeg = x → K (j_nx q) lo (j_i x :: r) h cn sn
  | .baload => j_pi st fun i r => j_pr r fun o r => ∃ a t, o = some a ∧ j_kd h a = some (.inr t) ∧ t % 10 = 1 ∧ vp_in i (j_ln h a) ∧ ∀ x, j_it h a i.toNatClampNeg = x → K (j_nx q) lo (j_i x :: r) h cn sn
  | .aaload => j_pi st fun i r => j_pr r fun o r => ∃ a t, o = some a ∧ j_kd h a = some (.inr t) ∧ t % 10 = 2 ∧ vp_in i (j_ln h a) ∧ ∀ x, j_rf h a i.toNatClampNeg = x → K (j_nx q) lo (j_r x :: r) h cn sn
  | .iastore => j_pi st fun x r => j_pi r fun i r => j_pr r fun o r => ∃ a, o = some a ∧ j_kd h a = some (.inr 0) ∧ vp_in i (j_ln h a) ∧ K (j_nx q) lo r (j_ui h a i.toNatClampNeg x) cn sn
  | .bastore => j_pi st fun x r => j_pi r fun i r => j_pr r fun o r => ∃ a, o = some a ∧ j_kd h a = some (.inr 1) ∧ vp_in i (j_ln h a) ∧ K (j_nx q) lo r (j_ui h a i.toNatClampNeg x.toInt8.toInt32) cn sn
  | .aastore => j_pr st fun v r => j_pi r fun i r => j_pr r fun o r => ∃ a b, o = some a ∧ v = some b ∧ j_ok h b ∧ j_kd h a = some (.inr 2) ∧ vp_in i (j_ln h a) ∧ K (j_nx q) lo r (j_ur h a i.toNatClampNeg (some b)) cn sn
  | .checkcast _ => match j_tg q with
    | [] => j_pr st fun o r => (o = none ∨ ∃ a, o = some a ∧ j_kd h a = some (.inl (j_r1 q))) ∧ K (j_nx q) lo (j_r o :: r) h cn sn
    | t :: _ => j_pr st fun o r => (o = none ∨ ∃ a, o = some a ∧ j_kd h a = some (.inr t)) ∧ K (j_nx q) lo (j_r o :: r) h cn sn
  | .getstatic _ => match j_r1 q with
    | 0 => ∃ z, j_zi[j_r2 q]? = some z ∧ K (j_nx q) lo (j_i z.2.2.2 :: st) h cn sn
    | _ => K (j_nx q) lo (j_r (j_st h (j_r2 q)) :: st) h cn sn
  | .ldc _ => match j_r1 q with
    | 0 => K (j_nx q) lo (j_i (Int32.ofNat (j_r2 q)) :: st) h cn sn
    | 1 => ∀ a, K (j_nx q) lo (j_r (some a) :: st) h cn sn
    | _ => K (j_nx q) lo (j_r (j_st h 9) :: st) h cn sn
  | .ldc_w _ => K (j_nx q) lo (j_i (Int32.ofNat (j_r2 q)) :: st) h cn sn
  | .ldc2_w _ => K (j_nx q) lo (j_l (Int64.ofNat (j_r2 q)) :: st) h cn sn
  | .ireturn => j_pi st fun x r => j_nil r (j_rv F.2.1 x ∧ (cn ≤ F.2.2.2.2.1 ∧ sn ≤ F.2.2.2.2.2) ∧ P (some (j_i x)) h)
  | .lreturn => j_pl st fun x r => j_nil r (F.2.1 = some .long ∧ (cn ≤ F.2.2.2.2.1 ∧ sn ≤ F.2.2.2.2.2) ∧ P (some (j_l x)) h)
  | .areturn => j_pr st fun x r => j_nil r (j_ra F.2.1 ∧ (cn ≤ F.2.2.2.2.1 ∧ sn ≤ F.2.2.2.2.2) ∧ P (some (j_r x)) h)
  | .return_ => j_nil st (F.2.1 = none ∧ (cn ≤ F.2.2.2.2.1 ∧ sn ≤ F.2.2.2.2.2) ∧ P none h)
  | .invokevirtual _ => match j_tg q with
    | cl :: hs => j_tk (j_r2 q) [] st fun as rest => j_recvr h cl as ∧ j_cll F (j_r1 q) as rest (j_nx q) lo h cn sn hs K
    | [] => match j_r1 q with
      | 0 => j_pr st fun o r => ∃ a t, o = some a ∧ j_kd h a = some (.inr t) ∧ t = 2 ∧ (1 ≤ F.2.2.1 ∧ j_cats r + 14 ≤ F.2.2.2.1) ∧ K (j_nx q) lo (j_r (j_st h 9) :: r) h cn sn
      | _ => j_pr st fun o r => ∃ a t, o = some a ∧ j_kd h a = some (.inr t) ∧ t = 1 ∧ (∀ k : Nat, (j_it h a k).toInt8.toInt32 = j_it h a k) ∧ (1 ≤ F.2.2.1 ∧ j_cats r + 14 ≤ F.2.2.2.1) ∧ (cn + 1 ≤ F.2.2.2.2.1 ∧ sn + j_ln h a ≤ F.2.2.2.2.2) ∧ ∀ b, j_kd h b = none → K (j_nx q) lo (j_r (some b) :: r) (j_cln h b a) (cn + 1) (sn + j_ln h a)
  | .invokeinterface _ _ => j_tk (j_r2 q) [] st fun as rest => j_recvr h (j_t1 q) as ∧ j_cll F (j_r1 q) as rest (j_nx q) lo h cn sn [] K
  | .invokestatic _ => match j_tg q with
    | [] => j_tk (j_r2 q) [] st fun as rest => j_cll F (j_r1 q) as rest (j_nx q) lo h cn sn [] K
    | 0 :: _ => j_pi st fun y r => j_pi r fun x r => (1 ≤ F.2.2.1 ∧ j_cats r + 13 ≤ F.2.2.2.1 ∧ cn ≤ F.2.2.2.2.1 ∧ sn ≤ F.2.2.2.2.2) ∧ K (j_nx q) lo (j_i (if x < y then y else x) :: r) h cn sn
    | 1 :: _ => j_pi st fun y r => j_pi r fun x r => (1 ≤ F.2.2.1 ∧ j_cats r + 13 ≤ F.2.2.2.1 ∧ cn ≤ F.2.2.2.2.1 ∧ sn ≤ F.2.2.2.2.2) ∧ K (j_nx q) lo (j_i (if y < x then y else x) :: r) h cn sn
    | 2 :: _ => j_pi st fun n r => j_pi r fun dp r => j_pr r fun o1 r => j_pi r fun sp r => j_pr r fun o0 r => ∃ a0 a1 t0, o0 = some a0 ∧ o1 = some a1 ∧ j_kd h a0 = some (.inr t0) ∧ t0 = 2 ∧ j_kd h a1 = some (.inr 2) ∧ (0 ≤ sp.toInt ∧ 0 ≤ dp.toInt ∧ 0 ≤ n.toInt ∧ sp.toInt + n.toInt ≤ (j_ln h a0 : Int) ∧ dp.toInt + n.toInt ≤ (j_ln h a1 : Int)) ∧
        (∀ (k y : Nat), j_rf h a0 k = some y → (k : Int) < sp.toInt + n.toInt → j_ok h y) ∧ (1 ≤ F.2.2.1 ∧ j_cats r + 18 ≤ F.2.2.2.1) ∧ K (j_nx q) lo r (j_cp h a1 (va_cpy (j_rf h a0) (j_rf h a1) sp.toNatClampNeg dp.toNatClampNeg n.toNatClampNeg)) cn sn
    | _ :: _ => j_pi st fun n r => j_pi r fun dp r => j_pr r fun o1 r => j_pi r fun sp r => j_pr r fun o0 r => ∃ a0 a1 t0, o0 = some a0 ∧ o1 = some a1 ∧ j_kd h a0 = some (.inr t0) ∧ t0 = 1 ∧ j_kd h a1 = some (.inr 1) ∧ (0 ≤ sp.toInt ∧ 0 ≤ dp.toInt ∧ 0 ≤ n.toInt ∧ sp.toInt + n.toInt ≤ (j_ln h a0 : Int) ∧ dp.toInt + n.toInt ≤ (j_ln h a1 : Int)) ∧
        (∀ k : Nat, (j_it h a0 k).toInt8.toInt32 = j_it h a0 k) ∧ (1 ≤ F.2.2.1 ∧ j_cats r + 18 ≤ F.2.2.2.1) ∧ K (j_nx q) lo r (j_cpi h a1 (va_cpy (j_it h a0) (j_it h a1) sp.toNatClampNeg dp.toNatClampNeg n.toNatClampNeg)) cn sn
  | .invokespecial _ => match j_tg q with
    | [] => j_tk (j_r2 q) [] st fun as rest => j_hdr as ∧ j_cll F (j_r1 q) as rest (j_nx q) lo h cn sn [] K
    | [_] => j_pr st fun o r => ∃ a, o = some a ∧ (1 ≤ F.2.2.1 ∧ j_cats r + 12 ≤ F.2.2.2.1) ∧ K (j_nx q) lo r h cn sn
    | cl :: _ :: _ => j_tk (j_r2 q) [] st fun as rest => j_recvr h cl as ∧ j_cll F (j_r1 q) as rest (j_nx q) lo h cn sn [] K
  | _ => j_sp F.1 q lo st h cn sn K
/-- what a throw's words are: of the class own, the k-th exception, made by ic -/
def j_tw (own : String) (E : String) (ic : Nat) : Prop := (∀ w ∈ (vx_atS own ic E ["java/lang/RuntimeException", "java/lang/Exception"]).filter goodWord, w ∈ TB) ∧ (∀ w ∈ (vx_atS own ic E ["java/lang/RuntimeException", "java/lang/Exception"]).filter (fun w => !goodWord w), w ∈ Cond.castable E E :: j_dcl.map Cond.declares) ∧ (∀ w ∈ vx_atS own ic E ["java/lang/RuntimeException", "java/lang/Exception"], vx_ot w = true) ∧ Bundle.fit E = true ∧ Cond.initialized E ∈ TB ∧ Cond.castable E E ∈ tables_1
/-- the table's rows that catch -/
def j_hl (own : String) (hh : List (Nat × Nat × Nat × Nat)) (pc : Nat) (hs : List Nat) : Prop := ∀ (x : Nat) (E : String) (p : Nat), j_ex[x]? = some E → hs[x]? = some (p + 1) → ∃ (pre : List (Nat × Nat × Nat × Nat)) (y : Nat × Nat × Nat × Nat) (suf : List (Nat × Nat × Nat × Nat)), hh = pre ++ y :: suf ∧ y.2.2.1 = p ∧ (y.1 ≤ pc ∧ pc < y.2.1) ∧ y.2.2.2 ≠ 0 ∧ Cond.classLink own y.2.2.2 E ∈ TB ∧
  ∀ z ∈ pre, z.2.2.2 ≠ 0 ∧ ∃ nz : String, Cond.classLink own z.2.2.2 nz ∈ TB ∧ (E, nz) ∈ j_ncs
theorem j_hl_nil {own : String} {hh : List (Nat × Nat × Nat × Nat)} {pc : Nat} : j_hl own hh pc [] := fun x E p _ h => nomatch h
/-- a method by its number: its class, bytes, code; nm: is it a constructor -/
def j_lk (own nm : String) (cc : ByteArray) (hh : List (Nat × Nat × Nat × Nat)) (q : j_I) : Prop := match q.2.1 with
  | .getfield i => j_len q 3 ∧ j_fl own i (j_r1 q) (j_r2 q)
  | .putfield i => j_len q 3 ∧ j_fl own i (j_r1 q) (j_r2 q) ∧ ∀ r : vw_C, vwCl[j_r1 q]? = some r → (r.2.1 (j_r2 q)).2.2.2 = true → nm = "<init>" ∧ (r.2.1 (j_r2 q)).1 = own
  | .new i => j_len q 3 ∧ match j_tg q with
    | [] => ∃ r : vw_C, vwCl[j_r1 q]? = some r ∧ r.2.2 = j_r2 q ∧ Cond.classLink own i r.1 ∈ TB ∧ Cond.instantiable r.1 (j_r2 q) ∈ TB ∧ Cond.initialized r.1 ∈ TB
    | k :: _ => hh = [] ∧ ∃ (E : String) (ic : Nat) (tx : String), j_ex[k]? = some E ∧ j_tw own E ic ∧ Cond.classLink own i E ∈ TB ∧ (own, j_r1 q, tx) ∈ j_strs ∧ decode cc (q.1 + 3) = .ok (.dup, 1) ∧
        ((decode cc (q.1 + 4) = .ok (.ldc (j_r1 q), 2) ∧ decode cc (q.1 + 6) = .ok (.invokespecial ic, 3) ∧ decode cc (q.1 + 9) = .ok (.athrow, 1)) ∨ (decode cc (q.1 + 4) = .ok (.ldc_w (j_r1 q), 3) ∧ decode cc (q.1 + 7) = .ok (.invokespecial ic, 3) ∧ decode cc (q.1 + 10) = .ok (.athrow, 1)))
  | .newarray t => j_len q 2 ∧ ((t = .int ∧ j_r1 q = 0) ∨ (t = .byte ∧ j_r1 q = 1)) ∧ Cond.arrayClass (newarray.typeOf t) ∈ TB
  | .anewarray i => j_len q 3 ∧ Cond.classLink own i "java/lang/Object" ∈ TB
  | .arraylength => j_len q 1
  | .iaload => j_len q 1
  | .baload => j_len q 1
  | .aaload => j_len q 1
  | .iastore => j_len q 1
  | .bastore => j_len q 1
  | .aastore => j_len q 1
  | .checkcast i => j_len q 3 ∧ match j_tg q with
    | [] => ∃ r : vw_C, vwCl[j_r1 q]? = some r ∧ Cond.classLink own i r.1 ∈ TB
    | t :: _ => (t = 0 ∧ Cond.classLink own i "[I" ∈ TB) ∨ (t = 1 ∧ Cond.classLink own i "[B" ∈ TB)
  | .getstatic i => j_len q 3 ∧ match j_r1 q with
    | 0 => ∀ z, j_zi[j_r2 q]? = some z → Cond.fieldLink own i z.1 z.2.1 z.2.2.1 ∈ TB
    | _ => ∃ z, j_zr[j_r2 q]? = some z ∧ Cond.fieldLink own i z.1 z.2.1 z.2.2 ∈ TB
  | .ldc i => j_len q 2 ∧ match j_r1 q with
    | 0 => Cond.constant own i (Int32.ofNat (j_r2 q)) ∈ TB
    | 1 => ∃ tx, (own, i, tx) ∈ j_strs
    | _ => Cond.classLink own i "[Ljava/lang/Object;" ∈ TB
  | .ldc_w i => j_len q 3 ∧ Cond.constant own i (Int32.ofNat (j_r2 q)) ∈ TB
  | .ldc2_w i => j_len q 3 ∧ Cond.constantLong own i (Int64.ofNat (j_r2 q)) ∈ TB
  | .ireturn => j_len q 1
  | .lreturn => j_len q 1
  | .areturn => j_len q 1
  | .return_ => j_len q 1
  | .invokevirtual i => j_len q 3 ∧ match j_tg q with
    | cl :: hs => (j_MkV (j_r1 q) cl ∧ Cond.methodLink own i (j_y (j_r1 q)) ∈ TB ∧ j_notMH (j_y (j_r1 q)) (j_r2 q - 1) ∧ j_hl own hh q.1 hs) ∨ (hs = [] ∧ j_MkU own i (j_r1 q) cl (j_r2 q - 1))
    | [] => match j_r1 q with
      | 0 => Cond.methodLink own i ⟨"java/lang/Object", "getClass", "()Ljava/lang/Class;"⟩ ∈ TB ∧ Cond.selects "[Ljava/lang/Object;" ⟨"java/lang/Object", "getClass", "()Ljava/lang/Class;"⟩ ⟨"java/lang/Object", "getClass", "()Ljava/lang/Class;"⟩ ∈ TB ∧ Cond.instanceMethod ⟨"java/lang/Object", "getClass", "()Ljava/lang/Class;"⟩ ∈ TB ∧ Cond.native ⟨"java/lang/Object", "getClass", "()Ljava/lang/Class;"⟩ ∈ TB
      | _ => Cond.methodLink own i ⟨"[B", "clone", "()Ljava/lang/Object;"⟩ ∈ TB ∧ Cond.sameMethod "[B" "java/lang/Object" "clone" "()Ljava/lang/Object;" ∈ TB ∧ Cond.native ⟨"java/lang/Object", "clone", "()Ljava/lang/Object;"⟩ ∈ TB ∧ Cond.instanceMethod ⟨"java/lang/Object", "clone", "()Ljava/lang/Object;"⟩ ∈ TB ∧ Cond.selects "[B" ⟨"[B", "clone", "()Ljava/lang/Object;"⟩ ⟨"java/lang/Object", "clone", "()Ljava/lang/Object;"⟩ ∈ TB
  | .invokeinterface i _ => j_len q 5 ∧ ∃ (r : vw_C) (x : MethodName), vwCl[j_t1 q]? = some r ∧ (r.1, x, j_y (j_r1 q)) ∈ j_fw ∧ Cond.methodLink own i x ∈ TB ∧ Cond.selects r.1 x (j_y (j_r1 q)) ∈ TB ∧ Cond.instanceMethod (j_y (j_r1 q)) ∈ TB ∧ Cond.initialized (j_y (j_r1 q)).cls ∈ TB ∧ j_w0 (j_r1 q) ∈ TB ∧ j_hh (j_r1 q) = [] ∧ j_notMH x (j_r2 q - 1)
  | .invokestatic i => j_len q 3 ∧ match j_tg q with
    | [] => j_MkS (j_r1 q) ∧ Cond.methodLink own i (j_y (j_r1 q)) ∈ TB ∧ j_notMH (j_y (j_r1 q)) (j_r2 q)
    | 0 :: _ => Cond.methodLink own i Lib.Math.max.name ∈ TB ∧ Cond.static Lib.Math.max.name ∈ TB ∧ Cond.initialized "java/lang/Math" ∈ TB ∧ Cond.code Lib.Math.max.name Lib.Math.max.code 2 (some .int) ∈ TB
    | 1 :: _ => Cond.methodLink own i Lib.Math.min.name ∈ TB ∧ Cond.static Lib.Math.min.name ∈ TB ∧ Cond.initialized "java/lang/Math" ∈ TB ∧ Cond.code Lib.Math.min.name Lib.Math.min.code 2 (some .int) ∈ TB
    | _ :: _ => Cond.methodLink own i arraycopyName ∈ TB ∧ Cond.native arraycopyName ∈ TB ∧ Cond.static arraycopyName ∈ TB ∧ Cond.initialized "java/lang/System" ∈ TB
  | .invokespecial i => j_len q 3 ∧ match j_tg q with
    | [] => j_MkI (j_r1 q) ∧ (Cond.methodLink own i (j_y (j_r1 q)) ∈ TB ∨ ∃ host, Cond.methodLinkNest own i (j_y (j_r1 q)) host ∈ j_nest) ∧ j_notMH (j_y (j_r1 q)) (j_r2 q - 1)
    | [_] => Cond.methodLink own i Lib.objectInit ∈ TB ∧ Cond.instanceMethod Lib.objectInit ∈ TB ∧ Cond.code Lib.objectInit ⟨#[0xb1]⟩ 1 none ∈ TB
    | cl :: _ :: _ => j_MkS9 own i (j_r1 q) cl (j_r2 q - 1)
  | _ => j_kp q
