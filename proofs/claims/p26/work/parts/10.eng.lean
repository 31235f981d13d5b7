/-! the little machine: values, a heap as functions, one instruction as a condition; below: that it speaks of the real one -/
abbrev j_V : Type := Int32 ⊕ (Int64 ⊕ Option Nat)
abbrev j_i (x : Int32) : j_V := .inl x
abbrev j_l (x : Int64) : j_V := .inr (.inl x)
abbrev j_r (o : Option Nat) : j_V := .inr (.inr o)
def j_m (v : j_V) : Value := match v with
  | .inl x => .int x
  | .inr (.inl x) => .long x
  | .inr (.inr o) => va_rf o
/-- kinds (inl: object of a class, inr: array of a sort, from 10 on: never written), ints, longs, references, lengths, static references -/
abbrev j_H : Type := (Nat → Option (Nat ⊕ Nat)) × (Nat → Nat → Int32) × (Nat → Nat → Int64) × (Nat → Nat → Option Nat) × (Nat → Nat) × (Nat → Option Nat)
abbrev j_kd (h : j_H) : Nat → Option (Nat ⊕ Nat) := h.1
abbrev j_it (h : j_H) : Nat → Nat → Int32 := h.2.1
abbrev j_lg (h : j_H) : Nat → Nat → Int64 := h.2.2.1
abbrev j_rf (h : j_H) : Nat → Nat → Option Nat := h.2.2.2.1
abbrev j_ln (h : j_H) : Nat → Nat := h.2.2.2.2.1
abbrev j_st (h : j_H) : Nat → Option Nat := h.2.2.2.2.2
def j_vv (ty : FieldType) (h : j_H) (q k : Nat) : j_V := match ty with
  | .long => j_l (j_lg h q k)
  | .object _ => j_r (j_rf h q k)
  | .array _ => j_r (j_rf h q k)
  | _ => j_i (j_it h q k)
/-- one place changed -/
def j_u {α : Type} (f : Nat → Nat → α) (q k : Nat) (x : α) : Nat → Nat → α := fun b j => if j = k then (if b = q then x else f b j) else f b j
def j_ui (h : j_H) (q k : Nat) (x : Int32) : j_H := (h.1, j_u h.2.1 q k x, h.2.2)
def j_ul (h : j_H) (q k : Nat) (x : Int64) : j_H := (h.1, h.2.1, j_u h.2.2.1 q k x, h.2.2.2)
def j_ur (h : j_H) (q k : Nat) (x : Option Nat) : j_H := (h.1, h.2.1, h.2.2.1, j_u h.2.2.2.1 q k x, h.2.2.2.2)
/-- a new cell -/
def j_nw (h : j_H) (q : Nat) (kd : Nat ⊕ Nat) (n : Nat) : j_H :=
  (fun b => if b = q then some kd else h.1 b, fun b j => if b = q then 0 else h.2.1 b j, fun b j => if b = q then 0 else h.2.2.1 b j, fun b j => if b = q then none else h.2.2.2.1 b j, fun b => if b = q then n else h.2.2.2.2.1 b, h.2.2.2.2.2)
abbrev j_S : Type := List j_V
abbrev j_L : Type := List (Option j_V)
abbrev j_J : Type := Nat → j_L → j_S → j_H → Nat → Nat → Prop
def j_pi (st : j_S) (k : Int32 → j_S → Prop) : Prop := match st with
  | .inl x :: r => k x r
  | _ => False
def j_pl (st : j_S) (k : Int64 → j_S → Prop) : Prop := match st with
  | .inr (.inl x) :: r => k x r
  | _ => False
def j_pr (st : j_S) (k : Option Nat → j_S → Prop) : Prop := match st with
  | .inr (.inr x) :: r => k x r
  | _ => False
def j_cat (v : j_V) : Nat := match v with
  | .inr (.inl _) => 2
  | _ => 1
/-- a value of one slot -/
def j_p1 (st : j_S) (k : j_V → j_S → Prop) : Prop := match st with
  | v :: r => match v with
    | .inl x => k (.inl x) r
    | .inr (.inr o) => k (.inr (.inr o)) r
    | .inr (.inl _) => False
  | [] => False
def j_ld (lo : j_L) (i : Nat) (k : j_V → Prop) : Prop := match lo[i]? with
  | some (some v) => k v
  | _ => False
/-- a long that begins just ahead of i is lost -/
def j_un (lo : j_L) (i : Nat) : j_L := match i with
  | 0 => lo
  | k + 1 => match lo[k]? with
    | some (some (.inr (.inl _))) => lo.set k none
    | _ => lo
def j_s1 (lo : j_L) (i : Nat) (v : j_V) : j_L := (j_un lo i).set i (some v)
def j_s2 (lo : j_L) (i : Nat) (v : j_V) : j_L := ((j_un lo i).set i (some v)).set (i + 1) none
theorem j_pi_of {st : j_S} {k : Int32 → j_S → Prop} (h : j_pi st k) : ∃ x r, st = .inl x :: r ∧ k x r := by
  unfold j_pi at h
  split at h
  · exact ⟨_, _, rfl, h⟩
  · exact h.elim
theorem j_pl_of {st : j_S} {k : Int64 → j_S → Prop} (h : j_pl st k) : ∃ x r, st = .inr (.inl x) :: r ∧ k x r := by
  unfold j_pl at h
  split at h
  · exact ⟨_, _, rfl, h⟩
  · exact h.elim
theorem j_pr_of {st : j_S} {k : Option Nat → j_S → Prop} (h : j_pr st k) : ∃ x r, st = .inr (.inr x) :: r ∧ k x r := by
  unfold j_pr at h
  split at h
  · exact ⟨_, _, rfl, h⟩
  · exact h.elim
theorem j_p1_of {st : j_S} {k : j_V → j_S → Prop} (h : j_p1 st k) : ∃ v r, st = v :: r ∧ (j_m v).category = 1 ∧ k v r := by
  unfold j_p1 at h
  split at h
  · split at h
    · exact ⟨_, _, rfl, rfl, h⟩
    · rename_i o
      cases o <;> exact ⟨_, _, rfl, rfl, h⟩
    · exact h.elim
  · exact h.elim
theorem j_ld_of {lo : j_L} {i : Nat} {k : j_V → Prop} (h : j_ld lo i k) : ∃ v, lo[i]? = some (some v) ∧ k v := by
  unfold j_ld at h
  split at h
  · rename_i v hv
    exact ⟨v, hv, h⟩
  · exact h.elim
theorem j_m_cat (v : j_V) : (j_m v).category = j_cat v := by
  rcases v with x | x | o
  · rfl
  · rfl
  · cases o <;> rfl
/-- the locals -/
def j_LR (nL : Nat) (lo : j_L) (ls : Array Slot) : Prop := ls.size = nL ∧ lv_wf ls ∧ ∀ (i : Nat) (v : j_V), lo[i]? = some (some v) → ls[i]? = some (.val (j_m v))
def j_al (lo : j_L) : List (Nat × Value) := (List.range lo.length).filterMap fun i => match lo[i]? with
  | some (some v) => some (i, j_m v)
  | _ => none
theorem j_al_mem {lo : j_L} {q : Nat × Value} : q ∈ j_al lo ↔ ∃ v, lo[q.1]? = some (some v) ∧ q.2 = j_m v := by
  unfold j_al
  rw [List.mem_filterMap]
  constructor
  · rintro ⟨i, hi, h⟩
    split at h
    · rename_i v hv
      cases h
      exact ⟨v, hv, rfl⟩
    · cases h
  · rintro ⟨v, h1, h2⟩
    refine ⟨q.1, ?_, ?_⟩
    · rw [List.mem_range]
      exact (List.getElem?_eq_some_iff.mp h1).1
    · rw [h1]
      show some (q.1, j_m v) = some q
      rw [← h2]
theorem j_LR.has {nL : Nat} {lo : j_L} {ls : Array Slot} (h : j_LR nL lo ls) : lv_has ls nL (j_al lo) := by
  refine ⟨h.1, h.2.1, fun q hq => ?_⟩
  obtain ⟨v, h1, h2⟩ := j_al_mem.mp hq
  rw [h2]
  exact h.2.2 _ _ h1
theorem j_un_get {lo : j_L} {i j : Nat} {w : j_V} (h : (j_un lo i)[j]? = some (some w)) : lo[j]? = some (some w) ∧ ¬ (j + 1 = i ∧ j_cat w = 2) := by
  cases i with
  | zero => exact ⟨h, fun q => by omega⟩
  | succ k =>
    have g : (match lo[k]? with
      | some (some (.inr (.inl _))) => lo.set k none
      | _ => lo)[j]? = some (some w) := h
    split at g
    · rename_i x hx
      rw [List.getElem?_set] at g
      split at g
      · split at g
        · cases g
        · cases g
      · rename_i hne
        exact ⟨g, fun q => hne (by omega)⟩
    · rename_i hx
      refine ⟨g, fun q => ?_⟩
      have hj : j = k := by omega
      subst hj
      rcases w with x | x | o
      · exact absurd q.2 (by simp [j_cat])
      · exact hx x g
      · exact absurd q.2 (by simp [j_cat])
theorem j_LR.s1 {nL : Nat} {lo : j_L} {ls : Array Slot} (h : j_LR nL lo ls) {i : Nat} {v : j_V} (hi : i < nL) (hc : j_cat v = 1) : ∃ ls', storeLocals ls i (j_m v) = some ls' ∧ j_LR nL (j_s1 lo i v) ls' := by
  obtain ⟨ls', e, h1, h2, h3⟩ := lv_store1 (v := j_m v) h.has hi (by rw [j_m_cat]; exact hc)
  refine ⟨ls', e, h1, h2, fun j w hw => ?_⟩
  unfold j_s1 at hw
  rw [List.getElem?_set] at hw
  split at hw
  · rename_i hij
    split at hw
    · cases hw
      subst hij
      exact h3 (i, j_m v) List.mem_cons_self
    · cases hw
  · rename_i hij
    obtain ⟨g1, g2⟩ := j_un_get hw
    refine h3 (j, j_m w) (List.mem_cons_of_mem _ (List.mem_filter.mpr ⟨j_al_mem.mpr ⟨w, g1, rfl⟩, ?_⟩))
    rw [j_m_cat]
    have a1 : (j == i) = false := by simpa using fun q => hij q.symm
    have a2 : (j + 1 == i && j_cat w == 2) = false := by
      cases ha : (j + 1 == i) with
      | false => rfl
      | true =>
        cases hb : (j_cat w == 2) with
        | false => rfl
        | true => exact absurd ⟨by simpa using ha, by simpa using hb⟩ g2
    simp [a1, a2]
theorem j_LR.s2 {nL : Nat} {lo : j_L} {ls : Array Slot} (h : j_LR nL lo ls) {i : Nat} {v : j_V} (hi : i + 1 < nL) (hc : j_cat v = 2) : ∃ ls', storeLocals ls i (j_m v) = some ls' ∧ j_LR nL (j_s2 lo i v) ls' := by
  obtain ⟨ls', e, h1, h2, h3⟩ := lv_store2 (v := j_m v) h.has hi (by rw [j_m_cat]; exact hc)
  refine ⟨ls', e, h1, h2, fun j w hw => ?_⟩
  unfold j_s2 at hw
  rw [List.getElem?_set] at hw
  split at hw
  · split at hw <;> cases hw
  · rename_i hij1
    rw [List.getElem?_set] at hw
    split at hw
    · rename_i hij
      split at hw
      · cases hw
        subst hij
        exact h3 (i, j_m v) List.mem_cons_self
      · cases hw
    · rename_i hij
      obtain ⟨g1, g2⟩ := j_un_get hw
      refine h3 (j, j_m w) (List.mem_cons_of_mem _ (List.mem_filter.mpr ⟨j_al_mem.mpr ⟨w, g1, rfl⟩, ?_⟩))
      rw [j_m_cat]
      have a1 : (j == i) = false := by simpa using fun q => hij q.symm
      have a3 : (j == i + 1) = false := by simpa using fun q => hij1 q.symm
      have a2 : (j + 1 == i && j_cat w == 2) = false := by
        cases ha : (j + 1 == i) with
        | false => rfl
        | true =>
          cases hb : (j_cat w == 2) with
          | false => rfl
          | true => exact absurd ⟨by simpa using ha, by simpa using hb⟩ g2
      simp [a1, a2, a3]
