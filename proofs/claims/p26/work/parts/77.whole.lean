/-! THE CLAIM OUT OF ONE WALK OF THE LAW'S BODY. Your part is whole_start (and what it stands on); all else here is the same for every law, but numbers. -/
def R_law : String := "GrainclockLaw"
def lw_P (b : Addr) (xs : List Int32) (args : Array Value) (s : State) : Prop := args = #[.ref b] ∧ s.IntsAt b xs ∧ xs.length ≤ 2560 ∧ (Jvm.Cond.and given_1 narrow_1).before args s = true
def lw_Q (_ : Array Value) (s : State) (o : Outcome) (t : State) : Prop := o = .returned (some (.int 1)) ∧ Framed s o t [] 601024 7293033
def lw_Z (below : List Frame) (a : Array Value) (s : State) : State → Prop := fun t => ∃ o, t.status = .running ∧ Ended t below o ∧ lw_Q a s o t
/-- what holds at the law's entry: the machine, the code, the tables' words (any of lw_tbl by 'hts w (by decide +kernel)'), the script of L ints xs at the cell b, what the Statement gives of the start (any of its parts by flat_of_before) -/
def lw_At (p : Program) (s : State) (m : MethodId) (meth : Method) (c : Code) (b L : Nat) (xs : Nat → Int32) : Prop :=
  p.tables.exec = Jvm.exec ∧ c.code = code ∧ meth.sig.returnType = ret ∧ c.maxLocals = 7 ∧ s.vm.findClass R_law = some m.cls ∧ (∀ w ∈ lw_tbl, w.before #[Value.ref b] s = true) ∧ va_X b L xs s s.heap ∧ b < s.heap.size ∧ meth.locks = false ∧ (Jvm.Cond.and given_1 narrow_1).before #[Value.ref b] s = true ∧ ∀ x ∈ c.exceptionTable.toList, False
-- ===== YOUR PART BEGINS =====
set_option maxHeartbeats 4000000 in
/-- YOUR PART: from the entry, for every script of at most 2560 ints, the law comes to its end with true ('hflags': the launch's flags, for a law that throws: no stack traces) -/
theorem whole_start {p : Program} {e : Env} {s : State} {m : MethodId} {below : List Frame} {meth : Method} {c : Code} (l : Launch) (hflags : l.flags = flags0) {b L : Nat} {xs : Nat → Int32} (hL : L ≤ 2560) (C0 : lw_At p s m meth c b L xs) : W p l e room_1 s m #[Value.ref b] below meth c s.heap [] 0 0 (lw_Z below #[Value.ref b] s) (entryFrame m ([Value.ref b] : List Value).toArray 7) := by
  obtain ⟨hx, hb, hr, hml, hown, hts, hX, hbl, hlocks, hgv, htab⟩ := id C0
  obtain ⟨D, T, h0, ⟨hK, hT, hXX, hY, hR, hA⟩, kb, lb, kc, hz, sa⟩ := j_begin (b := b) hts (flat_of_before _ hgv) hX
  have hl : l.stackTraces = false := by
    unfold Launch.stackTraces
    rw [hflags]
    decide +kernel
  have C1 : j_Cx p l s m #[Value.ref b] meth c D T (fun q => s.heap.size ≤ q) code 7 "GrainclockLaw" meth.name (some .boolean) (j_st h0) := ⟨hx, hb, hml, hown, fun w hw => hts w (TB_in w hw), hK, hT, hr, hlocks, rfl, hl, hA, hXX, hY⟩
  have htab0 : c.exceptionTable.toList = tableOf ([] : List (Nat × Nat × Nat × Nat)) := List.eq_nil_iff_forall_not_mem.mpr (fun x hx => htab x hx)
  have K : j_Wok p l e room_1 s m #[Value.ref b] below meth c (vx_MQ below (j_Qc D T (fun q => s.heap.size ≤ q) j_lP (j_st h0)) (j_XC D T (fun q => s.heap.size ≤ q) j_no (j_st h0)) #[Value.ref b] s 601024 7293033 (fun q => s.heap.size ≤ q)) D T (fun q => s.heap.size ≤ q) 7 (j_st h0) 0 (j_ent 7 [j_r (some b)]) [] h0 0 0 := by
    generalize hW : j_Wok p l e room_1 s m #[Value.ref b] below meth c (vx_MQ below (j_Qc D T (fun q => s.heap.size ≤ q) j_lP (j_st h0)) (j_XC D T (fun q => s.heap.size ≤ q) j_no (j_st h0)) #[Value.ref b] s 601024 7293033 (fun q => s.heap.size ≤ q)) D T (fun q => s.heap.size ≤ q) 7 (j_st h0) = J
    have hF : j_Fg J := by
      subst hW
      intro pc lo1 lo2 st' h' cn sn hle hj ls H locs hL
      exact hj ls H locs ⟨hL.1, hL.2.1, fun i v hv => hL.2.2 i v (j_le_get hle i v hv)⟩
    have one : ∀ (q : j_I) (pc : Nat) (lo' : j_L) (st' : j_S) (h' : j_H) (cn sn : Nat) (K : j_J), j_find k_law pc = some q → (∀ pc lo st h cn sn, K pc lo st h cn sn → J pc lo st h cn sn) → j_stp j_lF j_lP j_no q lo' st' h' cn sn K → J pc lo' st' h' cn sn := by
      intro q pc lo' st' h' cn sn K hf hk hs
      obtain ⟨hm, rfl⟩ := j_find_mem hf
      subst hW
      exact j_stp_ok (F := j_lF) C1 htab0 rfl rfl rfl rfl (kd_law q hm) (kl_law q hm) hs hk
    have many : ∀ (stops : List Nat) (k pc : Nat) (lo' : j_L) (st' : j_S) (h' : j_H) (cn sn : Nat), j_go k_law j_lF j_lP j_no J stops k pc lo' st' h' cn sn → J pc lo' st' h' cn sn := by
      intro stops k
      induction k with
      | zero => intro pc lo' st' h' cn sn h1; exact h1
      | succ k ih =>
        intro pc lo' st' h' cn sn h1
        unfold j_go at h1
        cases hi : j_isin stops pc with
        | true => rw [hi] at h1; exact h1
        | false =>
          rw [hi] at h1
          cases hf : j_find k_law pc with
          | none => rw [hf] at h1; exact h1.elim
          | some q => rw [hf] at h1; exact one q pc lo' st' h' cn sn _ hf ih h1
    have hJ : j_Cl k_law j_lF j_lP j_no J := by
      intro stops k pc lo' st' h' cn sn h1
      unfold j_one at h1
      cases hf : j_find k_law pc with
      | none => rw [hf] at h1; exact h1.elim
      | some q => rw [hf] at h1; exact one q pc lo' st' h' cn sn _ hf (many stops k) h1
    exact j_lawstart hJ hF hL kb lb kc hz sa
  show W p l e room_1 s m #[Value.ref b] below meth c s.heap [] 0 0 (lw_Z below #[Value.ref b] s) (entryFrame m (([j_r (some b)] : j_S).map j_m).toArray 7)
  rw [lg_entry_eq]
  intro T1 hT1 X
  obtain ⟨t, a1, o, b1, b2, b3⟩ := K _ s.heap [] (j_ent_LR (Nat.le_of_ble_eq_true rfl)) hR rfl va_S.rf T1 hT1 X
  refine ⟨t, a1, o, b1, b2, ?_⟩
  rcases b3 with ⟨⟨⟨v, h', q1, q2, -, -⟩, -⟩, L9, ⟨r1, r2, f1, f2, f3, f4, f5, f6⟩, q7⟩ | ⟨q, -, E, ce, L9, ⟨k, h', -, hn, -⟩, -⟩
  · refine ⟨?_, r1, r2, f1, f2, f3, f4, f5, fun a c hc => ?_⟩
    · have q2 : v = some (j_i (Int32.ofInt 1)) := q2
      rw [q1, q2]
      have z1 : Int32.ofInt 1 = 1 := by decide
      show Outcome.returned (some (Value.int (Int32.ofInt 1))) = _
      rw [z1]
    · obtain ⟨c', g1, g2, g3, g4⟩ := f6 a c hc
      refine ⟨c', g1, g2, g3, fun i _ => g4 i (fun hm => ?_)⟩
      have w1 : s.heap.size ≤ a := q7 _ hm
      have w2 := (Array.getElem?_eq_some_iff.mp hc).1
      omega
  · exact hn.elim
-- ===== YOUR PART ENDS =====
set_option maxHeartbeats 4000000 in
theorem lw_walk (l : Launch) (hflags : l.flags = flags0) (b : Addr) (xs : List Int32) : MetFree l x (headSpec (Jvm.Cond.code x code maxLocals ret :: tables_1) room_1) (lw_P b xs) (fun _ _ _ _ _ => True) lw_Q := by
  refine MetFree.of_bodyS (code := code) (maxLocals := maxLocals) (ret := ret) (by decide) ?_ ?_
  · intro args s m h hn
    obtain ⟨meth, c, h1, h2, h3, h4, h5, h6, -, -⟩ := Cond.code_spec hn (atoms_spec (ws := Jvm.Cond.code x code maxLocals ret :: tables_1) h _ List.mem_cons_self)
    exact ⟨meth, c, h1, h2, h3, h4, h5, h6⟩
  · intro p e s m args below meth c s₁ B hml0 hP _
    obtain ⟨rfl, hx, hbd, hgv⟩ := hP
    obtain ⟨scr, harrAt, hlist, hof, hsmall⟩ := hx
    obtain ⟨hcb, hkn, -, -⟩ := State.arrayAt?_spec harrAt
    have hown : s.vm.findClass R_law = some m.cls := findClass_of_methodNamed B.named
    have hts0 : ∀ c ∈ (Jvm.Cond.code x code maxLocals ret :: tables_1), c.before #[Value.ref b] s = true := atoms_spec (ws := Jvm.Cond.code x code maxLocals ret :: tables_1) B.pre
    have hts : ∀ w ∈ lw_tbl, w.before #[Value.ref b] s = true := k2_hts_sels lw_privs (fun w hw => hts0 w (List.mem_cons_of_mem _ hw)) lw_privs_ok
    have hml : c.maxLocals = 7 := B.maxLocals_eq (hts0 _ List.mem_cons_self)
    have X₀ : Stand p l e room_1 s m #[Value.ref b] below meth c s₁ [] 0 0 := Stand.of_body B
    have hh0 : s₁.heap = s.heap := by rw [B.state]; rfl
    have hsz : scr.slots.size = xs.length := by rw [← Array.length_toList, hlist, List.length_map]
    have hval : ∀ j : Nat, j < xs.length → scr.slots[j]? = some (.int (xs.getD j 0)) := fun j hj => by
      rw [← Array.getElem?_toList, hlist]
      simp [hj]
    have hbl : b < s.heap.size := (Array.getElem?_eq_some_iff.mp hcb).1
    have hX : va_X b xs.length (fun j => xs.getD j 0) s s.heap := ⟨scr, hcb, hof, hkn, hsz, hval⟩
    have ht : ∀ x ∈ c.exceptionTable.toList, False := by
      obtain ⟨meth9, c9, h1, h2, -, -, -, -, h7, -⟩ := Cond.code_spec B.named (hts0 _ List.mem_cons_self)
      cases Option.some.inj (h1.symm.trans B.method)
      cases Option.some.inj (h2.symm.trans X₀.code)
      intro x hx
      rw [Array.isEmpty_iff.mp h7] at hx
      cases hx
    have K : W p l e room_1 s m #[Value.ref b] below meth c s₁.heap [] 0 0 (lw_Z below #[Value.ref b] s) (entryFrame m ([Value.ref b] : List Value).toArray 7) := by
      rw [hh0]
      exact whole_start l hflags hbd ⟨B.exec, B.bytes, B.returns, hml, hown, hts, hX, hbl, B.notSynchronized, hgv, ht⟩
    obtain ⟨t, a1, o, b1, b2, b3⟩ := K s₁ rfl X₀
    exact ⟨t, o, a1, b1, b2, b3⟩
theorem lw_pre_spec {args : Array Value} {s : State} (h : (Jvm.Cond.and given_1 narrow_1).before args s = true) (hr : rest_1_c.before args s = true) : ∃ (b : Addr) (xs : List Int32), lw_P b xs args s := by
  have hs := flat_of_before _ h
  have hq := flat_of_before _ hr
  have hc : (Cond.count 1).before args s = true := hs _ (by decide +kernel)
  have harr : (Cond.arrayOf (.arg 0) .int).before args s = true := hs _ (by decide +kernel)
  have hle : (Cond.le (.length (.arg 0)) (.int 2560)).before args s = true := hs _ (by decide +kernel)
  have hlen : (Cond.isInt (.length (.arg 0))).before args s = true := hq _ (by decide +kernel)
  have hall : (Cond.all (.arg 0) (.isInt (.elem (.arg 0) (.index 0)))).before args s = true := hq _ (by decide +kernel)
  obtain ⟨b, xs, hb, hx⟩ := State.ints_of_pre rfl harr hlen hall
  have hsm : xs.length < 2 ^ 31 := hx.choose_spec.2.2.2
  have hev : (Term.length (.arg 0)).eval args s none [] s = some (.int xs.length.toInt32) := hx.length_eval hb
  have hv := Cond.le_ints hev (show (Term.int 2560).eval args s none [] s = some (.int 2560) from rfl)
  have hd : xs.length.toInt32 ≤ 2560 := by
    simpa [Cond.before, Cond.holds, hv] using hle
  have hN : xs.length ≤ 2560 := (Int32.ofNat_le_ofNat hsm (by decide)).mp (show Int32.ofNat xs.length ≤ Int32.ofNat 2560 from hd)
  exact ⟨b, xs, Cond.one_arg hc (show args[0]? = some (.ref b) from hb), hx, hN, h⟩
theorem lw_comes (l : Launch) (hflags : l.flags = flags0) : Comes l x (Jvm.Cond.code x code maxLocals ret :: tables_1) room_1 (fun tb e args s => Calls_1 tb e args s ∧ rest_1 tb e args s ∧ Pre_1 tb e args s)
    (fun _ _ args s o t => lw_Q args s o t) := by
  intro p e ha hc hk s m args below hf hfit hheap happ hpre
  obtain ⟨b, xs, hP⟩ := lw_pre_spec hpre.2.2 hpre.2.1
  obtain ⟨k, o, h1, h2, h3, hQ⟩ := lw_walk l hflags b xs p e ha hc hk s m args below hf ((Spec.applies_iff_loose hf).mp happ).1 hP trivial
  exact ⟨k, o, h1, h2, h3, hQ⟩
theorem lw_frame {s t : State} {o : Outcome} {args : Array Value} (h : Framed s o t [] 601024 7293033) :
    Framed s o t (fieldLocs frame_1_writes args s ++ arrayLocs frame_1_arrays args s ++ staticLocs frame_1_statics s) 601024 7293033 := h
theorem lw_limb (L : Cond) (hL : ∀ (args : Array Value) (s t : State), L.after args s (.returned (some (.int 1))) t = true) :
    ArmFor flags0 classFile x code maxLocals ret World_1 tables_1 room_1 Calls_1 rest_1 Pre_1
      (fun tb e a s o t => postC L tb e a s o t ∧ Framed s o t (fieldLocs frame_1_writes a s ++ arrayLocs frame_1_arrays a s ++ staticLocs frame_1_statics s) 601024 7293033) := by
  intro l hflags _ _ p e ha hc hk s m args below hf hfit hheap happ hpre
  obtain ⟨k, o, h1, h2, h3, rfl, hF⟩ := lw_comes l hflags p e ha hc hk s m args below hf hfit hheap happ hpre
  exact ⟨k, _, h1, h2, h3, hL args s _, lw_frame hF⟩
theorem i_vc : Claimed_1_1 ∧ Claimed_1_2 := ⟨lw_limb limb_1_1 (fun args s t => by simp [limb_1_1, Cond.after, Cond.holds, Cond.value]), lw_limb limb_1_2 (fun args s t => Cond.after_iff.mpr (by
  first | (rw [show limb_1_2 = Cond.eq .result (.int 1) from rfl, Cond.eq_ints (x := 1) (y := 1) rfl rfl]; simp; done) | (simp [limb_1_2, Cond.value, Term.eval]; done)))⟩
