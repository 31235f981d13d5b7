/-! one step is so on the machine -/
def j_Wok (p : Program) (l : Launch) (e : Env) (R : Room) (s : State) (m : MethodId) (args : Array Value) (below : List Frame) (meth : Method) (c : Code) (Q : State → Prop) (D : va_G) (T : List (ClassId × FieldType)) (A : Nat → Prop) (nL : Nat) (st0 : Nat → Option Nat) : j_J := fun pc lo st h cn sn =>
  ∀ (ls : Array Slot) (H : Heap) (locs : List Loc), j_LR nL lo ls → j_R D j_fty T A h H → j_st h = st0 → va_S A s.heap H locs → W p l e R s m args below meth c H locs cn sn Q (F0 m pc ls (st.map j_m))
def j_Cx (p : Program) (l : Launch) (s : State) (m : MethodId) (args : Array Value) (meth : Method) (c : Code) (D : va_G) (T : List (ClassId × FieldType)) (A : Nat → Prop) (cc : ByteArray) (nL : Nat) (own nm : String) (ret : Option FieldType) (st0 : Nat → Option Nat) : Prop :=
  p.tables.exec = Jvm.exec ∧ c.code = cc ∧ c.maxLocals = nL ∧ s.vm.findClass own = some m.cls ∧ (∀ w ∈ TB, w.before args s = true) ∧ va_K D vwCl T s ∧ T.map Prod.snd = j_tys ∧ meth.sig.returnType = ret ∧ meth.locks = false ∧ meth.name = nm ∧ l.stackTraces = false ∧ (∀ q, s.heap.size ≤ q → A q) ∧ j_X D A s s.heap ∧ j_Y j_zr j_zi A st0 s s.heap
section JZ
variable {p : Program} {l : Launch} {e : Env} {R : Room} {s : State} {m : MethodId} {args : Array Value} {below : List Frame} {meth : Method} {c : Code} {H : Heap} {locs : List Loc}
variable {cc : ByteArray} {ls : Array Slot} {D : va_G} {T : List (ClassId × FieldType)} {A : Nat → Prop} {own nm : String} {st0 : Nat → Option Nat} {F : j_F} {P : Option j_V → j_H → Prop} {X : Nat → j_H → Prop}
set_option maxHeartbeats 8000000 in
set_option maxRecDepth 100000 in
theorem j_stp_ok (C0 : j_Cx p l s m args meth c D T A cc F.1 own nm F.2.1 st0) {hh : List (Nat × Nat × Nat × Nat)} (htab : c.exceptionTable.toList = tableOf hh) (hR1 : R.frames = F.2.2.1) (hR2 : R.locals = F.2.2.2.1) (hR3 : R.cells = F.2.2.2.2.1) (hR4 : R.slots = F.2.2.2.2.2)
    {q : j_I} {lo : j_L} {st : j_S} {h : j_H} {cn sn : Nat} {K : j_J} (hd : decode cc q.1 = .ok (q.2.1, q.2.2.1)) (hk : j_lk own nm cc hh q) (hs : j_stp F P X q lo st h cn sn K)
    (kk : ∀ pc lo st h cn sn, K pc lo st h cn sn → j_Wok p l e R s m args below meth c (vx_MQ below (j_Qc D T A P st0) (j_XC D T A X st0) args s F.2.2.2.2.1 F.2.2.2.2.2 A) D T A F.1 st0 pc lo st h cn sn) :
    j_Wok p l e R s m args below meth c (vx_MQ below (j_Qc D T A P st0) (j_XC D T A X st0) args s F.2.2.2.2.1 F.2.2.2.2.2 A) D T A F.1 st0 q.1 lo st h cn sn := by
  intro ls H locs hL hR h0 hS
  obtain ⟨hx, hb, hml, hown, hts, hK, hT, hret, hlk, hnm, htr, hA, hX, hY⟩ := C0
  obtain ⟨hX1, hX2, hX3, hX4, hX5, hX6, hX7, hX8, hX9, hX10, hX11, hX12, hX13, hX14⟩ := id hX
  have hmlL : c.maxLocals = ls.size := hml.trans hL.1.symm
  have hfree : ∀ z ∈ locs, A z.base := hS.2.2
  have hY' : j_Y j_zr j_zi A (j_st h) s s.heap := by rw [h0]; exact hY
  have hend : ∀ (v : Option j_V), P v h → ∀ t : State, t.heap = H → s.WarmedH t.vm → j_Qc D T A P st0 args s (.returned (v.map j_m)) t := fun v hP t ht _ => ⟨⟨v, h, rfl, hP, h0, by rw [ht]; exact hR⟩, hS.F ht⟩
  obtain ⟨pc, ins, len, nx, r1, r2, tg⟩ := q
  cases ins
  case getfield i =>
    obtain ⟨⟨z1, z2⟩, hf⟩ := hk
    have y1 : len = _ := z1; have y2 : nx = pc + _ := z2; clear z1 z2; subst y1; subst y2
    obtain ⟨o, r, rfl, a, rfl, hka, hs⟩ := j_pr_of hs
    exact j_get hx hb hts hX2 hown hK hR hf hka hd (kk _ _ _ _ _ _ (j_gv_of hs) _ _ _ hL hR h0 hS)
  case putfield i =>
    obtain ⟨⟨z1, z2⟩, hf, hfin⟩ := hk
    have y1 : len = _ := z1; have y2 : nx = pc + _ := z2; clear z1 z2; subst y1; subst y2
    have hs9 : j_pv (j_fty r1 r2) st (fun v r => j_pr r fun o r => ∃ a, o = some a ∧ j_kd h a = some (.inl r1) ∧ K (pc + 3) lo r (j_up h a r2 v) cn sn) := hs
    obtain ⟨v, r, rfl, hv, g⟩ := j_pv_of hs9
    obtain ⟨o, r, rfl, a, rfl, hka, g⟩ := j_pr_of g
    exact j_put hx hb hts hX2 hown hK hR hS hf (fun r hr hz => by rw [hnm]; exact hfin r hr hz) hka hv hd (fun H1 locs1 hR1 hS1 => kk _ _ _ _ _ _ g _ _ _ hL hR1 ((j_up_kd h a _ v).2.2.trans h0) hS1)
  case new i =>
    obtain ⟨⟨z1, z2⟩, hf⟩ := hk
    have y1 : len = _ := z1; have y2 : nx = pc + _ := z2; clear z1 z2; subst y1; subst y2
    cases tg with
    | nil =>
      obtain ⟨⟨g1, g2⟩, g⟩ := hs
      exact j_new hx hb hts hown hK hR hS hA hf (by rw [hR3]; exact g1) (by rw [hR4]; exact g2) hd (fun q H1 hq hR1 hS1 => kk _ _ _ _ _ _ (g q hq) _ _ _ hL hR1 h0 hS1)
    | cons k tl =>
      obtain ⟨⟨g1, g2⟩, ⟨g3, g4⟩, g⟩ := hs
      obtain ⟨rfl, E, ic, tx, hE, ⟨t1, t2, t3, t4, t5, t6⟩, hcl, hstr, d3, hdd⟩ := hf
      have htab : ∀ x ∈ c.exceptionTable.toList, False := fun x hx => by rw [htab] at hx; cases hx
      obtain ⟨sa, hsa⟩ := hX3 _ hstr
      have hEm : E ∈ j_ex := List.mem_of_getElem? hE
      have hat : ∀ w ∈ vx_atS own ic E ["java/lang/RuntimeException", "java/lang/Exception"], w.before args s = true :=
        vx_hat (fun w hw => hts w (t1 w hw)) t2 (vx_c (hX7 E hEm).to (fun w hw => by obtain ⟨y, hy, rfl⟩ := List.mem_map.mp hw; exact va_any rfl (hX8 y hy)))
      have hgood : ∀ w ∈ Cond.classLink own i E :: Cond.initialized E :: vx_atS own ic E ["java/lang/RuntimeException", "java/lang/Exception"], vx_ot w = true := by
        intro w hw
        rcases List.mem_cons.mp hw with rfl | hw
        · rfl
        · rcases List.mem_cons.mp hw with rfl | hw
          · rfl
          · exact t3 w hw
      have hxc : ∀ t : State, s.vm.Alike t.vm → H.size ≤ t.heap.size → (∀ q : Nat, q < H.size → t.heap[q]? = H[q]?) → j_XC D T A X st0 E s t := fun t _ z1 z2 =>
        ⟨k, h, hE, g, h0, hR.kept z2, Nat.le_trans hS.1 z1, fun q h1 h2 => (z2 q (Nat.lt_of_lt_of_le h1 hS.1)).trans (hS.2.1 q h1 h2)⟩
      have hfr : ["java/lang/RuntimeException", "java/lang/Exception"].length + 3 < R.frames := by rw [hR1]; exact g3
      have hlo : ((st.map j_m).map fun v => v.category).sum + (13 * (["java/lang/RuntimeException", "java/lang/Exception"].length + 1) + 43) ≤ R.locals := by rw [hR2, j_cats_eq]; exact g4
      rcases hdd with ⟨d4, d6, d9⟩ | ⟨d4, d7, d10⟩
      · exact vx_throwS hx hb htr hown t4 (by decide) (hts _ hcl) (hts _ t5) hsa hat hgood hX4 hX5 hS hmlL.symm hd d3 d4 d6 d9 (fun x hx => (htab x hx).elim) hfr hlo (by rw [hR3]; exact g1) (by rw [hR4]; exact g2) hlk hxc hfree g1 g2
      · exact vx_throwSW hx hb htr hown t4 (by decide) (hts _ hcl) (hts _ t5) hsa hat hgood hX4 hX5 hS hmlL.symm hd d3 d4 d7 d10 (fun x hx => (htab x hx).elim) hfr hlo (by rw [hR3]; exact g1) (by rw [hR4]; exact g2) hlk hxc hfree g1 g2
  case newarray t =>
    obtain ⟨⟨z1, z2⟩, ht, hw⟩ := hk
    have y1 : len = _ := z1; have y2 : nx = pc + _ := z2; clear z1 z2; subst y1; subst y2
    obtain ⟨n, r, rfl, ⟨g1, g2⟩, ⟨g3, g4⟩, g⟩ := j_pi_of hs
    exact j_newa (t := r1) hx hb hts hK hT hR hS hA (by rcases ht with ⟨-, z⟩ | ⟨-, z⟩ <;> (have z : r1 = _ := z; omega)) ht hw g1 g2 (by rw [hR3]; exact g3) (by rw [hR4]; exact g4) hd (fun q H1 hq hR1 hS1 => kk _ _ _ _ _ _ (g q hq) _ _ _ hL hR1 h0 hS1)
  case anewarray i =>
    obtain ⟨⟨z1, z2⟩, hw⟩ := hk
    have y1 : len = _ := z1; have y2 : nx = pc + _ := z2; clear z1 z2; subst y1; subst y2
    obtain ⟨n, r, rfl, ⟨g1, g2⟩, ⟨g3, g4⟩, g⟩ := j_pi_of hs
    exact j_newq hx hb hown hts hX6 hK hT hR hS hA hw g1 g2 (by rw [hR3]; exact g3) (by rw [hR4]; exact g4) hd (fun q H1 hq hR1 hS1 => kk _ _ _ _ _ _ (g q hq) _ _ _ hL hR1 h0 hS1)
  case arraylength =>
    obtain ⟨z1, z2⟩ := hk
    have y1 : len = _ := z1; have y2 : nx = pc + _ := z2; clear z1 z2; subst y1; subst y2
    obtain ⟨o, r, rfl, a, t, rfl, hka, hs⟩ := j_pr_of hs
    exact j_alen hx hb hK hT hX14 hR hka hd (kk _ _ _ _ _ _ hs _ _ _ hL hR h0 hS)
  case iaload =>
    obtain ⟨z1, z2⟩ := hk
    have y1 : len = _ := z1; have y2 : nx = pc + _ := z2; clear z1 z2; subst y1; subst y2
    obtain ⟨i, r, rfl, g⟩ := j_pi_of hs
    obtain ⟨o, r, rfl, a, t, rfl, hka, ht, hin, g⟩ := j_pr_of g
    exact j_iald hx hb hK hT hX14 hR hka (Or.inl ⟨rfl, by rw [ht]; rfl, rfl⟩) hin hd (kk _ _ _ _ _ _ (g _ rfl) _ _ _ hL hR h0 hS)
  case baload =>
    obtain ⟨z1, z2⟩ := hk
    have y1 : len = _ := z1; have y2 : nx = pc + _ := z2; clear z1 z2; subst y1; subst y2
    obtain ⟨i, r, rfl, g⟩ := j_pi_of hs
    obtain ⟨o, r, rfl, a, t, rfl, hka, ht, hin, g⟩ := j_pr_of g
    exact j_iald hx hb hK hT hX14 hR hka (Or.inr ⟨rfl, by rw [ht]; rfl, rfl⟩) hin hd (kk _ _ _ _ _ _ (g _ rfl) _ _ _ hL hR h0 hS)
  case aaload =>
    obtain ⟨z1, z2⟩ := hk
    have y1 : len = _ := z1; have y2 : nx = pc + _ := z2; clear z1 z2; subst y1; subst y2
    obtain ⟨i, r, rfl, g⟩ := j_pi_of hs
    obtain ⟨o, r, rfl, a, t, rfl, hka, ht, hin, g⟩ := j_pr_of g
    exact j_aald hx hb hK hT hX14 hR hka ht hin hd (kk _ _ _ _ _ _ (g _ rfl) _ _ _ hL hR h0 hS)
  case iastore =>
    obtain ⟨z1, z2⟩ := hk
    have y1 : len = _ := z1; have y2 : nx = pc + _ := z2; clear z1 z2; subst y1; subst y2
    obtain ⟨x, r, rfl, g⟩ := j_pi_of hs
    obtain ⟨i, r, rfl, g⟩ := j_pi_of g
    obtain ⟨o, r, rfl, a, rfl, hka, hin, g⟩ := j_pr_of g
    exact j_iast hx hb hK hT hR hS hka hin hd (fun H1 locs1 hR1 hS1 => kk _ _ _ _ _ _ g _ _ _ hL hR1 h0 hS1)
  case bastore =>
    obtain ⟨z1, z2⟩ := hk
    have y1 : len = _ := z1; have y2 : nx = pc + _ := z2; clear z1 z2; subst y1; subst y2
    obtain ⟨x, r, rfl, g⟩ := j_pi_of hs
    obtain ⟨i, r, rfl, g⟩ := j_pi_of g
    obtain ⟨o, r, rfl, a, rfl, hka, hin, g⟩ := j_pr_of g
    exact j_bast hx hb hK hT hR hS hka hin hd (fun H1 locs1 hR1 hS1 => kk _ _ _ _ _ _ g _ _ _ hL hR1 h0 hS1)
  case aastore =>
    obtain ⟨z1, z2⟩ := hk
    have y1 : len = _ := z1; have y2 : nx = pc + _ := z2; clear z1 z2; subst y1; subst y2
    obtain ⟨v, r, rfl, g⟩ := j_pr_of hs
    obtain ⟨i, r, rfl, g⟩ := j_pi_of g
    obtain ⟨o, r, rfl, a, b, rfl, rfl, hkb, hka, hin, g⟩ := j_pr_of g
    exact j_aast hx hb hK hT hX1 hX11 hR hS hka hkb hin hd (fun H1 locs1 hR1 hS1 => kk _ _ _ _ _ _ g _ _ _ hL hR1 h0 hS1)
  case checkcast i =>
    obtain ⟨⟨z1, z2⟩, hf⟩ := hk
    have y1 : len = _ := z1; have y2 : nx = pc + _ := z2; clear z1 z2; subst y1; subst y2
    cases tg with
    | nil =>
      obtain ⟨r9, hc, hw⟩ := hf
      obtain ⟨o, r, rfl, g1, g⟩ := j_pr_of hs
      rcases g1 with rfl | ⟨a, rfl, hka⟩
      · exact lv_castN hx hb hd (kk _ _ _ _ _ _ g _ _ _ hL hR h0 hS)
      · exact j_cast hx hb hts hown hK hR hka hc hw hd (kk _ _ _ _ _ _ g _ _ _ hL hR h0 hS)
    | cons t tl =>
      obtain ⟨o, r, rfl, g1, g⟩ := j_pr_of hs
      rcases g1 with rfl | ⟨a, rfl, hka⟩
      · exact lv_castN hx hb hd (kk _ _ _ _ _ _ g _ _ _ hL hR h0 hS)
      · exact j_castA hx hb hts hown hK hT hR hka hf hd (kk _ _ _ _ _ _ g _ _ _ hL hR h0 hS)
  case getstatic i =>
    obtain ⟨⟨z1, z2⟩, hf⟩ := hk
    have y1 : len = _ := z1; have y2 : nx = pc + _ := z2; clear z1 z2; subst y1; subst y2
    cases r1 with
    | zero =>
      obtain ⟨z, hz, g⟩ := hs
      exact va_gets hx hb (hY.2.1 _ _ hz) hS hown (hts _ (hf z hz)) (fun _ h => h) hd (kk _ _ _ _ _ _ g _ _ _ hL hR h0 hS)
    | succ r1 =>
      obtain ⟨z, hz, hw⟩ := hf
      exact va_gets hx hb (hY'.1 _ _ hz) hS hown (hts _ hw) (fun _ h => h) hd (kk _ _ _ _ _ _ hs _ _ _ hL hR h0 hS)
  case ldc i =>
    obtain ⟨⟨z1, z2⟩, hf⟩ := hk
    have y1 : len = _ := z1; have y2 : nx = pc + _ := z2; clear z1 z2; subst y1; subst y2
    cases r1 with
    | zero => exact lv_ldc hx hb hown (hts _ hf) hd (kk _ _ _ _ _ _ hs _ _ _ hL hR h0 hS)
    | succ r1 =>
      cases r1 with
      | zero =>
        obtain ⟨tx, hw⟩ := hf
        obtain ⟨sa, hsa⟩ := hX3 _ hw
        exact va_ldcS hx hb hown hsa hd (kk _ _ _ _ _ _ (hs sa) _ _ _ hL hR h0 hS)
      | succ r1 =>
        obtain ⟨mi, e9, hM9⟩ := hY'.2.2
        have hs9 : K (pc + 2) lo (j_r (j_st h 9) :: st) h cn sn := hs
        rw [e9] at hs9
        exact va_ldcM hx hb hown (hts _ hf) hM9 hd (kk _ _ _ _ _ _ hs9 _ _ _ hL hR h0 hS)
  case ldc_w i =>
    obtain ⟨⟨z1, z2⟩, hf⟩ := hk
    have y1 : len = _ := z1; have y2 : nx = pc + _ := z2; clear z1 z2; subst y1; subst y2
    exact lv_ldcw hx hb hown (hts _ hf) hd (kk _ _ _ _ _ _ hs _ _ _ hL hR h0 hS)
  case ldc2_w i =>
    obtain ⟨⟨z1, z2⟩, hf⟩ := hk
    have y1 : len = _ := z1; have y2 : nx = pc + _ := z2; clear z1 z2; subst y1; subst y2
    exact lv_ldc2 hx hb hown (hts _ hf) hd (kk _ _ _ _ _ _ hs _ _ _ hL hR h0 hS)
  case ireturn =>
    obtain ⟨z1, z2⟩ := hk
    have y1 : len = _ := z1; have y2 : nx = pc + _ := z2; clear z1 z2; subst y1; subst y2
    obtain ⟨x, r, rfl, g⟩ := j_pi_of hs
    obtain ⟨rfl, g1, ⟨g2, g3⟩, g⟩ := j_nil_of g
    exact j_iret hx hb hret hlk (j_rv_of g1) g2 g3 (hend (some (j_i x)) g) hfree hd
  case lreturn =>
    obtain ⟨z1, z2⟩ := hk
    have y1 : len = _ := z1; have y2 : nx = pc + _ := z2; clear z1 z2; subst y1; subst y2
    obtain ⟨x, r, rfl, g⟩ := j_pl_of hs
    obtain ⟨rfl, g1, ⟨g2, g3⟩, g⟩ := j_nil_of g
    exact j_lret hx hb (hret.trans g1) hlk g2 g3 (hend (some (j_l x)) g) hfree hd
  case areturn =>
    obtain ⟨z1, z2⟩ := hk
    have y1 : len = _ := z1; have y2 : nx = pc + _ := z2; clear z1 z2; subst y1; subst y2
    obtain ⟨x, r, rfl, g⟩ := j_pr_of hs
    obtain ⟨rfl, g1, ⟨g2, g3⟩, g⟩ := j_nil_of g
    exact j_aret hx hb hret hlk (j_ra_of g1) g2 g3 (hend (some (j_r x)) g) hfree hd
  case return_ =>
    obtain ⟨z1, z2⟩ := hk
    have y1 : len = _ := z1; have y2 : nx = pc + _ := z2; clear z1 z2; subst y1; subst y2
    obtain ⟨rfl, g1, ⟨g2, g3⟩, g⟩ := j_nil_of hs
    exact j_vret hx hb (hret.trans g1) hlk g2 g3 (hend none g) hfree hd
  case invokevirtual i =>
    obtain ⟨⟨z1, z2⟩, hf⟩ := hk
    have y1 : len = _ := z1; have y2 : nx = pc + _ := z2; clear z1 z2; subst y1; subst y2
    cases tg with
    | nil =>
      cases r1 with
      | zero =>
        obtain ⟨w1, w3, w4, w5⟩ := hf
        obtain ⟨o, r, rfl, a, t, rfl, hka, ht, ⟨f1, f2⟩, g⟩ := j_pr_of hs
        obtain ⟨mi, e9, hM9⟩ := hY'.2.2
        have hs9 : K (pc + 3) lo (j_r (j_st h 9) :: r) h cn sn := g
        rw [e9] at hs9
        exact j_getC hx hb hmlL hts hown hK hT hR w1 (hX8 _ (by decide)) w3 w4 w5 hM9 hka ht (by rw [hR1]; exact f1) (by rw [hR2, j_cats_eq]; exact f2) hd (kk _ _ _ _ _ _ hs9 _ _ _ hL hR h0 hS)
      | succ r1 =>
        obtain ⟨w1, w2, w3, w4, w5⟩ := hf
        obtain ⟨o, r, rfl, a, t, rfl, hka, ht, hel, ⟨f1, f2⟩, ⟨f3, f4⟩, g⟩ := j_pr_of hs
        exact j_clone hx hb hmlL hts hown w1 w2 w3 w4 w5 hX12 hK hT hR hS hA hka ht hel (by rw [hR1]; exact f1) (by rw [hR2, j_cats_eq]; exact f2) (by rw [hR3]; exact f3) (by rw [hR4]; exact f4) hd (fun q H1 hq hR9 hS9 => kk _ _ _ _ _ _ (g q hq) _ _ _ hL hR9 h0 hS9)
    | cons cl hnd =>
      rcases hf with ⟨hM, hw, hn9, hhl⟩ | ⟨rfl, hU⟩
      · obtain ⟨as, rest, rfl, hlen, g1, g2, fr, lo', mc, ms, P', X', hC, ⟨f1, f2, f3, f4⟩, hnx, g⟩ := j_tk_of hs
        rw [List.append_nil] at g1 hC
        obtain ⟨b, r, rfl, hkb⟩ := j_recvr_of g1
        have hl9 : r.length = r2 - 1 := by simp at hlen; have : r.length + 1 = r2 := hlen; omega
        have e9 : (List.map j_m ((j_r (some b) :: r).reverse ++ rest)) = (r.map j_m).reverse ++ .ref b :: rest.map j_m := by simp [j_m, va_rf]
        rw [e9]
        refine j_cVX hx hb hmlL hts hown hK hT hX hY' hS hR hA htr hM hw hn9 hl9 hC hkb (by rw [hR1]; exact f1) (by rw [hR2]; exact f2) (by rw [hR3]; exact f3) (by rw [hR4]; exact f4) (Nat.le_of_ble_eq_true g2) hd ?_ (fun v h' H1 locs1 hp hs1 hR1 hS1 => kk _ _ _ _ _ _ (g v h' hp) _ _ _ hL hR1 (hs1.trans h0) hS1)
        intro k E h' H1 locs1 q ce hE hx9 hst9 hR9 hS9 hce hcv hcc
        obtain ⟨p9, hp9, g9⟩ := j_hnd_of (hnx k h' hx9)
        obtain ⟨pre, y, suf, hsp, rfl, ⟨c1, c2⟩, hy0, hyl, hpre⟩ := hhl k E p9 hE hp9
        refine vx_catch hown (tableOf pre) ⟨y.1, y.2.1, y.2.2.1, y.2.2.2⟩ (tableOf suf) (by rw [htab, hsp]; simp [tableOf]) ?_ ?_ hy0 (hts _ hyl) (hX7 E (List.mem_of_getElem? hE)).to hce hcv hcc (kk _ _ _ _ _ _ (g9 q) _ _ _ hL hR9 (hst9.trans h0) hS9)
        · intro z hz
          obtain ⟨z0, hz0, rfl⟩ := List.mem_map.mp hz
          obtain ⟨n1, nz, n2, n3⟩ := hpre z0 hz0
          exact Or.inr ⟨n1, nz, hts _ n2, hX10 _ n3⟩
        · have c1 : y.1 ≤ pc := c1
          have c2 : pc < y.2.1 := c2
          simp [covers, c1, c2]
      · obtain ⟨as, rest, rfl, hlen, g1, g2, fr, lo', mc, ms, P', X', hC, ⟨f1, f2, f3, f4⟩, hnx, g⟩ := j_tk_of hs
        rw [List.append_nil] at g1 hC
        obtain ⟨b, r, rfl, hkb⟩ := j_recvr_of g1
        have hl9 : r.length = r2 - 1 := by simp at hlen; have : r.length + 1 = r2 := hlen; omega
        have e9 : (List.map j_m ((j_r (some b) :: r).reverse ++ rest)) = (r.map j_m).reverse ++ .ref b :: rest.map j_m := by simp [j_m, va_rf]
        rw [e9]
        exact j_cU hx hb hmlL hts hown hK hT hX hY' hS hR hA htr hU hl9 hC (fun x h' z => j_hnd_nil (hnx x h' z)) hkb (by rw [hR1]; exact f1) (by rw [hR2]; exact f2) (by rw [hR3]; exact f3) (by rw [hR4]; exact f4) (Nat.le_of_ble_eq_true g2) hd (fun v h' H1 locs1 hp hs1 hR1 hS1 => kk _ _ _ _ _ _ (g v h' hp) _ _ _ hL hR1 (hs1.trans h0) hS1)
  case invokeinterface i cnt =>
    obtain ⟨⟨z1, z2⟩, r9, x9, hcl, hfw, hw, w1, w2, w3, w4, hh, hn9⟩ := hk
    have y1 : len = _ := z1; have y2 : nx = pc + _ := z2; clear z1 z2; subst y1; subst y2
    obtain ⟨as, rest, rfl, hlen, g1, g2, fr, lo', mc, ms, P', X', hC, ⟨f1, f2, f3, f4⟩, hnx, g⟩ := j_tk_of hs
    rw [List.append_nil] at g1 hC
    obtain ⟨b, r, rfl, hkb⟩ := j_recvr_of g1
    have hl9 : r.length = r2 - 1 := by simp at hlen; have : r.length + 1 = r2 := hlen; omega
    have e9 : (List.map j_m ((j_r (some b) :: r).reverse ++ rest)) = (r.map j_m).reverse ++ .ref b :: rest.map j_m := by simp [j_m, va_rf]
    rw [e9]
    exact j_cF hx hb hmlL hts hown hK hT hX hY' hS hR hA htr hcl (hX9 _ hfw) hw w1 w2 w3 w4 hh hn9 hl9 hC (fun x h' z => j_hnd_nil (hnx x h' z)) hkb (by rw [hR1]; exact f1) (by rw [hR2]; exact f2) (by rw [hR3]; exact f3) (by rw [hR4]; exact f4) (Nat.le_of_ble_eq_true g2) hd (fun v h' H1 locs1 hp hs1 hR1 hS1 => kk _ _ _ _ _ _ (g v h' hp) _ _ _ hL hR1 (hs1.trans h0) hS1)
  case invokestatic i =>
    obtain ⟨⟨z1, z2⟩, hf⟩ := hk
    have y1 : len = _ := z1; have y2 : nx = pc + _ := z2; clear z1 z2; subst y1; subst y2
    cases tg with
    | nil =>
      obtain ⟨hM, hw, hn9⟩ := hf
      obtain ⟨as, rest, rfl, hlen, g2, fr, lo', mc, ms, P', X', hC, ⟨f1, f2, f3, f4⟩, hnx, g⟩ := j_tk_of hs
      rw [List.append_nil] at hC
      have e9 : (List.map j_m (as.reverse ++ rest)) = (as.map j_m).reverse ++ rest.map j_m := by simp
      rw [e9]
      exact j_cS hx hb hmlL hts hown hK hT hX hY' hS hR hA htr hM hw hn9 hlen hC (fun x h' z => j_hnd_nil (hnx x h' z)) (by rw [hR1]; exact f1) (by rw [hR2]; exact f2) (by rw [hR3]; exact f3) (by rw [hR4]; exact f4) (Nat.le_of_ble_eq_true g2) hd (fun v h' H1 locs1 hp hs1 hR1 hS1 => kk _ _ _ _ _ _ (g v h' hp) _ _ _ hL hR1 (hs1.trans h0) hS1)
    | cons k tl =>
      cases k with
      | zero =>
        obtain ⟨w1, w2, w3, w4⟩ := hf
        obtain ⟨y, r, rfl, g⟩ := j_pi_of hs
        obtain ⟨x, r, rfl, ⟨f1, f2, f3, f4⟩, g⟩ := j_pi_of g
        exact va_mmax hx hb hmlL hown (hts _ w1) (hts _ w2) (hts _ w3) (hts _ w4) (by rw [hR1]; exact f1) (by rw [hR2, j_cats_eq]; exact f2) (by rw [hR3]; exact f3) (by rw [hR4]; exact f4) hd (kk _ _ _ _ _ _ g _ _ _ hL hR h0 hS)
      | succ k =>
       cases k with
       | succ k =>
        cases k with
        | zero =>
          obtain ⟨w1, w2, w3, w4⟩ := hf
          obtain ⟨n, r5, e5, g5⟩ := j_pi_of hs
          obtain ⟨dp, r6, e6, g6⟩ := j_pi_of g5
          obtain ⟨o1, r7, e7, g7⟩ := j_pr_of g6
          obtain ⟨sp, r8, e8, g8⟩ := j_pi_of g7
          obtain ⟨o0, r, e9, a0, a1, t0, eq0, eq1, q0, q1, q2, ⟨q3, q4, q5, q6, q7⟩, q8, ⟨f1, f2⟩, g⟩ := j_pr_of g8
          subst e9; subst e8; subst e7; subst e6; subst e5; subst eq0; subst eq1
          exact j_copyq hx hb hmlL hts hown w1 w2 w3 w4 hK hT hX1 hX11 hR hS q0 q1 q2 q3 q4 q5 q6 q7 q8 (by rw [hR1]; exact f1) (by rw [hR2, j_cats_eq]; exact f2) hd (fun H1 locs1 hR9 hS9 => kk _ _ _ _ _ _ g _ _ _ hL hR9 h0 hS9)
        | succ k =>
          obtain ⟨w1, w2, w3, w4⟩ := hf
          obtain ⟨n, r5, e5, g5⟩ := j_pi_of hs
          obtain ⟨dp, r6, e6, g6⟩ := j_pi_of g5
          obtain ⟨o1, r7, e7, g7⟩ := j_pr_of g6
          obtain ⟨sp, r8, e8, g8⟩ := j_pi_of g7
          obtain ⟨o0, r, e9, a0, a1, t0, eq0, eq1, q0, q1, q2, ⟨q3, q4, q5, q6, q7⟩, q8, ⟨f1, f2⟩, g⟩ := j_pr_of g8
          subst e9; subst e8; subst e7; subst e6; subst e5; subst eq0; subst eq1
          exact j_copyb hx hb hmlL hts hown w1 w2 w3 w4 hK hT hR hS q0 q1 q2 q3 q4 q5 q6 q7 q8 (by rw [hR1]; exact f1) (by rw [hR2, j_cats_eq]; exact f2) hd (fun H1 locs1 hR9 hS9 => kk _ _ _ _ _ _ g _ _ _ hL hR9 h0 hS9)
       | zero =>
        obtain ⟨w1, w2, w3, w4⟩ := hf
        obtain ⟨y, r, rfl, g⟩ := j_pi_of hs
        obtain ⟨x, r, rfl, ⟨f1, f2, f3, f4⟩, g⟩ := j_pi_of g
        exact va_mmin hx hb hmlL hown (hts _ w1) (hts _ w2) (hts _ w3) (hts _ w4) (by rw [hR1]; exact f1) (by rw [hR2, j_cats_eq]; exact f2) (by rw [hR3]; exact f3) (by rw [hR4]; exact f4) hd (kk _ _ _ _ _ _ g _ _ _ hL hR h0 hS)
  case invokespecial i =>
    obtain ⟨⟨z1, z2⟩, hf⟩ := hk
    have y1 : len = _ := z1; have y2 : nx = pc + _ := z2; clear z1 z2; subst y1; subst y2
    cases tg with
    | nil =>
      obtain ⟨hM, hw, hn9⟩ := hf
      obtain ⟨as, rest, rfl, hlen, g1, g2, fr, lo', mc, ms, P', X', hC, ⟨f1, f2, f3, f4⟩, hnx, g⟩ := j_tk_of hs
      rw [List.append_nil] at g1 hC
      obtain ⟨b, r, rfl⟩ := j_hdr_of g1
      have hl9 : r.length = r2 - 1 := by simp at hlen; have : r.length + 1 = r2 := hlen; omega
      have e9 : (List.map j_m ((j_r (some b) :: r).reverse ++ rest)) = (r.map j_m).reverse ++ .ref b :: rest.map j_m := by simp [j_m, va_rf]
      rw [e9]
      exact j_cI hx hb hmlL hts hown hK hT hX hY' hS hR hA htr hM hw hn9 hl9 hC (fun x h' z => j_hnd_nil (hnx x h' z)) (by rw [hR1]; exact f1) (by rw [hR2]; exact f2) (by rw [hR3]; exact f3) (by rw [hR4]; exact f4) (Nat.le_of_ble_eq_true g2) hd (fun v h' H1 locs1 hp hs1 hR1 hS1 => kk _ _ _ _ _ _ (g v h' hp) _ _ _ hL hR1 (hs1.trans h0) hS1)
    | cons k tl =>
      cases tl with
      | nil =>
        obtain ⟨w1, w2, w3⟩ := hf
        obtain ⟨o, r, rfl, a, rfl, ⟨f1, f2⟩, g⟩ := j_pr_of hs
        exact W.objInit (g := F0 m pc ls (.ref a :: r.map j_m)) hx hb hown (hts _ w1) (hts _ w2) (hts _ w3) rfl hmlL.symm rfl hd (by rw [hR1]; exact f1) (by
          show 2 * 0 + _ + 12 ≤ _
          rw [hR2, j_cats_eq]
          omega) (kk _ _ _ _ _ _ g _ _ _ hL hR h0 hS)
      | cons k2 tl2 =>
        obtain ⟨as, rest, rfl, hlen, g1, g2, fr, lo', mc, ms, P', X', hC, ⟨f1, f2, f3, f4⟩, hnx, g⟩ := j_tk_of hs
        rw [List.append_nil] at g1 hC
        obtain ⟨b, r, rfl, hkb⟩ := j_recvr_of g1
        have hl9 : r.length = r2 - 1 := by simp at hlen; have : r.length + 1 = r2 := hlen; omega
        have e9 : (List.map j_m ((j_r (some b) :: r).reverse ++ rest)) = (r.map j_m).reverse ++ .ref b :: rest.map j_m := by simp [j_m, va_rf]
        rw [e9]
        exact j_cSU hx hb hmlL hts hown hK hT hX hY' hS hR hA htr hf hl9 hC (fun x h' z => j_hnd_nil (hnx x h' z)) hkb (by rw [hR1]; exact f1) (by rw [hR2]; exact f2) (by rw [hR3]; exact f3) (by rw [hR4]; exact f4) (Nat.le_of_ble_eq_true g2) hd (fun v h' H1 locs1 hp hs1 hR1 hS1 => kk _ _ _ _ _ _ (g v h' hp) _ _ _ hL hR1 (hs1.trans h0) hS1)
  all_goals exact j_sp_ok hx hb hd hk hs hL (fun pc' lo' st' ls' hk' hl' => kk _ _ _ _ _ _ hk' _ _ _ hl' hR h0 hS)
end JZ
