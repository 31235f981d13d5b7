/-! links without words: told by a Bool -/
def j_lenb (q : j_I) (n : Nat) : Bool := decide (q.2.2.1 = n) && decide (j_nx q = q.1 + n)
theorem j_lenb_of {q : j_I} {n : Nat} (h : j_lenb q n = true) : j_len q n := ⟨of_decide_eq_true ((Bool.and_eq_true _ _).mp h).1, of_decide_eq_true ((Bool.and_eq_true _ _).mp h).2⟩
def j_kpb (q : j_I) : Bool := match q.2.1 with
  | .iconst _ => j_lenb q 1
  | .bipush _ => j_lenb q 2
  | .sipush _ => j_lenb q 3
  | .lconst _ => j_lenb q 1
  | .aconst_null => j_lenb q 1
  | .iload _ => j_lenb q 2
  | .iload_n _ => j_lenb q 1
  | .lload _ => j_lenb q 2
  | .lload_n _ => j_lenb q 1
  | .aload _ => j_lenb q 2
  | .aload_n _ => j_lenb q 1
  | .istore _ => j_lenb q 2
  | .istore_n _ => j_lenb q 1
  | .astore _ => j_lenb q 2
  | .astore_n _ => j_lenb q 1
  | .lstore _ => j_lenb q 2
  | .lstore_n _ => j_lenb q 1
  | .iinc _ _ => j_lenb q 3
  | .iadd => j_lenb q 1
  | .isub => j_lenb q 1
  | .imul => j_lenb q 1
  | .iand => j_lenb q 1
  | .ior => j_lenb q 1
  | .ixor => j_lenb q 1
  | .ishl => j_lenb q 1
  | .ishr => j_lenb q 1
  | .iushr => j_lenb q 1
  | .idiv => j_lenb q 1
  | .irem => j_lenb q 1
  | .ineg => j_lenb q 1
  | .ladd => j_lenb q 1
  | .lsub => j_lenb q 1
  | .lmul => j_lenb q 1
  | .land => j_lenb q 1
  | .lor => j_lenb q 1
  | .lxor => j_lenb q 1
  | .lcmp => j_lenb q 1
  | .i2l => j_lenb q 1
  | .l2i => j_lenb q 1
  | .i2b => j_lenb q 1
  | .i2c => j_lenb q 1
  | .dup => j_lenb q 1
  | .pop => j_lenb q 1
  | .dup_x1 => j_lenb q 1
  | .dup2 => j_lenb q 1
  | .pop2 => j_lenb q 1
  | .goto o => j_lenb q 3 && decide ((q.1 : Int) + o = (j_t1 q : Int))
  | .ifCond _ o => j_lenb q 3 && decide ((q.1 : Int) + o = (j_t1 q : Int))
  | .if_icmp _ o => j_lenb q 3 && decide ((q.1 : Int) + o = (j_t1 q : Int))
  | .if_acmp _ o => j_lenb q 3 && decide ((q.1 : Int) + o = (j_t1 q : Int))
  | .ifnull o => j_lenb q 3 && decide ((q.1 : Int) + o = (j_t1 q : Int))
  | .ifnonnull o => j_lenb q 3 && decide ((q.1 : Int) + o = (j_t1 q : Int))
  | .tableswitch d lw hi offs => j_swt q.1 (j_tg q) d offs && decide (hi - lw + 1 = (offs.size : Int))
  | .arraylength => j_lenb q 1
  | .iaload => j_lenb q 1
  | .baload => j_lenb q 1
  | .aaload => j_lenb q 1
  | .iastore => j_lenb q 1
  | .bastore => j_lenb q 1
  | .aastore => j_lenb q 1
  | .ireturn => j_lenb q 1
  | .lreturn => j_lenb q 1
  | .areturn => j_lenb q 1
  | .return_ => j_lenb q 1
  | _ => false
set_option maxHeartbeats 4000000 in
theorem j_kpb_ok {own nm : String} {cc : ByteArray} {hh : List (Nat × Nat × Nat × Nat)} {q : j_I} (h : j_kpb q = true) : j_lk own nm cc hh q := by
  obtain ⟨pc, ins, len, nx, r1, r2, tg⟩ := q
  cases ins <;> first
    | exact Bool.noConfusion (show false = true from h)
    | exact j_lenb_of h
    | exact ⟨j_lenb_of ((Bool.and_eq_true _ _).mp h).1, of_decide_eq_true ((Bool.and_eq_true _ _).mp h).2⟩
    | exact ⟨((Bool.and_eq_true _ _).mp h).1, of_decide_eq_true ((Bool.and_eq_true _ _).mp h).2⟩
theorem j_lkall {own nm : String} {cc : ByteArray} {hh : List (Nat × Nat × Nat × Nat)} {k sp : List j_I} (hf : k.filter (fun q => !j_kpb q) = sp) (hs : ∀ q ∈ sp, j_lk own nm cc hh q) : ∀ q ∈ k, j_lk own nm cc hh q := fun q hq => by
  cases hb : j_kpb q with
  | true => exact j_kpb_ok hb
  | false => exact hs q (by rw [← hf]; exact List.mem_filter.mpr ⟨hq, by rw [hb]; rfl⟩)
