/-! the model's fewest: word for word -/
/-- thrown and the sum are as they were -/
def z_th (m : Nat) (h h' : j_H) : Prop := j_it h' m 0 = j_it h m 0 ∧ j_lg h' m 7 = j_lg h m 7
theorem z_th.rf {m : Nat} {h : j_H} : z_th m h h := ⟨rfl, rfl⟩
theorem z_th.trans {m : Nat} {a b c : j_H} (y : z_th m b c) (x : z_th m a b) : z_th m a c := ⟨y.1.trans x.1, y.2.trans x.2⟩
theorem z_th.nw {m b n : Nat} {h : j_H} {k : Nat ⊕ Nat} (ne : ¬ m = b) : z_th m h (j_nw h b k n) := ⟨if_neg ne, if_neg ne⟩
theorem z_th.ui {h : j_H} {m e k : Nat} {x : Int32} {s : Nat ⊕ Nat} (km : j_kd h m = some (.inl 12)) (ke : j_kd h e = some s) (hs : s ≠ .inl 12) : z_th m h (j_ui h e k x) := ⟨j_t0i km ke hs, rfl⟩
theorem z_th.up {h : j_H} {m q k : Nat} {v : j_V} (ne : m ≠ q) : z_th m h (j_up h q k v) := ⟨(j_up_ne h v ne 0).1, (j_up_ne h v ne 7).2.1⟩
section CX
variable {z : j_Z} {m i j : Nat}
end CX
