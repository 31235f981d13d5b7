/-! asking: pure words -/
def z_mAx (a b : Int32) : Int32 := if a < b then b else a
def z_mIn (a b : Int32) : Int32 := if b < a then b else a
/-- the span that a run tells now -/
def z_tp (z : j_Z) (k : Nat) : Int32 := z.1 (j_pf (z.2.2.2.1 k 1))
def z_er (z : j_Z) (k : Nat) : Int32 := (z_te (z_tp z k) (z.2.2.2.1 k 2) (z.2.2.2.1 k 3) (z.2.2.2.1 k 4) + z.1 6) - z.2.2.2.1 k 5
def z_lr (z : j_Z) (k : Nat) : Int32 := (z_tl (z_tp z k) (z.2.2.2.1 k 2) (z.2.2.2.1 k 3) (z.2.2.2.1 k 4) + z.1 6) - z.2.2.2.1 k 5
/-- a run that stands tells of a grain by a clock -/
def z_says (z : j_Z) (g : Nat) (c : Int32) (k : Nat) : Bool := decide (¬ (z.2.2.2.1 k 6).toInt = 0) && (decide ((z.2.2.2.1 k 0).toInt = (g : Int)) && (decide (c.toInt = -1) || decide ((z.2.2.2.1 k 1).toInt = c.toInt)))
def z_fM (p : Nat → Bool) (f : Nat → Int32) : Nat → Int32
  | 0 => Int32.ofInt 0
  | n + 1 => if p n = true then z_mAx (z_fM p f n) (f n) else z_fM p f n
def z_fm (p : Nat → Bool) (f : Nat → Int32) : Nat → Int32
  | 0 => (Int16.ofInt 3000).toInt32
  | n + 1 => if p n = true then z_mIn (z_fm p f n) (f n) else z_fm p f n
def z_pw (z : j_Z) (g : Nat) (c w : Int32) (k : Nat) : Bool := decide (¬ (k : Int) = w.toInt) && z_says z g c k
def z_eO (z : j_Z) (g : Nat) (c w : Int32) : Int32 := z_fM (z_pw z g c w) (z_er z) (z.1 1).toNatClampNeg
def z_lO (z : j_Z) (g : Nat) (c w : Int32) : Int32 := z_fm (z_pw z g c w) (z_lr z) (z.1 1).toNatClampNeg
def z_gq (z : j_Z) (g w : Nat) : Int32 := if w < 6 then z.2.1 g (w / 3) (w % 3) else if w = 6 then z.1 6 - z.2.2.1 g 1 else if w = 7 then z.2.2.1 g 0 else if w = 8 then z_b (decide (¬ (z.2.2.1 g 2).toInt = 0)) else z_cnt (z_says z g (Int32.ofInt (-1))) (z.1 1).toNatClampNeg
def z_rq (z : j_Z) (k w : Nat) : Int32 := if w < 5 then z.2.2.2.1 k w else if w = 5 then z_er z k else if w = 6 then z_lr z k else z_b (decide (¬ (z.2.2.2.1 k 6).toInt = 0))
theorem z_bif (x : Int32) : (if x.toInt = 0 then Int32.ofInt 0 else Int32.ofInt 1) = z_b (decide (¬ x.toInt = 0)) := by
  by_cases h : x.toInt = 0
  · rw [if_pos h, decide_eq_false (fun z => z h)]; rfl
  · rw [if_neg h, decide_eq_true h]; rfl
section WC
variable {A B : j_Z}
theorem z_tp_c (e : z_eq A B) {k : Nat} (hk : z_lt A 1 k) : z_tp A k = z_tp B k := by
  unfold z_tp
  rw [e.2.2.2.1 k 1 hk (by decide), z_pc_c e]
theorem z_er_c (e : z_eq A B) {k : Nat} (hk : z_lt A 1 k) : z_er A k = z_er B k := by
  unfold z_er
  rw [z_tp_c e hk, e.2.2.2.1 k 2 hk (by decide), e.2.2.2.1 k 3 hk (by decide), e.2.2.2.1 k 4 hk (by decide), e.2.2.2.1 k 5 hk (by decide), e.1 6 (by decide)]
theorem z_lr_c (e : z_eq A B) {k : Nat} (hk : z_lt A 1 k) : z_lr A k = z_lr B k := by
  unfold z_lr
  rw [z_tp_c e hk, e.2.2.2.1 k 2 hk (by decide), e.2.2.2.1 k 3 hk (by decide), e.2.2.2.1 k 4 hk (by decide), e.2.2.2.1 k 5 hk (by decide), e.1 6 (by decide)]
theorem z_says_c (e : z_eq A B) {g k : Nat} {c : Int32} (hk : z_lt A 1 k) : z_says A g c k = z_says B g c k := by
  unfold z_says
  rw [e.2.2.2.1 k 6 hk (by decide), e.2.2.2.1 k 0 hk (by decide), e.2.2.2.1 k 1 hk (by decide)]
theorem z_fM_c {p q : Nat → Bool} {f g : Nat → Int32} : ∀ n, (∀ k, k < n → p k = q k) → (∀ k, k < n → f k = g k) → z_fM p f n = z_fM q g n := by
  intro n
  induction n with
  | zero => intro _ _; rfl
  | succ n ih =>
    intro h1 h2
    show (if p n = true then z_mAx (z_fM p f n) (f n) else z_fM p f n) = if q n = true then z_mAx (z_fM q g n) (g n) else z_fM q g n
    rw [ih (fun k hk => h1 k (by omega)) (fun k hk => h2 k (by omega)), h1 n (by omega), h2 n (by omega)]
theorem z_fm_c {p q : Nat → Bool} {f g : Nat → Int32} : ∀ n, (∀ k, k < n → p k = q k) → (∀ k, k < n → f k = g k) → z_fm p f n = z_fm q g n := by
  intro n
  induction n with
  | zero => intro _ _; rfl
  | succ n ih =>
    intro h1 h2
    show (if p n = true then z_mIn (z_fm p f n) (f n) else z_fm p f n) = if q n = true then z_mIn (z_fm q g n) (g n) else z_fm q g n
    rw [ih (fun k hk => h1 k (by omega)) (fun k hk => h2 k (by omega)), h1 n (by omega), h2 n (by omega)]
theorem z_ltn {i k : Nat} (h0 : 0 ≤ (A.1 i).toInt) (hk : k < (A.1 i).toNatClampNeg) : z_lt A i k := by
  have := j_clamp h0
  unfold z_lt
  omega
theorem z_pw_c (e : z_eq A B) {g k : Nat} {c w : Int32} (hk : z_lt A 1 k) : z_pw A g c w k = z_pw B g c w k := by
  unfold z_pw
  rw [z_says_c e hk]
theorem z_eO_c (e : z_eq A B) (h0 : 0 ≤ (A.1 1).toInt) {g : Nat} {c w : Int32} : z_eO A g c w = z_eO B g c w := by
  unfold z_eO
  rw [← e.1 1 (by decide)]
  exact z_fM_c _ (fun k hk => z_pw_c e (z_ltn h0 hk)) (fun k hk => z_er_c e (z_ltn h0 hk))
theorem z_lO_c (e : z_eq A B) (h0 : 0 ≤ (A.1 1).toInt) {g : Nat} {c w : Int32} : z_lO A g c w = z_lO B g c w := by
  unfold z_lO
  rw [← e.1 1 (by decide)]
  exact z_fm_c _ (fun k hk => z_pw_c e (z_ltn h0 hk)) (fun k hk => z_lr_c e (z_ltn h0 hk))
theorem z_gq_c (e : z_eq A B) (h0 : 0 ≤ (A.1 1).toInt) {g w : Nat} (hg : z_lt A 0 g) : z_gq A g w = z_gq B g w := by
  have hc : z_cnt (z_says A g (Int32.ofInt (-1))) (A.1 1).toNatClampNeg = z_cnt (z_says B g (Int32.ofInt (-1))) (B.1 1).toNatClampNeg := by
    rw [← e.1 1 (by decide)]
    exact z_cnt_c _ (fun k hk => z_says_c e (z_ltn h0 hk))
  unfold z_gq
  rw [hc, e.1 6 (by decide), e.2.2.1 g 0 hg (by decide), e.2.2.1 g 1 hg (by decide), e.2.2.1 g 2 hg (by decide)]
  by_cases h : w < 6
  · rw [if_pos h, if_pos h]
    exact e.2.1 g (w / 3) (w % 3) hg (by omega) (by omega)
  · rw [if_neg h, if_neg h]
theorem z_rq_c (e : z_eq A B) {k w : Nat} (hk : z_lt A 1 k) : z_rq A k w = z_rq B k w := by
  unfold z_rq
  rw [z_er_c e hk, z_lr_c e hk, e.2.2.2.1 k 6 hk (by decide)]
  by_cases h : w < 5
  · rw [if_pos h, if_pos h]
    exact e.2.2.2.1 k w hk (by omega)
  · rw [if_neg h, if_neg h]
end WC
