/-! the model: heat and washing, word for word -/
theorem z_touchedM {ρ : Nat → Nat} {h : j_H} {m P G R Q t0 e bf bg : Nat} {a s : Int32} {it1 it2 it3 : Nat → Nat → Int32} (w : j_MX ρ h m P G R Q) (ht : t0 < 2) (ha : (a.toNatClampNeg : Int) < (j_it h G 2).toInt) (he : z_ml h G a.toNatClampNeg = e) (hf : j_rf h e t0 = some bf) (hg : j_rf h e 2 = some bg) (e1 : it1 = j_u (j_it h) e 6 (Int32.ofInt 1)) (e2 : it2 = j_u (j_u it1 bf 0 (it1 bf 0 - z_take (it1 bf 0) s)) bg 0 (it1 bg 0 + z_take (it1 bf 0) s)) (e3 : it3 = j_u (j_u it2 bf 1 (it2 bf 1 - z_take (it2 bf 1) s)) bg 1 (it2 bg 1 + z_take (it2 bf 1) s)) :
    j_MX ρ (j_wi h it3) m P G R Q ∧ j_Mg m G R Q h (j_wi h it3) ∧ z_eq (z_d (j_wi h it3) m P G R Q) (n_touch t0 (z_d h m P G R Q) a s) ∧ it1 bf 0 = z_dm h G a.toNatClampNeg 0 t0 ∧ it2 bf 1 = z_dm h G a.toNatClampNeg 1 t0 ∧ ∀ f, it3 m f = j_it h m f := by
  obtain ⟨ke, re, -⟩ := w.g ha
  obtain ⟨b1, c1, kf, lf, rf, df⟩ := w.ga ha (show t0 < 4 by omega)
  obtain ⟨b2, c2, kg, lg, rg, dg⟩ := w.ga ha (show 2 < 4 by decide)
  rw [he] at ke re c1 c2
  obtain rfl : bf = b1 := Option.some.inj (hf.symm.trans c1)
  obtain rfl : bg = b2 := Option.some.inj (hg.symm.trans c2)
  have nfg : bf ≠ bg := fun z => by
    have := (w.ai ha ha (show t0 < 4 by omega) (show 2 < 4 by decide) (by rw [he]; exact hf) (by rw [he, z]; exact hg)).2
    omega
  have nfe : bf ≠ e := fun z => by rw [z, ke] at kf; cases kf
  have nge : bg ≠ e := fun z => by rw [z, ke] at kg; cases kg
  have v0 : it1 bf 0 = j_it h bf 0 := by rw [e1]; exact j_u_ne nfe
  have v0' : it1 bg 0 = j_it h bg 0 := by rw [e1]; exact j_u_ne nge
  have v1 : it2 bf 1 = j_it h bf 1 := by rw [e2]; exact (j_u_nk (by decide)).trans ((j_u_nk (by decide)).trans (by rw [e1]; exact j_u_ne nfe))
  have v1' : it2 bg 1 = j_it h bg 1 := by rw [e2]; exact (j_u_nk (by decide)).trans ((j_u_nk (by decide)).trans (by rw [e1]; exact j_u_ne nge))
  have X : ∀ q f, it3 q f = if q = bg ∧ f = 1 then j_it h bg 1 + z_take (j_it h bf 1) s else if q = bf ∧ f = 1 then j_it h bf 1 - z_take (j_it h bf 1) s else if q = bg ∧ f = 0 then j_it h bg 0 + z_take (j_it h bf 0) s else if q = bf ∧ f = 0 then j_it h bf 0 - z_take (j_it h bf 0) s else if q = e ∧ f = 6 then Int32.ofInt 1 else j_it h q f := fun q f => by
    rw [e3, j_uq, j_uq, v1, v1', e2, j_uq, j_uq, v0, v0', e1, j_uq]
  have ot : ∀ q, q ≠ bg → q ≠ bf → q ≠ e → ∀ f, it3 q f = j_it h q f := fun q n1 n2 n3 f => by
    rw [X, if_neg (fun z => n1 z.1), if_neg (fun z => n2 z.1), if_neg (fun z => n1 z.1), if_neg (fun z => n2 z.1), if_neg (fun z => n3 z.1)]
  have oe : ∀ f, f ≠ 6 → it3 e f = j_it h e f := fun f hf => by
    rw [X, if_neg (fun z => nge z.1.symm), if_neg (fun z => nfe z.1.symm), if_neg (fun z => nge z.1.symm), if_neg (fun z => nfe z.1.symm), if_neg (fun z => hf z.2)]
  obtain ⟨wx, gx⟩ := w.wi (it := it3) (fun q f hq hn => by
    refine ot q (fun z => hn ?_) (fun z => hn ?_) (fun z => hn ?_) f
    · rw [z]; exact Or.inr (Or.inr (Or.inl ⟨kg, rg⟩))
    · rw [z]; exact Or.inr (Or.inr (Or.inl ⟨kf, rf⟩))
    · rw [z]; exact Or.inr (Or.inl ke))
  have un : ∀ {q s}, j_kd h q = some s → (s = .inl 3 ∨ s = .inl 11 ∨ s = .inl 12 ∨ (s = .inr 0 ∧ ρ q ≠ 2)) → ∀ f, it3 q f = j_it h q f := fun {q s} hq hs f => by
    refine ot q (fun z => ?_) (fun z => ?_) (fun z => ?_) f
    · rw [z, kg] at hq
      rcases hs with hs | hs | hs | ⟨-, hs⟩
      · rw [hs] at hq; cases hq
      · rw [hs] at hq; cases hq
      · rw [hs] at hq; cases hq
      · exact hs (by rw [z]; exact rg)
    · rw [z, kf] at hq
      rcases hs with hs | hs | hs | ⟨-, hs⟩
      · rw [hs] at hq; cases hq
      · rw [hs] at hq; cases hq
      · rw [hs] at hq; cases hq
      · exact hs (by rw [z]; exact rf)
    · rw [z, ke] at hq
      rcases hs with hs | hs | hs | ⟨hs, -⟩
      · rw [hs] at hq; cases hq
      · rw [hs] at hq; cases hq
      · rw [hs] at hq; cases hq
      · rw [hs] at hq; cases hq
  have nG : it3 G 2 = j_it h G 2 := un w.lG.1 (Or.inl rfl) 2
  have nR : it3 R 2 = j_it h R 2 := un w.lR.1 (Or.inl rfl) 2
  have nQ : it3 Q 2 = j_it h Q 2 := un w.lQ.1 (Or.inl rfl) 2
  refine ⟨wx, gx, ⟨fun k hk => ?_, fun k i t hk hi ht' => ?_, fun k f hk hf' => ?_, fun k f hk hf' => ?_, fun k f hk hf' => ?_⟩, by rw [v0, df], by rw [v1, df], fun f => un w.km (Or.inr (Or.inr (Or.inl rfl))) f⟩
  · match k, hk with
    | 0, _ => exact nG
    | 1, _ => exact nR
    | 2, _ => exact nQ
    | 3, _ => exact un w.kP (Or.inr (Or.inr (Or.inr ⟨rfl, by rw [w.rP]; decide⟩))) 0
    | 4, _ => exact un w.kP (Or.inr (Or.inr (Or.inr ⟨rfl, by rw [w.rP]; decide⟩))) 1
    | 5, _ => exact un w.km (Or.inr (Or.inr (Or.inl rfl))) 3
    | 6, _ => exact un w.km (Or.inr (Or.inr (Or.inl rfl))) 2
    | n + 7, hk => omega
  · have hk : (k : Int) < (it3 G 2).toInt := hk
    rw [nG] at hk
    obtain ⟨b, d1, d2, d3, d4, d5⟩ := w.ga hk ht'
    obtain ⟨y0, y1, y2, y3, y4, y5⟩ := w.ga hk (show t0 < 4 by omega)
    obtain ⟨u0, u1, u2, u3, u4, u5⟩ := w.ga hk (show 2 < 4 by decide)
    have nbe : b ≠ e := fun z => by rw [z, ke] at d2; cases d2
    show it3 ((j_rf h (z_ml h G k) t).getD 0) i = if k = a.toNatClampNeg then (if t = t0 then z_dm h G k i t0 - z_take (z_dm h G k i t0) s else if t = 2 then z_dm h G k i 2 + z_take (z_dm h G k i t0) s else z_dm h G k i t) else z_dm h G k i t
    rw [d1, Option.getD_some, d5, y5, u5]
    by_cases ka : k = a.toNatClampNeg
    · rw [ka, he] at d1 y1 u1
      obtain rfl : bf = y0 := Option.some.inj (hf.symm.trans y1)
      obtain rfl : bg = u0 := Option.some.inj (hg.symm.trans u1)
      rw [if_pos ka]
      by_cases t1 : t = t0
      · rw [t1] at d1
        obtain rfl : bf = b := Option.some.inj (hf.symm.trans d1)
        rw [if_pos t1, X, if_neg (fun z => nfg z.1)]
        have hi2 : i = 0 ∨ i = 1 := by omega
        rcases hi2 with rfl | rfl
        · rw [if_neg (fun z => absurd z.2 (by decide)), if_neg (fun z => nfg z.1), if_pos ⟨rfl, rfl⟩]
        · rw [if_pos ⟨rfl, rfl⟩]
      · by_cases t2 : t = 2
        · rw [t2] at d1
          obtain rfl : bg = b := Option.some.inj (hg.symm.trans d1)
          rw [if_neg t1, if_pos t2, X]
          have hi2 : i = 0 ∨ i = 1 := by omega
          rcases hi2 with rfl | rfl
          · rw [if_neg (fun z => absurd z.2 (by decide)), if_neg (fun z => nfg z.1.symm), if_pos ⟨rfl, rfl⟩]
          · rw [if_pos ⟨rfl, rfl⟩]
        · rw [if_neg t1, if_neg t2]
          refine ot b (fun z => t2 ?_) (fun z => t1 ?_) nbe i
          · exact (w.ai ha ha ht' (show 2 < 4 by decide) (by rw [he]; exact d1) (by rw [he, z]; exact hg)).2
          · exact (w.ai ha ha ht' (show t0 < 4 by omega) (by rw [he]; exact d1) (by rw [he, z]; exact hf)).2
    · rw [if_neg ka]
      refine ot b (fun z => ka ?_) (fun z => ka ?_) nbe i
      · exact (w.ai hk ha ht' (show 2 < 4 by decide) d1 (by rw [he, z]; exact hg)).1
      · exact (w.ai hk ha ht' (show t0 < 4 by omega) d1 (by rw [he, z]; exact hf)).1
  · have hk : (k : Int) < (it3 G 2).toInt := hk
    rw [nG] at hk
    obtain ⟨kk, -, -⟩ := w.g hk
    have n1 : z_ml h G k ≠ bg := fun z => by rw [z, kg] at kk; cases kk
    have n2 : z_ml h G k ≠ bf := fun z => by rw [z, kf] at kk; cases kk
    show it3 (z_ml h G k) (z_df f) = if k = a.toNatClampNeg then (if f = 2 then Int32.ofInt 1 else z_dg h G k f) else z_dg h G k f
    by_cases ka : k = a.toNatClampNeg
    · rw [if_pos ka, ka, he]
      by_cases f2 : f = 2
      · rw [if_pos f2, X, if_neg (fun z => nge z.1.symm), if_neg (fun z => nfe z.1.symm), if_neg (fun z => nge z.1.symm), if_neg (fun z => nfe z.1.symm), if_pos ⟨rfl, by rw [f2]; rfl⟩]
      · rw [if_neg f2, oe (z_df f) (by
          match f, hf' with
          | 0, _ => decide
          | 1, _ => decide
          | 2, _ => exact absurd rfl f2
          | n + 3, h => omega)]
        show _ = j_it h (z_ml h G a.toNatClampNeg) (z_df f)
        rw [he]
    · rw [if_neg ka]
      exact ot _ n1 n2 (fun z => ka (w.gi hk ha (z.trans he.symm))) _
  · have hk : (k : Int) < (it3 R 2).toInt := hk
    rw [nR] at hk
    have kr := (w.r hk).1
    show z_dr (j_wi h it3) R k f = z_dr h R k f
    have ob : ∀ j, it3 (z_ml h R k) j = j_it h (z_ml h R k) j := fun j => un kr (Or.inr (Or.inl rfl)) j
    match f, hf' with
    | 0, _ => exact ob 0
    | 1, _ => exact ob 1
    | 2, _ => exact ob 2
    | 3, _ => exact ob 3
    | 4, _ => exact ob 4
    | 5, _ => exact ob 5
    | 6, _ =>
      show (if (it3 (z_ml h R k) 6).toInt = 0 then Int32.ofInt 1 else Int32.ofInt 0) = (if (j_it h (z_ml h R k) 6).toInt = 0 then Int32.ofInt 1 else Int32.ofInt 0)
      rw [ob 6]
    | n + 7, h => omega
  · have hk : (k : Int) < (it3 Q 2).toInt := hk
    rw [nQ] at hk
    obtain ⟨kq, pq⟩ := w.p hk
    exact un kq (Or.inr (Or.inr (Or.inr ⟨rfl, by rw [pq.1]; decide⟩))) f
