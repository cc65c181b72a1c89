/-! THE REFERENCE, MERGING: contents taken -/
/-- what merging changes -/
def SMe (M a : Nat) : Prop := a = M ∨ a = M + 1 ∨ SMg M 3 a ∨ (M + 405 ≤ a ∧ a < M + 409)
def FMe (M : Nat) (μ μ' : jM) : Prop := Fx (SMe M) (fun a _ => a = M + 23 + 3) μ μ' ∧ (∀ j, j ≠ 3 → jiv μ' (M + 1) j = jiv μ (M + 1) j) ∧ ∀ j, j ≠ 35 → jiv μ' M j = jiv μ M j
/-- what stands in the fourth grid's formulas -/
def K3 (μ : jM) (M : Nat) : Prop := ∀ j b, jrv μ (M + 23 + 3) j = some b → jk μ b = 20
/-- a raw cell with this content -/
def CT (μ : jM) (M : Nat) (x : RC (Option Nat)) (v : Int32 × Int32 × List Tk) : Prop := MCO μ (M + 424) x ∧ cnt (rcm (mF μ) x) = v
section LAY
variable {μ μ' μ'' ν : jM} {S S' : Nat → Prop} {T T' : Nat → Nat → Prop} {M g h t s n w d D i j k x y a b c f : Nat} {A B C : GA} {σ : SG} {G : Nat → DG} {o o' ob ox ot : Option Nat} {R : Nat → Nat × Nat} {l : List CL}
theorem rc_eq (h2 : jiv μ' (M + 8 + g) = jiv μ (M + 8 + g)) (h3 : jiv μ' (M + 13 + g) = jiv μ (M + 13 + g)) (h4 : ∀ z, jrv μ' (M + 23 + g) z = jrv μ (M + 23 + g) z) (h5 : jiv μ' (M + 18 + g) = jiv μ (M + 18 + g)) : rc μ' (mA M g) = rc μ (mA M g) := by
  funext z
  show (jiv μ' (M + 8 + g) z, jiv μ' (M + 13 + g) z, jrv μ' (M + 23 + g) z, jiv μ' (M + 18 + g) z) = (jiv μ (M + 8 + g) z, jiv μ (M + 13 + g) z, jrv μ (M + 23 + g) z, jiv μ (M + 18 + g) z)
  rw [h2, h3, h4, h5]
theorem FMe.refl : FMe M μ μ := ⟨Fx.refl, fun _ _ => rfl, fun _ _ => rfl⟩
theorem FMe.trans (a : FMe M μ μ') (b : FMe M μ' μ'') : FMe M μ μ'' := ⟨a.1.trans b.1, fun j h => (b.2.1 j h).trans (a.2.1 j h), fun j h => (b.2.2 j h).trans (a.2.2 j h)⟩
theorem FM1.me (F : FM1 M 3 μ μ') : FMe M μ μ' := ⟨F.1.mono (fun a k => by
  rcases k with k | k
  · exact Or.inr (Or.inl k)
  · exact Or.inr (Or.inr (Or.inl k))) (fun a j k => k), F.2, fun j _ => congrFun (F.1.iv (by
  intro q
  have q : M = M + 1 ∨ SMg M 3 M := q
  unfold SMg at q; omega)) j⟩
theorem FMg.me (F : FMg M 3 μ μ') : FMe M μ μ' := (F.f1 (by decide)).me
theorem FMe.fr (F : FMe M μ μ') : FR M μ μ' := F.1.mono (fun a k => by unfold SMe SMg at k; omega) (fun a j k => by
  have k : a = M + 23 + 3 := k
  omega)
theorem FMe.qs (F : FMe M μ μ') (hq : QS μ M) : QS μ' M := F.1.qs hq (fun a j k => by
  have k : a = M + 23 + 3 := k
  exact Or.inr (Or.inl (by omega)))
theorem FMe.fd (F : FMe M μ μ') : FD (M + 424) μ μ' := F.1.fd (fun a k => by unfold SMe SMg at k; omega) (fun a j k => by
  have k : a = M + 23 + 3 := k
  omega)
theorem FMe.iv (F : FMe M μ μ') (h : ¬ SMe M a) : jiv μ' a = jiv μ a := F.1.iv h
theorem FMe.gg (F : FMe M μ μ') (h : GG μ M G) : GG μ' M G := by
  refine ⟨F.qs h.1, fun g hg => ?_⟩
  obtain ⟨z1, z2⟩ := h.2 g hg
  obtain ⟨y1, y2⟩ : GW μ' (mA M g) ∧ rG μ' (mA M g) = rG μ (mA M g) := by
    refine F.1.gw z1.1 ?_ ?_ ?_ ?_ (F.2.1 g (by omega)) (fun j q => ?_)
    · show ¬ SMe M (M + 3 + g); unfold SMe SMg; omega
    · show ¬ SMe M (M + 8 + g); unfold SMe SMg; omega
    · show ¬ SMe M (M + 13 + g); unfold SMe SMg; omega
    · show ¬ SMe M (M + 18 + g); unfold SMe SMg; omega
    · have q : M + 23 + g = M + 23 + 3 := q
      omega
  obtain ⟨x1, x2⟩ := z1.to F.fd y1 y2
  exact ⟨x1, x2.trans z2⟩
theorem FMe.rg (F : FMe M μ μ') (h : RG μ M R) : RG μ' M R := by
  refine ⟨fun c hc => ?_, h.2⟩
  rw [F.iv (a := M + 27) (by unfold SMe SMg; omega), F.iv (a := M + 28) (by unfold SMe SMg; omega)]
  exact h.1 c hc
theorem CT.to {x : RC (Option Nat)} {v : Int32 × Int32 × List Tk} (h : CT μ M x v) (F : FD (M + 424) μ μ') : CT μ' M x v := by
  obtain ⟨a1, a2⟩ := F.mco h.1
  exact ⟨a1, by rw [a2]; exact h.2⟩
theorem mco_put {x : RC (Option Nat)} (m : MCO μ D x) : (if x.1 = N 1 then x.2.1 else N 0) = x.2.1 ∧ (if x.1 = N 2 then x.2.2.1 else none) = x.2.2.1 ∧ ∀ b, x.2.2.1 = some b → jk μ b = 20 := by
  rcases m with ⟨m1, m2, m3⟩ | ⟨m1, m3⟩ | ⟨m1, m2, f, e, m3, m4⟩
  · rw [m1, m2, m3]
    exact ⟨rfl, rfl, fun b h => by cases h⟩
  · rw [m1, m3]
    exact ⟨if_pos rfl, rfl, fun b h => by cases h⟩
  · rw [m1, m2, m3]
    exact ⟨rfl, if_pos rfl, fun b h => by cases h; exact m4.1⟩
theorem put_ct {x : RC (Option Nat)} {v : Int32 × Int32 × List Tk} (hq : QS μ M) (h : CT μ M x v) (hy : y < 24) : jC d 192 [.ref M, .int 3, .int (N y), .int x.1, .int x.2.1, va_rf x.2.2.1] μ = some (none, putC μ (mA M 3) y x.1 x.2.1 x.2.2.1) := by
  obtain ⟨a1, a2, a3⟩ := mco_put h.1
  have := r_put (d := d) (g := 3) (kd := x.1) (nm := x.2.1) (f := x.2.2.1) hq (by decide) hy a3
  rw [a1, a2] at this
  exact this
theorem r_takes (h : GG μ M G) (hg : g < 3) (hc : c < 3) (ho : smG G g o) (hy : y < 24) : ∃ x, CT μ M x (cnt (cO [] (G g) o c)) ∧ jC (d + 1) 236 [.ref M, .int (N g), .int (pl o), .int (N c), .int (N y)] μ = some (none, putC μ (mA M 3) y x.1 x.2.1 x.2.2.1) := by
  have hq := h.1
  have k13 := hq.k13
  have st : ∀ i1 i2, jC (d + 1) 236 [.ref M, i1, i2, .int (N c), .int (N y)] μ = jR (d + 1) 236 0 [.ref M, i1, i2, .int (N c), .int (N y)] [] μ := fun i1 i2 => by
    rw [jC_run (by decide)]; rfl
  cases o with
  | none =>
    refine ⟨(N 0, N 0, none, N 0), ⟨Or.inl ⟨rfl, rfl, rfl⟩, rfl⟩, ?_⟩
    have p1 := put_ct (d := d) (x := (N 0, N 0, none, N 0)) (v := (N 0, N 0, [])) hq ⟨Or.inl ⟨rfl, rfl, rfl⟩, rfl⟩ hy
    have p1 : jC d 192 [.ref M, .int 3, .int (N y), .int 0, .int 0, .null] μ = _ := p1
    rw [st, b236_0, if_pos (show pl none = -1 from rfl)]
    simp only [gI13, gR13, pI13, pR13, rv13, k13, if_true, Option.bind_some, p1]
    show jR (d + 1) 236 15 [.ref M, .int (N g), .int (pl none), .int (N c), .int (N y)] [] _ = _
    rw [b236_15, b236_61]
  | some i =>
    obtain ⟨i8, e, m⟩ := h.cell hg hc (ho i rfl)
    have ct : CT μ M (rc μ (mA M g) (i * 3 + c)) (cnt (cO [] (G g) (some i) c)) := ⟨m, by rw [e]⟩
    refine ⟨rc μ (mA M g) (i * 3 + c), ct, ?_⟩
    have p1 := put_ct (d := d) hq ct hy
    have gg := hq.gk (g := g) (by omega)
    have gr := hq.gr (g := g) (by omega)
    have e1 := ent_get (μ := μ) (i := i * 3 + c) gg.2.1.1 gg.2.1.2 (by omega) (by decide)
    have e2 := ent_get (μ := μ) (i := i * 3 + c) gg.2.2.1.1 gg.2.2.1.2 (by omega) (by decide)
    have e3 := refGet' (μ := μ) (i := i * 3 + c) (by rw [gg.2.2.2.2.1.1]; decide) gg.2.2.2.2.1.2 (by omega) (by decide)
    have p1 : jC d 192 [.ref M, .int (N 3), .int (N y), .int (jiv μ (M + 8 + g) (i * 3 + c)), .int (jiv μ (M + 13 + g) (i * 3 + c)), va_rf (jrv μ (M + 23 + g) (i * 3 + c))] μ = _ := p1
    rw [st, b236_0, if_neg (show ¬ pl (some i) = -1 from N_neg1 (by omega))]
    simp only [gI13, gR13, pI13, pR13, rv13, Option.bind_some, Option.bind_none, if_true, if_false, true_or, or_true, false_or, or_false, true_and, and_true, false_and, and_false, decide_eq_true_eq, decide_true, decide_false, eq_self, not_true_eq_false, not_false_eq_true, jfit0, N_lit, N_add, N_mul, NEG_eq, pl_none, pl_some, rf_some, rf_none, jun_ref, jun_null, ir_ref, ir_null, jr_rf, jun_rf, Option.toList_some, Option.toList_none, List.nil_append, List.cons_append, Nat.mul_comm 3, k13, hq.f.2.2.1, hq.f.2.2.2.1, hq.f.2.2.2.2.2, gr.2.1, gr.2.2.1, gr.2.2.2.2.1, e1, e2, e3, p1]
    rw [b236_61]
theorem sBool {v : Nat} (hk : jk μ a = 21) (hi : i < jl μ a) (hl : jl μ a < 1000000) (hv : v < 2) : jsB μ (.ref a) (N i) (N v) = some (jsetI μ a i (N v)) := by
  have h01 : N v = 0 ∨ N v = 1 := by
    rcases (show v = 0 ∨ v = 1 by omega) with rfl | rfl
    · exact Or.inl rfl
    · exact Or.inr rfl
  rw [sB_eq, if_neg (fun q => by rw [hk] at q; exact absurd q.1 (by decide)), if_pos ⟨hk, by rw [jinb_N (by omega)]; exact decide_eq_true hi, h01⟩, N_nat (by omega)]
theorem QS.cl (hq : QS μ M) : (jrv μ M 37 = some (M + 405) ∧ jrv μ M 38 = some (M + 406) ∧ jrv μ M 39 = some (M + 407) ∧ jrv μ M 40 = some (M + 408)) ∧ (jk μ (M + 405) = 20 ∧ jl μ (M + 405) = 80) ∧ (jk μ (M + 406) = 20 ∧ jl μ (M + 406) = 80) ∧ (jk μ (M + 407) = 20 ∧ jl μ (M + 407) = 80) ∧ jk μ (M + 408) = 21 ∧ jl μ (M + 408) = 80 :=
  ⟨⟨hq.2.1 37 405 rfl, hq.2.1 38 406 rfl, hq.2.1 39 407 rfl, hq.2.1 40 408 rfl⟩, hq.kd (o := 405) (by decide) rfl, hq.kd (o := 406) (by decide) rfl, hq.kd (o := 407) (by decide) rfl, hq.kd (o := 408) (by decide) rfl⟩
/-- a clash set down -/
theorem r_clash {kd kk cc : Int32} (hq : QS μ M) (hc : MRc μ M l) (hl : l.length < 80) : ∃ μ', jC d 240 [.ref M, .int kd, .int kk, .int cc] μ = some (none, μ') ∧ Fx (fun a => a = M ∨ (M + 405 ≤ a ∧ a < M + 409)) (fun _ _ => False) μ μ' ∧ (∀ j, j ≠ 35 → jiv μ' M j = jiv μ M j) ∧ MRc μ' M (l ++ [(kd, kk, cc, N 0)]) := by
  obtain ⟨h80, h35, hv⟩ := hc
  have k13 := hq.k13
  obtain ⟨⟨q37, q38, q39, q40⟩, k5, k6, k7, k8⟩ := hq.cl
  have s1 := ent_set (μ := μ) (v := kd) k5.1 k5.2 hl (by decide)
  have s2 := ent_set (μ := jsetI μ (M + 405) l.length kd) (v := kk) k6.1 k6.2 hl (by decide)
  have s3 := ent_set (μ := jsetI (jsetI μ (M + 405) l.length kd) (M + 406) l.length kk) (v := cc) k7.1 k7.2 hl (by decide)
  have s4 := sBool (μ := jsetI (jsetI (jsetI μ (M + 405) l.length kd) (M + 406) l.length kk) (M + 407) l.length cc) (a := M + 408) (i := l.length) (v := 0) k8.1 (by show l.length < jl μ (M + 408); rw [k8.2]; exact hl) (by show jl μ (M + 408) < _; rw [k8.2]; decide) (by decide)
  refine ⟨jsetI (jsetI (jsetI (jsetI (jsetI μ (M + 405) l.length kd) (M + 406) l.length kk) (M + 407) l.length cc) (M + 408) l.length (N 0)) M 35 (N (l.length + 1)), ?_, ?_, fun j hj => ?_, ?_, ?_, fun i v hi => ?_⟩
  · rw [jC_run (by decide)]
    show jR d 240 0 [.ref M, .int kd, .int kk, .int cc] [] μ = _
    have n35 : ∀ (f : jM) a b v, a ≠ M → jiv (jsetI f a b v) M 35 = jiv f M 35 := fun f a b v h => congrFun (iv_setIn (fun q => h q.symm)) _
    rw [b240_0]
    simp only [gI13, gR13, pI13, pR13, rv13, Option.bind_some, Option.bind_none, if_true, if_false, true_or, or_true, false_or, or_false, true_and, and_true, false_and, and_false, decide_eq_true_eq, decide_true, decide_false, eq_self, not_true_eq_false, not_false_eq_true, jfit0, N_lit, N_add, N_mul, NEG_eq, pl_none, pl_some, rf_some, rf_none, jun_ref, jun_null, ir_ref, ir_null, jr_rf, jun_rf, Option.toList_some, Option.toList_none, List.nil_append, List.cons_append, k13, q37, q38, q39, q40, h35, s1, s2, s3, s4, jk_setI, rv_setI, n35 _ _ _ _ (show M + 405 ≠ M by omega), n35 _ _ _ _ (show M + 406 ≠ M by omega), n35 _ _ _ _ (show M + 407 ≠ M by omega), n35 _ _ _ _ (show M + 408 ≠ M by omega)]
  · refine Fx.setI (Fx.setI (Fx.setI (Fx.setI (Fx.setI Fx.refl ?_) ?_) ?_) ?_) (Or.inl rfl) <;> exact Or.inr (by omega)
  · simp only [iv_setI]
    rw [if_neg (by omega), if_neg (by omega), if_neg (by omega), if_neg (by omega), if_neg (by omega)]
  · rw [List.length_append]; exact hl
  · rw [List.length_append]
    exact if_pos ⟨rfl, rfl⟩
  · have hil : i < l.length ∨ i = l.length := by
      have := (List.getElem?_eq_some_iff.mp hi).1
      rw [List.length_append] at this
      have this : i < l.length + 1 := this
      omega
    rcases hil with hil | hil
    · rw [List.getElem?_append_left hil] at hi
      obtain ⟨v1, v2, v3, v4⟩ := hv i v hi
      refine ⟨?_, ?_, ?_, ?_⟩ <;> (simp only [iv_setI]; rw [if_neg (by omega), if_neg (by omega), if_neg (by omega), if_neg (by omega), if_neg (by omega)]; assumption)
    · subst hil
      rw [List.getElem?_append_right (Nat.le_refl _), Nat.sub_self] at hi
      have hi : some (kd, kk, cc, N 0) = some v := hi
      cases hi
      refine ⟨?_, ?_, ?_, ?_⟩
      · simp only [iv_setI]
        rw [if_neg (by omega), if_neg (by omega), if_neg (by omega), if_neg (by omega), if_pos (by simp)]
      · simp only [iv_setI]
        rw [if_neg (by omega), if_neg (by omega), if_neg (by omega), if_pos (by simp)]
      · simp only [iv_setI]
        rw [if_neg (by omega), if_neg (by omega), if_pos (by simp)]
      · simp only [iv_setI]
        rw [if_neg (by omega), if_pos (by simp)]
end LAY
