/-! THE REFERENCE's CALLS: rules -/
section LAY
variable {μ μ' ν : jM} {S S' : Nat → Prop} {T T' : Nat → Nat → Prop} {M g h t s n w d D i j k x y a b c : Nat} {A B C : GA} {σ : SG}
/-- changes that leave the grids -/
theorem MR.low (h : MR μ M σ) (F : Fx S (fun _ _ => False) μ μ') (hS : ∀ a, S a → a = M ∨ a = M + 27 ∨ a = M + 28 ∨ (M + 399 ≤ a ∧ a < M + 424 ∧ a ≠ M + 415)) (h14 : jiv μ' M 14 = jiv μ M 14) (h49 : jiv μ' M 49 = jiv μ M 49) (h50 : jiv μ' M 50 = jiv μ M 50) : QS μ' M ∧ AA μ' M ∧ MRg μ' M σ.1.1 ∧ MRu μ' M σ.1.2.2 ∧ MRi μ' M σ.2.1 := by
  obtain ⟨hq, hA, hg, hr, hu, hi, -⟩ := h
  have fd : FD (M + 424) μ μ' := F.fd (fun a k => by have := hS a k; omega) (fun a j k => k.elim)
  have iv : ∀ a, ¬ (a = M ∨ a = M + 27 ∨ a = M + 28 ∨ (M + 399 ≤ a ∧ a < M + 424 ∧ a ≠ M + 415)) → jiv μ' a = jiv μ a := fun a k => F.iv (fun q => k (hS a q))
  have keep : ∀ t k, t < 14 → k < 4 → GW μ (aA M t k) → GW μ' (aA M t k) ∧ rG μ' (aA M t k) = rG μ (aA M t k) := fun t k ht hk hw => aA_keep F (fun a h1 h2 q => by have := hS a q; omega) (fun a j h1 h2 q => q) ht hk hw
  refine ⟨F.qs hq (fun a j k => k.elim), fun t ht k hk => (keep t k ht hk (hA t ht k hk)).1, fun k hk => ?_, hu.keep fd h14 keep, hi.keep fd h49 h50 (iv (M + 415) (by omega)) (fun t k _ ht hk hw => keep t k ht hk hw)⟩
  obtain ⟨z1, z2⟩ := hg k hk
  obtain ⟨y1, y2⟩ : GW μ' (mA M k) ∧ rG μ' (mA M k) = rG μ (mA M k) := by
    refine F.gw z1.gw (fun q => ?_) (fun q => ?_) (fun q => ?_) (fun q => ?_) ?_ (fun j q => q)
    · have := hS (M + 3 + k) q; omega
    · have := hS (M + 8 + k) q; omega
    · have := hS (M + 13 + k) q; omega
    · have := hS (M + 18 + k) q; omega
    · exact congrFun (iv (M + 1) (by omega)) _
  obtain ⟨x1, x2⟩ := z1.to fd y1 y2
  exact ⟨x1, x2.trans z2⟩
theorem r_b5 (x : Int32) : jC d 165 [.int x, .int 0, .int 5] μ = some (some (.int (okI (ix 6 x))), μ) := r_in (n := 6) (by decide) x
theorem r_b99 (x : Int32) : jC d 165 [.int x, .int 0, .int 99] μ = some (some (.int (okI (ix 100 x))), μ) := r_in (n := 100) (by decide) x
theorem QS.fr (h : QS μ M) : jrv μ M 6 = some (M + 27) ∧ jrv μ M 7 = some (M + 28) ∧ (jk μ (M + 27) = 20 ∧ jl μ (M + 27) = 3) ∧ jk μ (M + 28) = 20 ∧ jl μ (M + 28) = 3 :=
  ⟨h.2.1 6 27 rfl, h.2.1 7 28 rfl, h.kd (o := 27) (by decide) rfl, h.kd (o := 28) (by decide) rfl⟩
theorem p_rule (h : MR μ M σ) (c k f : Int32) : ROP M (jC (d + 2) 222 [.ref M, .int c, .int k, .int f] μ) μ (o_rule σ c k f) := by
  have hq := h.1
  obtain ⟨q6, q7, k27, k28⟩ := hq.fr
  have bad : jR (d + 2) 222 26 [.ref M, .int c, .int k, .int f, .retAddr 0] [] μ = some (some (.int aBAD), μ) := b222_26 ..
  have st : jC (d + 2) 222 [.ref M, .int c, .int k, .int f] μ = jR (d + 2) 222 4 [.ref M, .int c, .int k, .int f, .retAddr 0] [.int (okI (ix 3 c))] μ := by
    rw [jC_run (by decide)]
    show jR (d + 2) 222 0 [.ref M, .int c, .int k, .int f, .retAddr 0] [] μ = _
    rw [b222_0, r_col]
    rfl
  rw [st, b222_4]
  unfold o_rule
  cases ec : ix 3 c with
  | none =>
    rw [if_pos (by rw [okI_0])]
    exact ⟨μ, bad, FR.refl, h⟩
  | some c0 =>
    obtain ⟨rfl, hc⟩ := ix_some (by decide) ec
    rw [if_neg (by rw [okI_0]; simp), r_b5]
    show ROP M (jR (d + 2) 222 13 [.ref M, .int (N c0), .int k, .int f, .retAddr 0] [.int (okI (ix 6 k))] μ) μ _
    rw [b222_13]
    cases ek : ix 6 k with
    | none =>
      rw [if_pos (by rw [okI_0])]
      exact ⟨μ, bad, FR.refl, h⟩
    | some k0 =>
      obtain ⟨rfl, hk⟩ := ix_some (by decide) ek
      rw [if_neg (by rw [okI_0]; simp), r_b99]
      show ROP M (jR (d + 2) 222 23 [.ref M, .int (N c0), .int (N k0), .int f, .retAddr 0] [.int (okI (ix 100 f))] μ) μ _
      rw [b222_23]
      cases ef : ix 100 f with
      | none =>
        rw [if_pos (by rw [okI_0])]
        exact ⟨μ, bad, FR.refl, h⟩
      | some f0 =>
        obtain ⟨rfl, hf⟩ := ix_some (by decide) ef
        rw [if_neg (by rw [okI_0]; simp)]
        obtain ⟨a1, a2⟩ := h.2.2.2.1 c0 hc
        have e1 := ent_get (μ := μ) k27.1 k27.2 hc (by decide)
        have e2 := ent_get (μ := μ) k28.1 k28.2 hc (by decide)
        rw [a1] at e1
        rw [a2] at e2
        have e3 := ent_set (μ := μ) (v := N k0) k27.1 k27.2 hc (by decide)
        have e4 := ent_set (μ := jsetI μ (M + 27) c0 (N k0)) (v := N f0) k28.1 k28.2 hc (by decide)
        have F : Fx (fun a => a = M + 27 ∨ a = M + 28) (fun _ _ => False) μ (jsetI (jsetI μ (M + 27) c0 (N k0)) (M + 28) c0 (N f0)) := Fx.setI (Fx.setI Fx.refl (Or.inl rfl)) (Or.inr rfl)
        have iv : ∀ a, a ≠ M + 27 → a ≠ M + 28 → jiv (jsetI (jsetI μ (M + 27) c0 (N k0)) (M + 28) c0 (N f0)) a = jiv μ a := fun a h1 h2 => F.iv (fun q => q.elim h1 h2)
        have iM := iv M (by omega) (by omega)
        obtain ⟨l1, l2, l3, l4, l5⟩ := h.low F (fun a k => by omega) (by rw [iM]) (by rw [iM]) (by rw [iM])
        obtain ⟨-, -, -, hr, -, -, ht, hcl, hm, hs⟩ := h
        simp only [gI13, gR13, pI13, pR13, rv13, Option.bind_some, Option.bind_none, if_true, if_false, true_or, or_true, false_or, or_false, true_and, and_true, false_and, and_false, decide_eq_true_eq, decide_true, decide_false, eq_self, not_true_eq_false, not_false_eq_true, jfit0, N_lit, N_add, N_mul, NEG_eq, pl_none, pl_some, rf_some, rf_none, jun_ref, jun_null, ir_ref, ir_null, jr_rf, jun_rf, Option.toList_some, Option.toList_none, List.nil_append, List.cons_append, hq.k13, q6, q7, e1, e2, e3, e4, jk_setI, rv_setI]
        refine ⟨_, rfl, F.mono (fun a k => by omega) (fun a j k => k.elim), l1, l2, l3, fun x hx => ?_, l4, l5, ?_, ?_, ?_, fun i hi => ?_⟩
        · show (if M + 27 = M + 28 ∧ x = c0 then N f0 else if M + 27 = M + 27 ∧ x = c0 then N k0 else jiv μ (M + 27) x) = N (if x = c0 then (k0, f0) else σ.1.2.1 x).1 ∧ (if M + 28 = M + 28 ∧ x = c0 then N f0 else if M + 28 = M + 27 ∧ x = c0 then N k0 else jiv μ (M + 28) x) = N (if x = c0 then (k0, f0) else σ.1.2.1 x).2
          rw [if_neg (show ¬ (M + 27 = M + 28 ∧ x = c0) by omega), if_neg (show ¬ (M + 28 = M + 27 ∧ x = c0) by omega)]
          by_cases e : x = c0
          · rw [if_pos e, if_pos (show M + 27 = M + 27 ∧ x = c0 from ⟨rfl, e⟩), if_pos (show M + 28 = M + 28 ∧ x = c0 from ⟨rfl, e⟩)]; exact ⟨rfl, rfl⟩
          · rw [if_neg e, if_neg (show ¬ (M + 27 = M + 27 ∧ x = c0) from fun q => e q.2), if_neg (show ¬ (M + 28 = M + 28 ∧ x = c0) from fun q => e q.2)]; exact hr x hx
        · obtain ⟨b1, b2, b3⟩ := ht
          exact ⟨b1, by rw [iM]; exact b2, by rw [iv (M + 399) (by omega) (by omega)]; exact b3⟩
        · obtain ⟨b1, b2, b3⟩ := hcl
          exact ⟨b1, by rw [iM]; exact b2, by rw [iv (M + 405) (by omega) (by omega), iv (M + 406) (by omega) (by omega), iv (M + 407) (by omega) (by omega), iv (M + 408) (by omega) (by omega)]; exact b3⟩
        · show jiv _ M 36 = _
          rw [iM]; exact hm
        · rw [iv (M + 416) (by omega) (by omega), iv (M + 417) (by omega) (by omega), iv (M + 419 + i) (by omega) (by omega)]
          exact hs i hi
end LAY
