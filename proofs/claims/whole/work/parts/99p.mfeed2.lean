/-! THE REFERENCE's CALLS: feed -/
section LAY
variable {μ μ' ν : jM} {M d : Nat} {σ : SG}
theorem byt (v : Int32) : (∃ a, ix 256 v = some a) ↔ ¬ v < N 0 ∧ ¬ N 255 < v := by
  constructor
  · rintro ⟨a, h⟩
    obtain ⟨rfl, ha⟩ := ix_some (by decide) h
    rw [N_lt (by omega) (by decide), N_lt (by decide) (by omega)]; omega
  · rintro ⟨h1, h2⟩
    obtain ⟨a, ha, rfl⟩ := N_of h1
    rw [N_lt (by decide) ha] at h2
    exact ⟨a, ix_N (by decide) (by omega)⟩
theorem p_feed (h : MR μ M σ) (n a b c e f : Int32) : ROP M (jC (d + 2) 164 [.ref M, .int n, .int a, .int b, .int c, .int e, .int f] μ) μ (o_feed σ n a b c e f) := by
  have hq := h.1
  have k13 := hq.k13
  obtain ⟨t1, t2, t3⟩ := h.2.2.2.2.2.2.1
  have bad : jR (d + 2) 164 47 [.ref M, .int n, .int a, .int b, .int c, .int e, .int f, .retAddr 0] [] μ = some (some (.int aBAD), μ) := b164_47 ..
  have st : jC (d + 2) 164 [.ref M, .int n, .int a, .int b, .int c, .int e, .int f] μ = jR (d + 2) 164 6 [.ref M, .int n, .int a, .int b, .int c, .int e, .int f, .retAddr 0] [.int (if n < N 1 ∨ N 5 < n then N 0 else N 1)] μ := by
    rw [jC_run (by decide)]
    show jR (d + 2) 164 0 [.ref M, .int n, .int a, .int b, .int c, .int e, .int f, .retAddr 0] [] μ = _
    rw [b164_0, r_btw]
    rfl
  rw [st, b164_6]
  unfold o_feed
  by_cases hn : n < N 1 ∨ N 5 < n
  · rw [if_pos hn, if_pos hn, if_pos (by decide)]
    exact ⟨μ, bad, FR.refl, h⟩
  · rw [if_neg hn, if_neg hn, if_neg (by decide), r_byte]
    show ROP M (jR (d + 2) 164 13 [.ref M, .int n, .int a, .int b, .int c, .int e, .int f, .retAddr 0] [.int (okI (ix 256 a))] μ) μ _
    have no : ∀ v, v ∈ [a, b, c, e, f] → ix 256 v = none → ¬ (∀ v, v ∈ [a, b, c, e, f] → ¬ v < N 0 ∧ ¬ N 255 < v) := fun v hv hx q => by
      obtain ⟨x, hx'⟩ := (byt v).mpr (q v hv)
      rw [hx] at hx'; cases hx'
    rw [b164_13]
    cases ea : ix 256 a with
    | none =>
      rw [if_pos (by rw [okI_0]), if_neg (no a (by simp) ea)]
      exact ⟨μ, bad, FR.refl, h⟩
    | some a0 =>
    rw [if_neg (by rw [okI_0]; simp), r_byte]
    show ROP M (jR (d + 2) 164 20 [.ref M, .int n, .int a, .int b, .int c, .int e, .int f, .retAddr 0] [.int (okI (ix 256 b))] μ) μ _
    rw [b164_20]
    cases eb : ix 256 b with
    | none =>
      rw [if_pos (by rw [okI_0]), if_neg (no b (by simp) eb)]
      exact ⟨μ, bad, FR.refl, h⟩
    | some b0 =>
    rw [if_neg (by rw [okI_0]; simp), r_byte]
    show ROP M (jR (d + 2) 164 28 [.ref M, .int n, .int a, .int b, .int c, .int e, .int f, .retAddr 0] [.int (okI (ix 256 c))] μ) μ _
    rw [b164_28]
    cases ec : ix 256 c with
    | none =>
      rw [if_pos (by rw [okI_0]), if_neg (no c (by simp) ec)]
      exact ⟨μ, bad, FR.refl, h⟩
    | some c0 =>
    rw [if_neg (by rw [okI_0]; simp), r_byte]
    show ROP M (jR (d + 2) 164 36 [.ref M, .int n, .int a, .int b, .int c, .int e, .int f, .retAddr 0] [.int (okI (ix 256 e))] μ) μ _
    rw [b164_36]
    cases ee : ix 256 e with
    | none =>
      rw [if_pos (by rw [okI_0]), if_neg (no e (by simp) ee)]
      exact ⟨μ, bad, FR.refl, h⟩
    | some e0 =>
    rw [if_neg (by rw [okI_0]; simp), r_byte]
    show ROP M (jR (d + 2) 164 44 [.ref M, .int n, .int a, .int b, .int c, .int e, .int f, .retAddr 0] [.int (okI (ix 256 f))] μ) μ _
    rw [b164_44]
    cases ef : ix 256 f with
    | none =>
      rw [if_pos (by rw [okI_0]), if_neg (no f (by simp) ef)]
      exact ⟨μ, bad, FR.refl, h⟩
    | some f0 =>
    have all : ∀ v, v ∈ [a, b, c, e, f] → ¬ v < N 0 ∧ ¬ N 255 < v := fun v hv => by
      simp only [List.mem_cons, List.not_mem_nil, or_false] at hv
      rcases hv with rfl | rfl | rfl | rfl | rfl
      · exact (byt _).mp ⟨_, ea⟩
      · exact (byt _).mp ⟨_, eb⟩
      · exact (byt _).mp ⟨_, ec⟩
      · exact (byt _).mp ⟨_, ee⟩
      · exact (byt _).mp ⟨_, ef⟩
    rw [if_neg (by rw [okI_0]; simp), if_pos all]
    obtain ⟨m, hm, rfl⟩ := N_of (show ¬ n < N 0 from fun q => hn (Or.inl (Int32.lt_trans q (by decide))))
    have hm5 : m ≤ 5 := by
      have : ¬ N 5 < N m := fun q => hn (Or.inr q)
      rw [N_lt (by decide) hm] at this; omega
    simp only [gI13, gR13, pI13, pR13, rv13, k13, if_true, Option.bind_some, t2, N_add]
    by_cases hf : 40 < σ.2.2.1.length + m
    · rw [if_pos (show (40 : Int32) < N (σ.2.2.1.length + m) by show N 40 < _; rw [N_lt (by decide) (by omega)]; exact hf), if_pos (by rw [N_lt (by omega) (by omega)]; omega)]
      exact ⟨μ, rfl, FR.refl, h⟩
    · rw [if_neg (show ¬ (40 : Int32) < N (σ.2.2.1.length + m) by show ¬ N 40 < _; rw [N_lt (by decide) (by omega)]; exact hf), if_neg (by rw [N_lt (by omega) (by omega)]; omega)]
      obtain ⟨μ', c1, F, q', h16, r1, r2⟩ := fd_loop (d := d + 2) (v1 := a) (v2 := b) (v3 := c) (v4 := e) (v5 := f) hm5 (show σ.2.2.1.length + m ≤ 40 by omega) m 0 μ (by omega) Fx.refl hq t2 (fun _ _ => rfl) (fun j v hj => by omega)
      have ll : (σ.2.2.1 ++ ([a, b, c, e, f].take m).map Int32.toNatClampNeg).length = σ.2.2.1.length + m := by
        rw [List.length_append, List.length_map, List.length_take]
        show _ + min m 5 = _
        omega
      have ht : MRt (jsetI μ' M 16 (N (σ.2.2.1.length + m))) M (σ.2.2.1 ++ ([a, b, c, e, f].take m).map Int32.toNatClampNeg) := by
        refine ⟨by rw [ll]; omega, by rw [ll]; exact if_pos ⟨rfl, rfl⟩, fun i x hx => ?_⟩
        rw [iv_setIn (show ¬ M + 399 = M by omega)]
        by_cases hi : i < σ.2.2.1.length
        · rw [List.getElem?_append_left hi] at hx
          rw [r1 i hi]; exact t3 i x hx
        · rw [List.getElem?_append_right (by omega), List.getElem?_map] at hx
          cases ev : ([a, b, c, e, f].take m)[i - σ.2.2.1.length]? with
          | none => rw [ev] at hx; cases hx
          | some v =>
            rw [ev] at hx
            cases hx
            have hlt : i - σ.2.2.1.length < m := by
              have := (List.getElem?_eq_some_iff.mp ev).1
              rw [List.length_take] at this; omega
            rw [List.getElem?_take_of_lt hlt] at ev
            obtain ⟨y, hy⟩ := (byt v).mpr (all v (List.mem_of_getElem? ev))
            obtain ⟨rfl, hy2⟩ := ix_some (by decide) hy
            have := r2 _ _ hlt ev
            rw [show σ.2.2.1.length + (i - σ.2.2.1.length) = i by omega] at this
            rw [N_nat (by omega), this]
            exact ⟨hy2, rfl⟩
      obtain ⟨z1, z2⟩ := h.tape F ht
      refine ⟨_, ?_, z1, by rw [N_nat hm]; exact z2⟩
      have c1 : jR (d + 2) 164 67 [.ref M, .int (N m), .int a, .int b, .int c, .int e, .int f, .int 0] [] μ = _ := c1
      rw [c1, b164_67, if_neg (by rw [N_lt hm hm]; omega)]
      have : jiv (jsetI μ' M 16 (N (σ.2.2.1.length + m))) M 16 = N (σ.2.2.1.length + m) := if_pos ⟨rfl, rfl⟩
      simp only [gI13, gR13, pI13, pR13, rv13, Option.bind_some, Option.bind_none, if_true, if_false, true_or, or_true, false_or, or_false, true_and, and_true, false_and, and_false, decide_eq_true_eq, decide_true, decide_false, eq_self, not_true_eq_false, not_false_eq_true, jfit0, N_lit, N_add, N_mul, NEG_eq, pl_none, pl_some, rf_some, rf_none, jun_ref, jun_null, ir_ref, ir_null, jr_rf, jun_rf, Option.toList_some, Option.toList_none, List.nil_append, List.cons_append, q'.k13, h16, jk_setI, this]
      rw [N_nat hm, ll]
end LAY
