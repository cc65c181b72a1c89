/-! THE REFERENCE's READER: numbers, signs, the next token -/
section LEX
variable {μ μ' μ'' : jM} {M B d i j k a t c n w lo hi : Nat} {bs r A R s ds ws l : List Nat} {v x : Int32}
theorem dg_loop : ∀ (r ds : List Nat) (μ : jM), LB μ M B (A ++ (ds ++ r)) → jiv μ M 17 = N (A.length + ds.length) → jiv μ M 18 = N A.length → (ds.length ≤ 6 → jiv μ M 20 = N (dval ds)) → ∃ μ', jR (d + 1) 178 10 [.ref M] [] μ = some (none, μ') ∧ NX M μ μ' ∧ jiv μ' M 17 = N (A.length + (ds ++ r.takeWhile isDg).length) ∧ jiv μ' M 18 = N A.length ∧ jiv μ' M 19 = jiv μ M 19 ∧ ((ds ++ r.takeWhile isDg).length ≤ 6 → jiv μ' M 20 = N (dval (ds ++ r.takeWhile isDg))) ∧ jiv μ' M 22 = if 6 < (ds ++ r.takeWhile isDg).length then N 1 else N 0 := by
  intro r
  induction r with
  | nil =>
    intro ds μ h h7 h8 h0
    have k13 := h.k13
    have h40 := h.len
    rw [List.length_append, List.append_nil] at h40
    have b := r_byteAt (d := d) (A := A ++ ds) (r := []) (by rw [List.append_assoc]; exact h)
    rw [List.length_append] at b
    rw [show ([] : List Nat).takeWhile isDg = [] from rfl, List.append_nil]
    have esub : N (A.length + ds.length) - N A.length = N ds.length := by
      rw [N_sub (by omega)]; congr 1; omega
    have fin : ∀ z, (z = N 0 ∨ z = N 1) → jR (d + 1) 178 98 [.ref M] [.int z, .ref M] μ = some (none, jsetI μ M 22 z) := fun z hz => by
      rw [b178_98 (hs0 := ir_ref)]
      have : jfit 2 z = true := by rcases hz with rfl | rfl <;> rfl
      simp only [gI13, gR13, pI13, pR13, rv13, k13, this, if_true, and_true, Option.bind_some]
    have st : jR (d + 1) 178 10 [.ref M] [] μ = some (none, jsetI μ M 22 (if 6 < ds.length then N 1 else N 0)) := by
      rw [b178_10]
      simp only [gI13, gR13, pI13, pR13, rv13, k13, h7, if_true, Option.bind_some, b]
      show jR (d + 1) 178 18 [.ref M] [.int NEG] μ = _
      rw [b178_18, r_btw]
      show jR (d + 1) 178 25 [.ref M] [.int (if NEG < N 48 ∨ N 57 < NEG then N 0 else N 1)] μ = _
      rw [if_pos (Or.inl (btw_nil (by decide))), b178_25, if_pos (show N 0 = 0 from rfl)]
      simp only [gI13, gR13, pI13, pR13, rv13, k13, h7, h8, if_true, Option.bind_some, esub]
      have c1 : (6 < N ds.length) = (6 < ds.length) := by
        show (N 6 < N ds.length) = _
        rw [N_lt (by decide) (by omega)]
      simp only [c1]
      by_cases e : 6 < ds.length
      · rw [if_pos e, if_pos e]; exact fin _ (Or.inr rfl)
      · rw [if_neg e, if_neg e]; exact fin _ (Or.inl rfl)
    exact ⟨_, st, NX.set (by omega), (ivj (by decide)).trans h7, (ivj (by decide)).trans h8, ivj (by decide), fun e => (ivj (by decide)).trans (h0 e), if_pos ⟨rfl, rfl⟩⟩
  | cons c r ih =>
    intro ds μ h h7 h8 h0
    have k13 := h.k13
    have h40 := h.len
    have hA : A ++ (ds ++ c :: r) = (A ++ ds) ++ (c :: r) := by rw [List.append_assoc]
    rw [hA] at h
    have hc := h.ch
    have b := r_byteAt (d := d) h
    rw [List.length_append] at b
    rw [List.length_append, List.length_append, List.length_cons] at h40
    have esub : N (A.length + ds.length) - N A.length = N ds.length := by
      rw [N_sub (by omega)]; congr 1; omega
    have e1 : jR (d + 1) 178 10 [.ref M] [] μ = jR (d + 1) 178 25 [.ref M] [.int (if ¬ (48 ≤ c ∧ c ≤ 57) then N 0 else N 1)] μ := by
      rw [b178_10]
      simp only [gI13, gR13, pI13, pR13, rv13, k13, h7, if_true, Option.bind_some, b]
      show jR (d + 1) 178 18 [.ref M] [.int (N c)] μ = _
      rw [b178_18, r_btw, show (48 : Int32) = N 48 from rfl, show (57 : Int32) = N 57 from rfl]
      simp only [btw_c hc (show 48 < 256 by decide) (show 57 < 256 by decide)]
      rfl
    rw [e1]
    by_cases e : 48 ≤ c ∧ c ≤ 57
    · have tw : (c :: r).takeWhile isDg = c :: r.takeWhile isDg := by
        rw [List.takeWhile_cons, if_pos (by rw [dg_iff]; exact e)]
      have ea : ds ++ (c :: r).takeWhile isDg = (ds ++ [c]) ++ r.takeWhile isDg := by rw [tw, List.append_assoc]; rfl
      rw [ea]
      have en : N (A.length + ds.length) + 1 = N (A.length + ds.length + 1) := by rw [show (1 : Int32) = N 1 from rfl, N_add]
      -- the place moves on
      have on : ∀ (μ1 : jM), NX M μ μ1 → jiv μ1 M 17 = N (A.length + ds.length) → jiv μ1 M 18 = N A.length → jiv μ1 M 19 = jiv μ M 19 → ((ds ++ [c]).length ≤ 6 → jiv μ1 M 20 = N (dval (ds ++ [c]))) → ∃ μ', jR (d + 1) 178 65 [.ref M] [] μ1 = some (none, μ') ∧ NX M μ μ' ∧ jiv μ' M 17 = N (A.length + ((ds ++ [c]) ++ r.takeWhile isDg).length) ∧ jiv μ' M 18 = N A.length ∧ jiv μ' M 19 = jiv μ M 19 ∧ (((ds ++ [c]) ++ r.takeWhile isDg).length ≤ 6 → jiv μ' M 20 = N (dval ((ds ++ [c]) ++ r.takeWhile isDg))) ∧ jiv μ' M 22 = if 6 < ((ds ++ [c]) ++ r.takeWhile isDg).length then N 1 else N 0 := by
        intro μ1 F1 u7 u8 u9 u0
        have h1 := h.nx F1
        have F2 : NX M μ1 (jsetI μ1 M 17 (N (A.length + ds.length + 1))) := NX.set (by omega)
        obtain ⟨μ', c1, G1, v7, v8, v9, v0, v2⟩ := ih (ds ++ [c]) (jsetI μ1 M 17 (N (A.length + ds.length + 1))) (by
          rw [show A ++ ((ds ++ [c]) ++ r) = (A ++ ds) ++ (c :: r) by simp only [List.append_assoc, List.cons_append, List.nil_append]]
          exact h1.nx F2) (by
          rw [List.length_append]
          exact if_pos ⟨rfl, rfl⟩) ((ivj (by decide)).trans u8) (fun e => (ivj (by decide)).trans (u0 e))
        refine ⟨μ', ?_, F1.trans (F2.trans G1), v7, v8, v9.trans ((ivj (by decide)).trans u9), v0, v2⟩
        rw [b178_65]
        simp only [gI13, gR13, pI13, pR13, rv13, h1.k13, jfit0, u7, if_true, and_true, Option.bind_some, en]
        exact c1
      rw [if_neg (fun q => q e), b178_25, if_neg (show ¬ N 1 = 0 by decide)]
      simp only [gI13, gR13, pI13, pR13, rv13, k13, h7, h8, if_true, Option.bind_some, esub]
      have c1 : (N ds.length < 6) = (ds.length < 6) := by
        show (N ds.length < N 6) = _
        rw [N_lt (by omega) (by decide)]
      simp only [c1]
      by_cases e6 : ds.length < 6
      · rw [if_pos e6]
        simp only [b, Option.bind_some]
        show ∃ μ', jR (d + 1) 178 58 [.ref M] [.int (N c), .int (10 * jiv μ M 20), .ref M] μ = _ ∧ _
        have ev : 10 * jiv μ M 20 + N c - 48 = N (dval (ds ++ [c])) := by
          rw [h0 (by omega), dval_snoc, show (10 : Int32) = N 10 from rfl, show (48 : Int32) = N 48 from rfl, N_mul, N_add, N_sub (by omega), Nat.mul_comm]
        have F2 : NX M μ (jsetI μ M 20 (N (dval (ds ++ [c])))) := NX.set (by omega)
        obtain ⟨μ', d1, d2⟩ := on _ F2 ((ivj (by decide)).trans h7) ((ivj (by decide)).trans h8) (ivj (by decide)) (fun _ => if_pos ⟨rfl, rfl⟩)
        refine ⟨μ', ?_, d2⟩
        rw [b178_58 (hs0 := ir_ref), ev]
        simp only [gI13, gR13, pI13, pR13, rv13, k13, jfit0, if_true, and_true, Option.bind_some]
        exact d1
      · rw [if_neg e6]
        exact on μ NX.refl h7 h8 rfl (fun q => by rw [List.length_append] at q; exact absurd q (by show ¬ ds.length + 1 ≤ 6; omega))
    · have tw : (c :: r).takeWhile isDg = [] := by
        rw [List.takeWhile_cons, if_neg (by rw [dg_iff]; exact e)]
      rw [tw, List.append_nil]
      have fin : ∀ z, (z = N 0 ∨ z = N 1) → jR (d + 1) 178 98 [.ref M] [.int z, .ref M] μ = some (none, jsetI μ M 22 z) := fun z hz => by
        rw [b178_98 (hs0 := ir_ref)]
        have : jfit 2 z = true := by rcases hz with rfl | rfl <;> rfl
        simp only [gI13, gR13, pI13, pR13, rv13, k13, this, if_true, and_true, Option.bind_some]
      have st : jR (d + 1) 178 25 [.ref M] [.int (if ¬ (48 ≤ c ∧ c ≤ 57) then N 0 else N 1)] μ = some (none, jsetI μ M 22 (if 6 < ds.length then N 1 else N 0)) := by
        rw [if_pos (show ¬ (48 ≤ c ∧ c ≤ 57) from e), b178_25, if_pos (show N 0 = 0 from rfl)]
        simp only [gI13, gR13, pI13, pR13, rv13, k13, h7, h8, if_true, Option.bind_some, esub]
        have c1 : (6 < N ds.length) = (6 < ds.length) := by
          show (N 6 < N ds.length) = _
          rw [N_lt (by decide) (by omega)]
        simp only [c1]
        by_cases e6 : 6 < ds.length
        · rw [if_pos e6, if_pos e6]; exact fin _ (Or.inr rfl)
        · rw [if_neg e6, if_neg e6]; exact fin _ (Or.inl rfl)
      exact ⟨_, st, NX.set (by omega), (ivj (by decide)).trans h7, (ivj (by decide)).trans h8, ivj (by decide), fun q => (ivj (by decide)).trans (h0 q), if_pos ⟨rfl, rfl⟩⟩
/-- a number -/
theorem r_digits (h : LB μ M B (A ++ (c :: l))) (hc : isDg c = true) (h7 : jiv μ M 17 = N A.length) (h8 : jiv μ M 18 = N A.length) : ∃ μ', jC (d + 1) 178 [.ref M] μ = some (none, μ') ∧ NX M μ μ' ∧ jiv μ' M 18 = N A.length ∧ TokS μ' M (tok1 c l).1 (tok1 c l).2.1 ∧ jiv μ' M 17 = N (A.length + (tok1 c l).2.2) := by
  have k13 := h.k13
  have F1 : NX M μ (jsetI μ M 19 (N 1)) := NX.set (by omega)
  have k1 : jk (jsetI μ M 19 1) M = 13 := k13
  have F2 : NX M (jsetI μ M 19 (N 1)) (jsetI (jsetI μ M 19 (N 1)) M 20 (N 0)) := NX.set (by omega)
  have F3 := F1.trans F2
  obtain ⟨μ', c1, G1, v7, v8, v9, v0, v2⟩ := dg_loop (d := d) (A := A) (c :: l) [] (jsetI (jsetI μ M 19 (N 1)) M 20 (N 0)) (h.nx F3) ((ivj (by decide)).trans ((ivj (by decide)).trans h7)) ((ivj (by decide)).trans ((ivj (by decide)).trans h8)) (fun _ => if_pos ⟨rfl, rfl⟩)
  rw [List.nil_append] at v7 v0 v2
  have t1 : tok1 c l = (if 6 < ((c :: l).takeWhile isDg).length then 1 else 48, dval ((c :: l).takeWhile isDg), ((c :: l).takeWhile isDg).length) := by
    unfold tok1
    rw [if_pos hc]
  rw [t1]
  refine ⟨μ', ?_, F3.trans G1, v8, ?_, v7⟩
  · rw [jC_run (by decide)]
    show jR (d + 1) 178 0 [.ref M] [] μ = _
    rw [b178_0]
    simp only [gI13, gR13, pI13, pR13, rv13, k13, k1, jfit0, if_true, and_true, Option.bind_some]
    exact c1
  · by_cases e : 6 < ((c :: l).takeWhile isDg).length
    · rw [if_pos e] at v2 ⊢
      exact Or.inl ⟨rfl, v2⟩
    · rw [if_neg e] at v2 ⊢
      exact Or.inr ⟨v2, Or.inr (Or.inl ⟨rfl, v9.trans ((ivj (by decide)).trans (if_pos ⟨rfl, rfl⟩)), v0 (by omega)⟩)⟩
end LEX
