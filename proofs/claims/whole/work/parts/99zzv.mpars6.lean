/-! THE REFERENCE's READER: part, sum, all -/
section LEX
variable {μ μ' μ'' : jM} {M B d i j k a t c n w w' b : Nat} {bs r A R s ds ws l : List Nat} {v x y : Int32} {ts ts' : List T3} {T : List (Int32 × Int32)} {ok : Bool} {G : DG} {e : Ex}
theorem part_4W (k13 : jk μ M = 13) (h : jiv μ M 22 = N 1) : jR (d + 1) 181 4 [.ref M] [] μ = some (none, μ) := by
  rw [b181_4]
  simp only [gI13, gR13, pI13, pR13, rv13, k13, if_true, r_isSignW k13 h, Option.bind_some]
  show jR (d + 1) 181 10 [.ref M] [.int 0] μ = _
  rw [b181_10, if_pos rfl]
theorem sum_4W (k13 : jk μ M = 13) (h : jiv μ M 22 = N 1) : jR (d + 1) 180 4 [.ref M] [] μ = some (none, μ) := by
  rw [b180_4]
  simp only [gI13, gR13, pI13, pR13, rv13, k13, if_true, r_isSignW k13 h, Option.bind_some]
  show jR (d + 1) 180 10 [.ref M] [.int 0] μ = _
  rw [b180_10, if_pos rfl]
  simp only [gI13, gR13, pI13, pR13, rv13, k13, if_true, r_isSignW k13 h, Option.bind_some]
  show jR (d + 1) 180 19 [.ref M] [.int 0] μ = _
  rw [b180_19, if_pos rfl]
theorem rl_mul (hK : KK G) (i0 : RM M B bs G n 0) (i3 : RLp M B bs G n 3) : RLp M B bs G (n + 1) 3 := by
  intro dd k w ts T e μ hd hn hk4 h hR
  obtain ⟨d, rfl⟩ : ∃ d, dd = d + 13 := ⟨dd - 13, by omega⟩
  have k13 := h.1.1.k13
  have i42 := r_isSign (d := d + 12) (c := 42) k13 h.1.2.1 h.2.1 (by decide)
  have i42 : jC (d + 12) 179 [.ref M, .int 42] μ = _ := i42
  show ∃ μ', jR (d + 13) 181 4 [.ref M] [] μ = some (none, μ') ∧ _
  rw [b181_4]
  simp only [gI13, gR13, pI13, pR13, rv13, k13, if_true, i42, Option.bind_some]
  show ∃ μ', jR (d + 13) 181 10 [.ref M] [.int (bN (decide (hk ts = 42)))] μ = some (none, μ') ∧ _
  rw [b181_10]
  unfold pP
  by_cases e1 : hk ts = 42
  · rw [if_pos e1, decide_eq_true e1, if_neg (show ¬ bN true = 0 by decide)]
    have tl := h.2.1.tl (show hk ts ≠ 0 by rw [e1]; decide)
    obtain ⟨μ1, c1, S1⟩ := r_sign (d := d + 5) (c := 42) h (by decide)
    rw [if_pos e1, decide_eq_true e1] at S1
    have r1 := S1.2.1 rfl
    have c1 : jC (d + 12) 186 [.ref M, .int 42] μ = some (none, μ1) := c1
    obtain ⟨μ2, c2, S2⟩ := i0 (d + 12) k w ts.tail _ e μ1 (by omega) (by omega) (by omega) r1 (hR.px S1.1)
    have c2 : jC (d + 12) 182 [.ref M] μ1 = some (none, μ2) := c2
    have S2 := re_pre S1.1 S2
    have K2 : jk μ2 M = 13 := by rw [S2.1.1.kk]; exact k13
    have run : jR (d + 13) 181 10 [.ref M] [.int (bN true)] μ = jR (d + 13) 181 4 [.ref M] [] μ2 := by
      rw [b181_10, if_neg (show ¬ bN true = 0 by decide)]
      simp only [gI13, gR13, pI13, pR13, rv13, k13, if_true, c1, Option.bind_some]
      show jR (d + 13) 181 19 [.ref M] [] μ1 = _
      rw [b181_19]
      simp only [gI13, gR13, pI13, pR13, rv13, r1.1.1.k13, if_true, c2, Option.bind_some]
      show jR (d + 13) 181 23 [.ref M] [] μ2 = _
      rw [b181_23]
    rw [b181_10, if_neg (show ¬ bN true = 0 by decide)] at run
    rw [run]
    by_cases ok : (pP (kyG G) n 0 w e ts.tail).1 = true
    · rw [if_pos ok]
      have r2 := S2.2.1 ok
      have eT : T ++ encE e ++ [(N 1, N 42)] ++ encE (pP (kyG G) n 0 w e ts.tail).2.2 = T ++ encE (.mul e (pP (kyG G) n 0 w e ts.tail).2.2) := by
        show _ = T ++ (encE e ++ (N 1, N 42) :: encE (pP (kyG G) n 0 w e ts.tail).2.2)
        simp only [List.append_assoc, List.cons_append, List.nil_append]
      rw [eT] at r2
      have ll := pP_len (n := n) (e := e) hK tl.1 (show w ≤ 4 by omega) (show 0 < 3 by decide)
      obtain ⟨μ3, c3, S3⟩ := i3 (d + 13) k w _ T _ μ2 (by omega) (by omega) (by omega) r2 (hR.px S2.1)
      exact ⟨μ3, c3, re_pre S2.1 S3⟩
    · rw [if_neg ok]
      have f := S2.2.2 (bnot ok)
      exact ⟨μ2, part_4W K2 f.1, RE.no S2.1 f⟩
  · rw [if_neg e1, decide_eq_false e1, if_pos (show bN false = 0 from rfl)]
    exact ⟨μ, rfl, PX.refl, fun _ => h, fun q => by cases q⟩
theorem rm_part (hK : KK G) (i0 : RM M B bs G n 0) (i3 : RLp M B bs G n 3) : RM M B bs G (n + 1) 1 := by
  intro dd k w ts T e μ hd hn hk4 h hR
  obtain ⟨d, rfl⟩ : ∃ d, dd = d + 13 := ⟨dd - 13, by omega⟩
  have k13 := h.1.1.k13
  obtain ⟨μ1, c1, S1⟩ := i0 (d + 12) k w ts T e μ (by omega) (by omega) (by omega) h hR
  have c1 : jC (d + 12) 182 [.ref M] μ = some (none, μ1) := c1
  have K1 : jk μ1 M = 13 := by rw [S1.1.1.kk]; exact k13
  have run : jC (d + 13) 181 [.ref M] μ = jR (d + 13) 181 4 [.ref M] [] μ1 := by
    rw [jC_run (by decide)]
    show jR (d + 13) 181 0 [.ref M] [] μ = _
    rw [b181_0]
    simp only [gI13, gR13, pI13, pR13, rv13, k13, if_true, c1, Option.bind_some]
    rfl
  show ∃ μ', jC (d + 13) 181 [.ref M] μ = some (none, μ') ∧ _
  rw [run]
  unfold pP
  by_cases ok : (pP (kyG G) n 0 w e ts).1 = true
  · rw [if_pos ok]
    have ll := pP_len (n := n) (e := e) hK h.2.1 (show w ≤ 4 by omega) (show 0 < 3 by decide)
    obtain ⟨μ3, c3, S3⟩ := i3 (d + 13) k w _ T _ μ1 (by omega) (by omega) (by omega) (S1.2.1 ok) (hR.px S1.1)
    exact ⟨μ3, c3, re_pre S1.1 S3⟩
  · rw [if_neg ok]
    have f := S1.2.2 (bnot ok)
    exact ⟨μ1, part_4W K1 f.1, RE.no S1.1 f⟩
theorem rl_add (hK : KK G) (i1 : RM M B bs G n 1) (i4 : RLp M B bs G n 4) : RLp M B bs G (n + 1) 4 := by
  intro dd k w ts T e μ hd hn hk4 h hR
  obtain ⟨d, rfl⟩ : ∃ d, dd = d + 14 := ⟨dd - 14, by omega⟩
  have k13 := h.1.1.k13
  have i43 := r_isSign (d := d + 13) (c := 43) k13 h.1.2.1 h.2.1 (by decide)
  have i45 := r_isSign (d := d + 13) (c := 45) k13 h.1.2.1 h.2.1 (by decide)
  have i43 : jC (d + 13) 179 [.ref M, .int 43] μ = _ := i43
  have i45 : jC (d + 13) 179 [.ref M, .int 45] μ = _ := i45
  show ∃ μ', jR (d + 14) 180 4 [.ref M] [] μ = some (none, μ') ∧ _
  have go : ∀ (c : Nat) (f : Ex → Ex → Ex), (c = 43 ∨ c = 45) → hk ts = c → (∀ a b, encE (f a b) = encE a ++ (N 1, N c) :: encE b) → ∃ μ', jR (d + 14) 180 22 [.ref M] [] μ = some (none, μ') ∧ RE M B bs w μ μ' (if (pP (kyG G) n 1 w e ts.tail).1 = true then pP (kyG G) n 4 w (f e (pP (kyG G) n 1 w e ts.tail).2.2) (pP (kyG G) n 1 w e ts.tail).2.1 else (false, (pP (kyG G) n 1 w e ts.tail).2.1, e)).1 (if (pP (kyG G) n 1 w e ts.tail).1 = true then pP (kyG G) n 4 w (f e (pP (kyG G) n 1 w e ts.tail).2.2) (pP (kyG G) n 1 w e ts.tail).2.1 else (false, (pP (kyG G) n 1 w e ts.tail).2.1, e)).2.1 (T ++ encE (if (pP (kyG G) n 1 w e ts.tail).1 = true then pP (kyG G) n 4 w (f e (pP (kyG G) n 1 w e ts.tail).2.2) (pP (kyG G) n 1 w e ts.tail).2.1 else (false, (pP (kyG G) n 1 w e ts.tail).2.1, e)).2.2) := by
    intro c f hc he hf
    have hs : c ∈ signs := by rcases hc with rfl | rfl <;> decide
    have sn := sg_ne hs
    have tl := h.2.1.tl (show hk ts ≠ 0 by omega)
    obtain ⟨f1, f2, -⟩ := h.1.2.1.fit (show hk ts ≠ 1 by omega)
    have q20 : jiv μ M 20 = N c := by
      rcases f2 with ⟨k1, k2⟩ | ⟨k1, k2, k3⟩ | ⟨k1, k2, k3⟩ | ⟨k1, k2, k3⟩ | ⟨k1, k2, k3⟩
      · omega
      · omega
      · rw [k3, he]
      · omega
      · omega
    obtain ⟨μ1, c1, S1⟩ := r_sign (d := d + 6) (c := c) h hs
    rw [if_pos he, decide_eq_true he] at S1
    have r1 := S1.2.1 rfl
    have c1 : jC (d + 13) 186 [.ref M, .int (N c)] μ = some (none, μ1) := c1
    obtain ⟨μ2, c2, S2⟩ := i1 (d + 13) k w ts.tail _ e μ1 (by omega) (by omega) (by omega) r1 (hR.px S1.1)
    have c2 : jC (d + 13) 181 [.ref M] μ1 = some (none, μ2) := c2
    have S2 := re_pre S1.1 S2
    have K2 : jk μ2 M = 13 := by rw [S2.1.1.kk]; exact k13
    have run : jR (d + 14) 180 22 [.ref M] [] μ = jR (d + 14) 180 4 [.ref M] [] μ2 := by
      rw [b180_22]
      simp only [gI13, gR13, pI13, pR13, rv13, k13, if_true, q20, c1, Option.bind_some]
      show jR (d + 14) 180 30 [.ref M] [] μ1 = _
      rw [b180_30]
      simp only [gI13, gR13, pI13, pR13, rv13, r1.1.1.k13, if_true, c2, Option.bind_some]
      show jR (d + 14) 180 34 [.ref M] [] μ2 = _
      rw [b180_34]
    rw [run]
    by_cases ok : (pP (kyG G) n 1 w e ts.tail).1 = true
    · rw [if_pos ok]
      have r2 := S2.2.1 ok
      have eT : T ++ encE e ++ [(N 1, N c)] ++ encE (pP (kyG G) n 1 w e ts.tail).2.2 = T ++ encE (f e (pP (kyG G) n 1 w e ts.tail).2.2) := by
        rw [hf]
        simp only [List.append_assoc, List.cons_append, List.nil_append]
      rw [eT] at r2
      have ll := pP_len (n := n) (e := e) hK tl.1 (show w ≤ 4 by omega) (show 1 < 3 by decide)
      obtain ⟨μ3, c3, S3⟩ := i4 (d + 14) k w _ T _ μ2 (by omega) (by omega) (by omega) r2 (hR.px S2.1)
      exact ⟨μ3, c3, re_pre S2.1 S3⟩
    · rw [if_neg ok]
      have f := S2.2.2 (bnot ok)
      exact ⟨μ2, sum_4W K2 f.1, RE.no S2.1 f⟩
  rw [b180_4]
  simp only [gI13, gR13, pI13, pR13, rv13, k13, if_true, i43, Option.bind_some]
  show ∃ μ', jR (d + 14) 180 10 [.ref M] [.int (bN (decide (hk ts = 43)))] μ = some (none, μ') ∧ _
  rw [b180_10]
  unfold pP
  by_cases e1 : hk ts = 43
  · rw [if_pos e1, decide_eq_true e1, if_neg (show ¬ bN true = 0 by decide)]
    exact go 43 .add (Or.inl rfl) e1 (fun _ _ => rfl)
  · rw [if_neg e1, decide_eq_false e1, if_pos (show bN false = 0 from rfl)]
    simp only [gI13, gR13, pI13, pR13, rv13, k13, if_true, i45, Option.bind_some]
    show ∃ μ', jR (d + 14) 180 19 [.ref M] [.int (bN (decide (hk ts = 45)))] μ = some (none, μ') ∧ _
    rw [b180_19]
    by_cases e2 : hk ts = 45
    · rw [if_pos e2, decide_eq_true e2, if_neg (show ¬ bN true = 0 by decide)]
      exact go 45 .sub (Or.inr rfl) e2 (fun _ _ => rfl)
    · rw [if_neg e2, decide_eq_false e2, if_pos (show bN false = 0 from rfl)]
      exact ⟨μ, rfl, PX.refl, fun _ => h, fun q => by cases q⟩
theorem rm_sum (hK : KK G) (i1 : RM M B bs G n 1) (i4 : RLp M B bs G n 4) : RM M B bs G (n + 1) 2 := by
  intro dd k w ts T e μ hd hn hk4 h hR
  obtain ⟨d, rfl⟩ : ∃ d, dd = d + 14 := ⟨dd - 14, by omega⟩
  have k13 := h.1.1.k13
  obtain ⟨μ1, c1, S1⟩ := i1 (d + 13) k w ts T e μ (by omega) (by omega) (by omega) h hR
  have c1 : jC (d + 13) 181 [.ref M] μ = some (none, μ1) := c1
  have K1 : jk μ1 M = 13 := by rw [S1.1.1.kk]; exact k13
  have run : jC (d + 14) 180 [.ref M] μ = jR (d + 14) 180 4 [.ref M] [] μ1 := by
    rw [jC_run (by decide)]
    show jR (d + 14) 180 0 [.ref M] [] μ = _
    rw [b180_0]
    simp only [gI13, gR13, pI13, pR13, rv13, k13, if_true, c1, Option.bind_some]
    rfl
  show ∃ μ', jC (d + 14) 180 [.ref M] μ = some (none, μ') ∧ _
  rw [run]
  unfold pP
  by_cases ok : (pP (kyG G) n 1 w e ts).1 = true
  · rw [if_pos ok]
    have ll := pP_len (n := n) (e := e) hK h.2.1 (show w ≤ 4 by omega) (show 1 < 3 by decide)
    obtain ⟨μ3, c3, S3⟩ := i4 (d + 14) k w _ T _ μ1 (by omega) (by omega) (by omega) (S1.2.1 ok) (hR.px S1.1)
    exact ⟨μ3, c3, re_pre S1.1 S3⟩
  · rw [if_neg ok]
    have f := S1.2.2 (bnot ok)
    exact ⟨μ1, sum_4W K1 f.1, RE.no S1.1 f⟩
theorem rm_all (hK : KK G) : ∀ n, RM M B bs G n 0 ∧ RM M B bs G n 1 ∧ RM M B bs G n 2 ∧ RLp M B bs G n 3 ∧ RLp M B bs G n 4
  | 0 => by
    have lp : ∀ ts : List T3, GTS ts → 1 ≤ ts.length := fun ts h => h.hd.2.2.2.2
    refine ⟨fun dd k w ts T e μ hd hn => ?_, fun dd k w ts T e μ hd hn => ?_, fun dd k w ts T e μ hd hn => ?_, fun dd k w ts T e μ hd hn => ?_, fun dd k w ts T e μ hd hn => ?_⟩
    · omega
    · omega
    · omega
    · omega
    · omega
  | n + 1 => by
    obtain ⟨i0, i1, i2, i3, i4⟩ := rm_all hK n
    exact ⟨rm_one hK i0 i2, rm_part hK i0 i3, rm_sum hK i1 i4, rl_mul hK i0 i3, rl_add hK i1 i4⟩
end LEX
