/-! THE REFERENCE's READER: a content, whole -/
section LEX
variable {μ μ' μ'' : jM} {M B d i j k a t c n w w' b : Nat} {bs r A R s ds ws l : List Nat} {v x y : Int32} {ts ts' : List T3} {T : List (Int32 × Int32)} {ok : Bool} {G : DG} {e : Ex} {ky : Nat → Nat} {σ : SG}
theorem r_readContent (h : LB μ M B bs) (hR : RG' μ M G) (hK : KK G) : ∃ μ1 kk, jC (d + 32) 172 [.ref M] μ = some (some (.int kk), jsetI μ1 M 16 (N 0)) ∧ PX M μ μ1 ∧ ((pTx (kyG G) (lexx 40 0 bs)).1 = true → jiv μ1 M 22 = N 0 ∧ kk = N (pTx (kyG G) (lexx 40 0 bs)).2.2.1 ∧ ((pTx (kyG G) (lexx 40 0 bs)).2.2.1 = 1 → jiv μ1 M 26 = (pTx (kyG G) (lexx 40 0 bs)).2.2.2.1) ∧ ∃ T : List (Int32 × Int32), jiv μ1 M 23 = N (2 * T.length) ∧ T.length ≤ 40 ∧ (∀ i x, T[i]? = some x → jiv μ1 (M + 400) (2 * i) = x.1 ∧ jiv μ1 (M + 400) (2 * i + 1) = x.2) ∧ ((pTx (kyG G) (lexx 40 0 bs)).2.2.1 = 2 → T = encE (pTx (kyG G) (lexx 40 0 bs)).2.2.2.2)) ∧ ((pTx (kyG G) (lexx 40 0 bs)).1 = false → RW' μ1 M (hs (pTx (kyG G) (lexx 40 0 bs)).2.1)) := by
  have k13 := h.k13
  have h40 := h.len
  have gL := (gts_lexx 40 0 bs (by omega)).1
  have lL := lexx_len 40 0 bs
  -- the reader made ready
  have F1 : PX M μ (jsetI μ M 17 (N 0)) := PX.set (by omega)
  have k1 : jk (jsetI μ M 17 (N 0)) M = 13 := k13
  have p1 : jpI μ 13 17 0 (.ref M) 0 = some (jsetI μ M 17 (N 0)) := by
    simp only [gI13, gR13, pI13, pR13, rv13, k13, jfit0, if_true, and_true]; rfl
  have a17 : jiv (jsetI μ M 17 (N 0)) M 17 = N 0 := if_pos ⟨rfl, rfl⟩
  generalize jsetI μ M 17 (N 0) = m1 at *
  have F2 : PX M m1 (jsetI m1 M 21 (N 0)) := PX.set (by omega)
  have k2 : jk (jsetI m1 M 21 (N 0)) M = 13 := k1
  have p2 : jpI m1 13 21 0 (.ref M) 0 = some (jsetI m1 M 21 (N 0)) := by
    simp only [gI13, gR13, pI13, pR13, rv13, k1, jfit0, if_true, and_true]; rfl
  have b17 : jiv (jsetI m1 M 21 (N 0)) M 17 = N 0 := (ivj (by decide)).trans a17
  have b21 : jiv (jsetI m1 M 21 (N 0)) M 21 = N 0 := if_pos ⟨rfl, rfl⟩
  generalize jsetI m1 M 21 (N 0) = m2 at *
  have F3 : PX M m2 (jsetI m2 M 22 (N 0)) := PX.set (by omega)
  have k3 : jk (jsetI m2 M 22 (N 0)) M = 13 := k2
  have p3 : jpI m2 13 22 2 (.ref M) 0 = some (jsetI m2 M 22 (N 0)) := by
    have : jfit 2 0 = true := rfl
    simp only [gI13, gR13, pI13, pR13, rv13, k2, this, if_true, and_true]; rfl
  have c17 : jiv (jsetI m2 M 22 (N 0)) M 17 = N 0 := (ivj (by decide)).trans b17
  have c21 : jiv (jsetI m2 M 22 (N 0)) M 21 = N 0 := (ivj (by decide)).trans b21
  have c22 : jiv (jsetI m2 M 22 (N 0)) M 22 = N 0 := if_pos ⟨rfl, rfl⟩
  generalize jsetI m2 M 22 (N 0) = m3 at *
  have F4 : PX M m3 (jsetI m3 M 23 (N 0)) := PX.set (by omega)
  have k4 : jk (jsetI m3 M 23 (N 0)) M = 13 := k3
  have p4 : jpI m3 13 23 0 (.ref M) 0 = some (jsetI m3 M 23 (N 0)) := by
    simp only [gI13, gR13, pI13, pR13, rv13, k3, jfit0, if_true, and_true]; rfl
  have d17 : jiv (jsetI m3 M 23 (N 0)) M 17 = N 0 := (ivj (by decide)).trans c17
  have d21 : jiv (jsetI m3 M 23 (N 0)) M 21 = N 0 := (ivj (by decide)).trans c21
  have d22 : jiv (jsetI m3 M 23 (N 0)) M 22 = N 0 := (ivj (by decide)).trans c22
  have d23 : jiv (jsetI m3 M 23 (N 0)) M 23 = N 0 := if_pos ⟨rfl, rfl⟩
  generalize jsetI m3 M 23 (N 0) = m4 at *
  have F04 := ((F1.trans F2).trans F3).trans F4
  have h4 := h.px F04
  obtain ⟨m5, c5, F5, t5⟩ := r_next (d := d + 25) (A := []) (r := bs) (n := 40) h4 d17 d22 h40
  have c5 : jC (d + 31) 173 [.ref M] m4 = some (none, m5) := c5
  have t5 : TS m5 M bs (lexx 40 0 bs) := t5
  have rd : RD m5 M B bs (lexx 40 0 bs) 0 [] := ⟨⟨h4.nx F5, t5, by rw [F5.2 21 (by omega) (by decide)]; exact d21, by rw [F5.2 23 (by omega) (by decide)]; exact d23, fun i x hx => by
    have hx : ([] : List (Int32 × Int32))[i]? = some x := hx
    simp at hx⟩, gL, by rw [List.length_nil]; omega⟩
  have F05 := F04.trans F5.px
  have hR5 := hR.px F05
  have k5 := rd.1.1.k13
  have i61 := r_isSign (d := d + 31) (c := 61) k5 t5 gL (by decide)
  have i61 : jC (d + 31) 179 [.ref M, .int 61] m5 = _ := i61
  have i45 := r_isSign (d := d + 31) (c := 45) k5 t5 gL (by decide)
  have i45 : jC (d + 31) 179 [.ref M, .int 45] m5 = _ := i45
  have st : jC (d + 32) 172 [.ref M] μ = jR (d + 32) 172 32 [.ref M, .int 0, .retAddr 0] [.int (bN (decide (hk (lexx 40 0 bs) = 61)))] m5 := by
    rw [jC_run (by decide)]
    show jR (d + 32) 172 0 [.ref M, .retAddr 0, .retAddr 0] [] μ = _
    rw [b172_0, p1]
    simp only [Option.bind_some]
    rw [p2]
    simp only [Option.bind_some]
    rw [p3]
    simp only [Option.bind_some]
    rw [p4]
    simp only [gI13, gR13, pI13, pR13, rv13, k4, if_true, c5, Option.bind_some]
    show jR (d + 32) 172 24 [.ref M, .retAddr 0, .retAddr 0] [] m5 = _
    rw [b172_24]
    simp only [gI13, gR13, pI13, pR13, rv13, k5, if_true, i61, Option.bind_some]
    rfl
  rw [st, b172_32]
  generalize hL : lexx 40 0 bs = L at *
  have emp : ∀ (μ1 : jM), RD μ1 M B bs L 0 [] → ∃ T : List (Int32 × Int32), jiv μ1 M 23 = N (2 * T.length) ∧ T.length ≤ 40 ∧ (∀ i x, T[i]? = some x → jiv μ1 (M + 400) (2 * i) = x.1 ∧ jiv μ1 (M + 400) (2 * i + 1) = x.2) := fun μ1 q => ⟨[], q.1.2.2.2.1, by decide, q.1.2.2.2.2⟩
  unfold pTx
  by_cases e61 : hk L = 61
  · -- a formula
    rw [if_neg (show ¬ hk L = 0 by omega), if_pos e61, decide_eq_true e61, if_neg (show ¬ bN true = 0 by decide)]
    have tl := gL.tl (show hk L ≠ 0 by omega)
    obtain ⟨m6, c6, F6, r6⟩ := rd_next (d := d + 25) rd.1 gL (by rw [List.length_nil]; omega) (by omega) (by omega)
    have c6 : jC (d + 31) 173 [.ref M] m5 = some (none, m6) := c6
    obtain ⟨m7, c7, S7⟩ := (rm_all (M := M) (B := B) (bs := bs) hK 200).2.2.1 (d + 31) 4 0 L.tail [] (.natCast 0) m6 (by omega) (by omega) (by omega) r6 (hR5.px F6)
    have c7 : jC (d + 31) 180 [.ref M] m6 = some (none, m7) := c7
    rw [List.nil_append] at S7
    have k7 : jk m7 M = 13 := by rw [S7.1.1.kk]; exact r6.1.1.k13
    have run : ∀ R, jR (d + 32) 172 127 [.ref M, .int 2, .retAddr 0] [] m7 = R → (if jrecv m5 13 (.ref M) = true then (jC (d + 31) 173 [.ref M] m5).bind fun p4 => jR (d + 32) 172 39 [.ref M, .int 0, .retAddr 0] (p4.1.toList ++ []) p4.2 else none) = R := fun R q => by
      simp only [gI13, gR13, pI13, pR13, rv13, k5, if_true, c6, Option.bind_some]
      show jR (d + 32) 172 39 [.ref M, .int 0, .retAddr 0] [] m6 = _
      rw [b172_39]
      simp only [gI13, gR13, pI13, pR13, rv13, r6.1.1.k13, if_true, c7, Option.bind_some]
      show jR (d + 32) 172 43 [.ref M, .int 0, .retAddr 0] [] m7 = _
      rw [b172_43]
      exact q
    have FF := (F05.trans F6).trans S7.1
    by_cases ok : (pP (kyG G) 200 2 0 (.natCast 0) L.tail).1 = true
    · have r7 := S7.2.1 ok
      obtain ⟨μ1, c8, F8, z1, z2⟩ := c_127 (d := d) (kk := 2) (u2 := .retAddr 0) r7
      refine ⟨μ1, 2, run _ c8, FF.trans F8, fun q => ?_, fun q => ?_⟩
      · have q : ((pP (kyG G) 200 2 0 (.natCast 0) L.tail).1 && decide (hk (pP (kyG G) 200 2 0 (.natCast 0) L.tail).2.1 = 0)) = true := q
        rw [Bool.and_eq_true] at q
        have q0 := of_decide_eq_true q.2
        have := z1 q0
        subst this
        have r := r7.1
        have f := (r.2.1.fit (by rw [q0]; decide)).1
        have ln := r7.2.1.hd.2.2.2.2
        exact ⟨f, rfl, (fun q => absurd q (show ¬ (2 : Nat) = 1 by decide)), _, r.2.2.2.1, by have := r7.2.2; omega, r.2.2.2.2, fun _ => rfl⟩
      · have q : ((pP (kyG G) 200 2 0 (.natCast 0) L.tail).1 && decide (hk (pP (kyG G) 200 2 0 (.natCast 0) L.tail).2.1 = 0)) = false := q
        rw [ok, Bool.true_and] at q
        exact z2 (of_decide_eq_false q)
    · have f := S7.2.2 (bnot ok)
      obtain ⟨μ1, c8, W⟩ := c_127W (d := d) (kk := 2) (u2 := .retAddr 0) k7 f.1
      refine ⟨μ1, 2, run _ c8, FF.trans W.1, fun q => ?_, fun _ => W.to f⟩
      have q : ((pP (kyG G) 200 2 0 (.natCast 0) L.tail).1 && decide (hk (pP (kyG G) 200 2 0 (.natCast 0) L.tail).2.1 = 0)) = true := q
      rw [Bool.and_eq_true] at q
      exact absurd q.1 ok
  · rw [decide_eq_false e61, if_pos (show bN false = 0 from rfl)]
    by_cases e0 : hk L = 0
    · -- nothing
      rw [if_pos e0]
      obtain ⟨f1, f2, -⟩ := t5.fit (by rw [e0]; decide)
      have q : jiv m5 M 19 = N 0 := by
        rcases f2 with ⟨k1, k2⟩ | ⟨k1, k2, k3⟩ | ⟨k1, k2, k3⟩ | ⟨k1, k2, k3⟩ | ⟨k1, k2, k3⟩
        · exact k2
        · rw [e0] at k1; exact absurd k1 (by decide)
        · rw [e0] at k1; exact absurd k1 (by decide)
        · rw [e0] at k1; exact absurd k1 (by decide)
        · rw [e0] at k1; exact absurd k1 (by decide)
      obtain ⟨μ1, c8, F8, z1, z2⟩ := c_127 (d := d) (kk := 0) (u2 := .retAddr 0) rd
      have := z1 e0
      subst this
      obtain ⟨T, t1, t2, t3⟩ := emp _ rd
      refine ⟨μ1, 0, ?_, F05.trans F8, fun _ => ⟨f1, rfl, (fun q => absurd q (show ¬ (0 : Nat) = 1 by decide)), T, t1, t2, t3, fun q => absurd q (show ¬ (0 : Nat) = 2 by decide)⟩, fun q => by cases q⟩
      simp only [gI13, gR13, pI13, pR13, rv13, k5, if_true, f1, q, Option.bind_some]
      rw [if_pos (show N 0 = 0 from rfl), if_pos (show N 0 = 0 from rfl)]
      exact c8
    · rw [if_neg e0, if_neg e61]
      rcases t5.2 with ⟨u1, u2⟩ | ⟨u1, u2, -⟩
      · -- unfit
        obtain ⟨μ1, c8, W⟩ := c_127W (d := d) (kk := 0) (u2 := .retAddr 0) k5 u2
        rw [if_neg (show ¬ hk L = 45 by omega), if_neg (show ¬ hk L = 48 by omega)]
        refine ⟨μ1, 0, ?_, F05.trans W.1, (fun q => by cases q), fun _ => W.to ⟨u2, t5.1⟩⟩
        simp only [gI13, gR13, pI13, pR13, rv13, k5, if_true, u2, Option.bind_some]
        rw [if_neg (show ¬ N 1 = 0 by decide)]
        exact c8
      · have n19 : ¬ jiv m5 M 19 = 0 := by
          show ¬ jiv m5 M 19 = N 0
          rcases u2 with ⟨k1, k2⟩ | ⟨k1, k2, k3⟩ | ⟨k1, k2, k3⟩ | ⟨k1, k2, k3⟩ | ⟨k1, k2, k3⟩
          · exact absurd k1 e0
          · rw [k2]; decide
          · rw [k2]; decide
          · rw [k2]; decide
          · rw [k2]; decide
        have e68 : (jgI m5 13 22 (.ref M)).bind (fun x1 => if x1 = 0 then (jgI m5 13 19 (.ref M)).bind fun x2 => (if x2 = 0 then jR (d + 32) 172 127 [.ref M, .int 0, .retAddr 0] [] m5 else (if jrecv m5 13 (.ref M) = true then (jC (d + 31) 179 [.ref M, .int 45] m5).bind fun p3 => jR (d + 32) 172 68 [.ref M, .int 0, .retAddr 0] (p3.1.toList ++ []) p3.2 else none)) else jR (d + 32) 172 127 [.ref M, .int 0, .retAddr 0] [] m5) = jR (d + 32) 172 68 [.ref M, .int 0, .retAddr 0] [.int (bN (decide (hk L = 45)))] m5 := by
          simp only [gI13, gR13, pI13, pR13, rv13, k5, if_true, u1, Option.bind_some]
          rw [if_pos (show N 0 = 0 from rfl), if_neg n19, i45]
          rfl
        by_cases e45 : hk L = 45
        · rw [if_pos e45]
          have tl := gL.tl (show hk L ≠ 0 by omega)
          obtain ⟨m6, c6, F6, r6⟩ := rd_next (d := d + 25) rd.1 gL (by rw [List.length_nil]; omega) (by omega) (by omega)
          have c6 : jC (d + 31) 173 [.ref M] m5 = some (none, m6) := c6
          obtain ⟨μ1, c8, F8, z1, z2, z3⟩ := c_77 (d := d) (i2 := bN true) (u1 := .int 0) r6
          refine ⟨μ1, 1, e68.trans ?_, (F05.trans F6).trans F8, fun q => ?_, fun q => ?_⟩
          · rw [b172_68, decide_eq_true e45, if_neg (show ¬ bN true = 0 by decide)]
            simp only [gI13, gR13, pI13, pR13, rv13, k5, if_true, c6, Option.bind_some]
            exact c8
          · by_cases e48 : hk L.tail = 48
            · rw [if_pos e48] at q ⊢
              obtain ⟨y1, y2, y3⟩ := z1 ⟨e48, of_decide_eq_true q⟩
              rw [if_neg (show ¬ bN true = 0 by decide)] at y2
              exact ⟨y1, rfl, fun _ => y2, [], y3.1.2.2.2.1, by decide, y3.1.2.2.2.2, fun q => absurd q (show ¬ (1 : Nat) = 2 by decide)⟩
            · rw [if_neg e48] at q; cases q
          · by_cases e48 : hk L.tail = 48
            · rw [if_pos e48] at q ⊢
              exact z2 ⟨e48, of_decide_eq_false q⟩
            · rw [if_neg e48]
              exact z3 e48
        · rw [if_neg e45]
          obtain ⟨μ1, c8, F8, z1, z2, z3⟩ := c_77 (d := d) (i2 := bN false) (u1 := .int 0) rd
          refine ⟨μ1, 1, e68.trans ?_, F05.trans F8, fun q => ?_, fun q => ?_⟩
          · rw [b172_68, decide_eq_false e45, if_pos (show bN false = 0 from rfl)]
            exact c8
          · by_cases e48 : hk L = 48
            · rw [if_pos e48] at q ⊢
              obtain ⟨y1, y2, y3⟩ := z1 ⟨e48, of_decide_eq_true q⟩
              rw [if_pos (show bN false = 0 from rfl)] at y2
              exact ⟨y1, rfl, fun _ => y2, [], y3.1.2.2.2.1, by decide, y3.1.2.2.2.2, fun q => absurd q (show ¬ (1 : Nat) = 2 by decide)⟩
            · rw [if_neg e48] at q; cases q
          · by_cases e48 : hk L = 48
            · rw [if_pos e48] at q ⊢
              exact z2 ⟨e48, of_decide_eq_false q⟩
            · rw [if_neg e48]
              exact z3 e48
end LEX
