/-! THE REFERENCE's READER: a range -/
section LEX
variable {μ μ' μ'' : jM} {M B d i j k a t c n w w' b : Nat} {bs r A R s ds ws l : List Nat} {v x y : Int32} {ts ts' : List T3} {T : List (Int32 × Int32)} {ok : Bool} {G : DG} {e : Ex}
theorem wc_lt {k : Nat} : wcode k < 4 := by
  unfold wcode
  split
  · decide
  · split
    · decide
    · split <;> decide
theorem enc_num {q a b : Nat} (hq : q < 4) (ha : a < 1000) (hb : b < 1000) : encE (.num ((q * 1000000 + a * 1000 + b : Nat) : Int)) = [(N 2, N q), (N 1, N 40), (N 3, N a), (N 1, N 58), (N 3, N b), (N 1, N 41)] := by
  show [(N 2, N (((q * 1000000 + a * 1000 + b : Nat) : Int).toNat / 1000000)), (N 1, N 40), (N 3, N (((q * 1000000 + a * 1000 + b : Nat) : Int).toNat / 1000 % 1000)), (N 1, N 58), (N 3, N (((q * 1000000 + a * 1000 + b : Nat) : Int).toNat % 1000)), (N 1, N 41)] = _
  rw [Int.toNat_natCast, show (q * 1000000 + a * 1000 + b) / 1000000 = q by omega, show (q * 1000000 + a * 1000 + b) / 1000 % 1000 = a by omega, show (q * 1000000 + a * 1000 + b) % 1000 = b by omega]
/-- from the word on -/
theorem r_rng (h : RD μ M B bs ts w T) (hR : RG' μ M G) (hK : KK G) (h1 : hk ts = 116 ∨ hk ts = 109 ∨ hk ts = 108 ∨ hk ts = 110) : ∃ μ1 μ', jC (d + 8) 183 [.ref M, .int 2, .int (N (wcode (hk ts)))] μ = some (none, μ1) ∧ jR (d + 9) 182 127 [.ref M] [] μ1 = some (none, μ') ∧ RE M B bs w μ μ' (pRng (kyG G) e ts).1 (pRng (kyG G) e ts).2.1 (T ++ encE (pRng (kyG G) e ts).2.2) := by
  have n1 : hk ts ≠ 1 := by omega
  have n0 : hk ts ≠ 0 := by omega
  obtain ⟨μ1, μ2, c1, k1, c2, F2, r2⟩ := rd_take (d := d + 8) (k := d + 2) (x := N 2) (y := N (wcode (hk ts))) h n1 n0
  refine ⟨μ1, ?_⟩
  have c1 : jC (d + 8) 183 [.ref M, .int 2, .int (N (wcode (hk ts)))] μ = some (none, μ1) := c1
  obtain ⟨μ3, c3, S3⟩ := r_sign (d := d + 1) (c := 40) r2 (by decide)
  have e127 : jR (d + 9) 182 127 [.ref M] [] μ1 = jR (d + 9) 182 137 [.ref M] [] μ3 := by
    rw [b182_127]
    simp only [gI13, gR13, pI13, pR13, rv13, k1, if_true, c2, Option.bind_some]
    show jR (d + 9) 182 131 [.ref M] [] μ2 = _
    have c3 : jC (d + 8) 186 [.ref M, .int 40] μ2 = some (none, μ3) := c3
    rw [b182_131]
    simp only [gI13, gR13, pI13, pR13, rv13, r2.1.1.k13, if_true, c3, Option.bind_some]
    rfl
  rw [e127]
  have S3 := re_pre F2 S3
  have K3 : jk μ3 M = 13 := by rw [S3.1.1.kk]; exact h.1.1.k13
  unfold pRng
  by_cases e1 : hk ts.tail = 40
  · rw [if_pos e1, decide_eq_true e1] at S3
    rw [if_pos e1]
    have r3 := S3.2.1 rfl
    obtain ⟨μ4, c4, S4⟩ := r_ref (d := d) r3 (hR.px S3.1) hK
    have S4 := re_pre S3.1 S4
    have K4 : jk μ4 M = 13 := by rw [S4.1.1.kk]; exact h.1.1.k13
    have e137 : jR (d + 9) 182 137 [.ref M] [] μ3 = jR (d + 9) 182 141 [.ref M] [] μ4 := by
      rw [b182_137]
      simp only [gI13, gR13, pI13, pR13, rv13, K3, if_true, c4, Option.bind_some]
      rfl
    rw [e137]
    by_cases e2 : (pRef (kyG G) ts.tail.tail).1 = true
    · rw [if_pos e2]
      have r4 := S4.2.1 e2
      obtain ⟨μ5, c5, S5⟩ := r_sign (d := d + 1) (c := 58) r4 (by decide)
      have S5 := re_pre S4.1 S5
      have K5 : jk μ5 M = 13 := by rw [S5.1.1.kk]; exact h.1.1.k13
      have e141 : jR (d + 9) 182 141 [.ref M] [] μ4 = jR (d + 9) 182 147 [.ref M] [] μ5 := by
        have c5 : jC (d + 8) 186 [.ref M, .int 58] μ4 = some (none, μ5) := c5
        rw [b182_141]
        simp only [gI13, gR13, pI13, pR13, rv13, K4, if_true, c5, Option.bind_some]
        rfl
      rw [e141]
      by_cases e3 : hk (pRef (kyG G) ts.tail.tail).2.1 = 58
      · rw [if_pos e3, decide_eq_true e3] at S5
        rw [if_pos e3]
        have r5 := S5.2.1 rfl
        obtain ⟨μ6, c6, S6⟩ := r_ref (d := d) r5 (hR.px S5.1) hK
        have S6 := re_pre S5.1 S6
        have K6 : jk μ6 M = 13 := by rw [S6.1.1.kk]; exact h.1.1.k13
        have e147 : jR (d + 9) 182 147 [.ref M] [] μ5 = jR (d + 9) 182 151 [.ref M] [] μ6 := by
          rw [b182_147]
          simp only [gI13, gR13, pI13, pR13, rv13, K5, if_true, c6, Option.bind_some]
          rfl
        rw [e147]
        by_cases e4 : (pRef (kyG G) (pRef (kyG G) ts.tail.tail).2.1.tail).1 = true
        · rw [if_pos e4]
          have r6 := S6.2.1 e4
          obtain ⟨μ7, c7, S7⟩ := r_sign (d := d + 1) (c := 41) r6 (by decide)
          have S7 := re_pre S6.1 S7
          have e151 : jR (d + 9) 182 151 [.ref M] [] μ6 = some (none, μ7) := by
            have c7 : jC (d + 8) 186 [.ref M, .int 41] μ6 = some (none, μ7) := c7
            rw [b182_151]
            simp only [gI13, gR13, pI13, pR13, rv13, K6, if_true, c7, Option.bind_some]
            show jR (d + 9) 182 157 [.ref M] [] μ7 = _
            rw [b182_157, b182_164]
          by_cases e5 : hk (pRef (kyG G) (pRef (kyG G) ts.tail.tail).2.1.tail).2.1 = 41
          · rw [if_pos e5, decide_eq_true e5] at S7
            rw [if_pos e5]
            have ok1 := ((pRef_ok (kyG_lt hK) r3.2.1).2.1 e2).1
            have ok2 := ((pRef_ok (kyG_lt hK) r5.2.1).2.1 e4).1
            refine ⟨μ7, c1, e151, ?_⟩
            show RE M B bs w μ μ7 true _ (T ++ encE (.num _))
            rw [enc_num wc_lt (rK_lt ok1) (rK_lt ok2)]
            have eT : T ++ [(N 2, N (wcode (hk ts))), (N 1, N 40), (N 3, N (pRef (kyG G) ts.tail.tail).2.2), (N 1, N 58), (N 3, N (pRef (kyG G) (pRef (kyG G) ts.tail.tail).2.1.tail).2.2), (N 1, N 41)] = T ++ [(N 2, N (wcode (hk ts)))] ++ [(N 1, N 40)] ++ [(N 3, N (pRef (kyG G) ts.tail.tail).2.2)] ++ [(N 1, N 58)] ++ [(N 3, N (pRef (kyG G) (pRef (kyG G) ts.tail.tail).2.1.tail).2.2)] ++ [(N 1, N 41)] := by
              simp only [List.append_assoc, List.cons_append, List.nil_append]
            rw [eT]
            exact S7
          · rw [if_neg e5, decide_eq_false e5] at S7
            rw [if_neg e5]
            exact ⟨μ7, c1, e151, RE.no S7.1 (S7.2.2 rfl)⟩
        · rw [if_neg e4]
          have f6 := S6.2.2 (by cases q : (pRef (kyG G) (pRef (kyG G) ts.tail.tail).2.1.tail).1 with
            | true => exact absurd q e4
            | false => rfl)
          obtain ⟨μ7, c7, W⟩ := rng_151W (d := d) K6 f6.1
          exact ⟨μ7, c1, c7, RE.no (S6.1.trans W.1) (W.to f6)⟩
      · rw [if_neg e3, decide_eq_false e3] at S5
        rw [if_neg e3]
        have f5 := S5.2.2 rfl
        obtain ⟨μ6, c6, W⟩ := rng_147W (d := d) K5 f5.1
        exact ⟨μ6, c1, c6, RE.no (S5.1.trans W.1) (W.to f5)⟩
    · rw [if_neg e2]
      have f4 := S4.2.2 (by cases q : (pRef (kyG G) ts.tail.tail).1 with
        | true => exact absurd q e2
        | false => rfl)
      obtain ⟨μ5, c5, W⟩ := rng_141W (d := d) K4 f4.1
      exact ⟨μ5, c1, c5, RE.no (S4.1.trans W.1) (W.to f4)⟩
  · rw [if_neg e1, decide_eq_false e1] at S3
    rw [if_neg e1]
    have f3 := S3.2.2 rfl
    obtain ⟨μ4, c4, W⟩ := rng_137W (d := d) K3 f3.1
    exact ⟨μ4, c1, c4, RE.no (S3.1.trans W.1) (W.to f3)⟩
end LEX
