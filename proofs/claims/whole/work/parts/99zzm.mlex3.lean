/-! THE REFERENCE's READER: its tokens -/
section LEX
variable {μ μ' μ'' : jM} {M B d i j k a t c n w lo hi : Nat} {bs r A R s ds ws l : List Nat} {v x : Int32}
theorem lt_iff : (isLt c = true) = (97 ≤ c ∧ c ≤ 122) := by
  unfold isLt
  simp
theorem dg_iff : (isDg c = true) = (48 ≤ c ∧ c ≤ 57) := by
  unfold isDg
  simp
theorem tok1_lt (h : isLt c = true) : tok1 c l = if ((c :: l).takeWhile isLt).length = 1 ∧ c < 100 then (97, c - 97, 1) else (wkind ((c :: l).takeWhile isLt), 0, ((c :: l).takeWhile isLt).length) := by
  unfold tok1
  rw [if_neg (by rw [dg_iff]; rw [lt_iff] at h; omega), if_pos h]
/-- a word -/
theorem r_word (h : LB μ M B (A ++ (c :: l))) (hc : isLt c = true) (h7 : jiv μ M 17 = N A.length) (h8 : jiv μ M 18 = N A.length) (h2 : jiv μ M 22 = N 0) : ∃ μ', jC (d + 5) 175 [.ref M] μ = some (none, μ') ∧ NX M μ μ' ∧ jiv μ' M 18 = N A.length ∧ TokS μ' M (tok1 c l).1 (tok1 c l).2.1 ∧ jiv μ' M 17 = N (A.length + (tok1 c l).2.2) := by
  have h40 := h.len
  rw [List.length_append] at h40
  have hlen : ((c :: l).takeWhile isLt).length ≤ (c :: l).length := (List.takeWhile_prefix isLt).length_le
  have hpos : 1 ≤ ((c :: l).takeWhile isLt).length := by
    rw [List.takeWhile_cons, if_pos hc]
    exact Nat.succ_pos _
  have hc2 := hc
  rw [lt_iff] at hc2
  obtain ⟨μ1, s1, F1, g7, g8, g9, g2⟩ := wd_loop (d := d + 4) (c :: l) A μ h h7
  have h1 := h.nx F1
  rw [h8] at g8
  rw [h2] at g2
  have st : jC (d + 5) 175 [.ref M] μ = jR (d + 5) 175 38 [.ref M, .int (N 0)] [] μ1 := by
    rw [jC_run (by decide)]
    exact s1
  rw [st]
  have k13 := h1.k13
  have hA2 : A ++ (c :: l) = A ++ ((c :: l).takeWhile isLt ++ (c :: l).dropWhile isLt) := by rw [List.takeWhile_append_dropWhile]
  rw [tok1_lt hc]
  generalize hws : (c :: l).takeWhile isLt = ws at *
  have step : ∀ (w : Nat) (s : List Nat), w < 4 → kw (16 + w) = some s → tkp ([] : DG) (wT w, N 0, N 0) = s → jR (d + 5) 175 38 [.ref M, .int (N w)] [] μ1 = if ws = s then some (none, jsetI μ1 M 20 (N w)) else jR (d + 5) 175 38 [.ref M, .int (N (w + 1))] [] μ1 := by
    intro w s hw hk hs
    obtain ⟨b, tb, c1, st1⟩ := r_wordOf (d := d + 4) (G := []) h1.2.2.1 hw
    rw [hs] at st1
    have it := r_isText (d := d) (A := A) (ws := ws) (R := (c :: l).dropWhile isLt) (by rw [← hA2]; exact h1) st1 g7 g8
    rw [b175_38, if_pos (show N w < 4 by show N w < N 4; rw [N_lt (by omega) (by decide)]; exact hw), c1]
    show jR (d + 5) 175 48 [.ref M, .int (N w)] [.ref b, .ref M] μ1 = _
    rw [b175_48 (hs0 := ir_ref) (hs1 := ir_ref)]
    simp only [gI13, gR13, pI13, pR13, rv13, k13, if_true, it, Option.bind_some]
    show jR (d + 5) 175 51 [.ref M, .int (N w)] [.int (bN (decide (ws = s)))] μ1 = _
    rw [b175_51]
    by_cases e : ws = s
    · rw [if_pos e, decide_eq_true e, if_neg (show ¬ bN true = 0 by decide)]
      simp only [gI13, gR13, pI13, pR13, rv13, k13, jfit0, if_true, and_true, Option.bind_some]
    · rw [if_neg e, decide_eq_false e, if_pos (show bN false = 0 by decide)]
      rw [show N w + 1 = N (w + 1) by rw [show (1 : Int32) = N 1 from rfl, N_add]]
  have hit : ∀ (w k : Nat), ¬ (ws.length = 1 ∧ c < 100) → wkind ws = k → (k = 116 ∨ k = 109 ∨ k = 108 ∨ k = 110) → wcode k = w → ∃ μ', some (none, jsetI μ1 M 20 (N w)) = some ((none : Option Value), μ') ∧ NX M μ μ' ∧ jiv μ' M 18 = N A.length ∧ TokS μ' M (if ws.length = 1 ∧ c < 100 then (97, c - 97, 1) else (wkind ws, 0, ws.length)).1 (if ws.length = 1 ∧ c < 100 then (97, c - 97, 1) else (wkind ws, 0, ws.length)).2.1 ∧ jiv μ' M 17 = N (A.length + (if ws.length = 1 ∧ c < 100 then (97, c - 97, 1) else (wkind ws, 0, ws.length)).2.2) := by
    intro w k hn hk h4 hw
    rw [if_neg hn]
    refine ⟨_, rfl, F1.trans (NX.set (by omega)), (ivj (by decide)).trans g8, Or.inr ⟨(ivj (by decide)).trans g2, Or.inr (Or.inr (Or.inr (Or.inl ⟨by rw [hk]; exact h4, (ivj (by decide)).trans g9, ?_⟩)))⟩, (ivj (by decide)).trans g7⟩
    rw [hk, hw]
    exact if_pos ⟨rfl, rfl⟩
  rw [step 0 _ (by decide) rfl rfl]
  by_cases e1 : ws = [116, 111, 116, 97, 108]
  · rw [if_pos e1]
    exact hit 0 116 (by rw [e1]; exact fun q => absurd q.1 (by decide)) (by unfold wkind; rw [if_pos e1]) (by decide) rfl
  · rw [if_neg e1, step 1 _ (by decide) rfl rfl]
    by_cases e2 : ws = [109, 111, 115, 116]
    · rw [if_pos e2]
      exact hit 1 109 (by rw [e2]; exact fun q => absurd q.1 (by decide)) (by unfold wkind; rw [if_neg e1, if_pos e2]) (by decide) rfl
    · rw [if_neg e2, step 2 _ (by decide) rfl rfl]
      by_cases e3 : ws = [108, 101, 97, 115, 116]
      · rw [if_pos e3]
        exact hit 2 108 (by rw [e3]; exact fun q => absurd q.1 (by decide)) (by unfold wkind; rw [if_neg e1, if_neg e2, if_pos e3]) (by decide) rfl
      · rw [if_neg e3, step 3 _ (by decide) rfl rfl]
        by_cases e4 : ws = [109, 97, 110, 121]
        · rw [if_pos e4]
          exact hit 3 110 (by rw [e4]; exact fun q => absurd q.1 (by decide)) (by unfold wkind; rw [if_neg e1, if_neg e2, if_neg e3, if_pos e4]) (by decide) rfl
        · rw [if_neg e4]
          have F2 : NX M μ1 (jsetI μ1 M 19 (N 4)) := NX.set (by omega)
          have h3 := h1.nx F2
          have b := r_byteAt (d := d + 4) h3
          have kk : jk (jsetI μ1 M 19 (N 4)) M = 13 := k13
          have q8 : jiv (jsetI μ1 M 19 (N 4)) M 18 = N A.length := (ivj (by decide)).trans g8
          have q7 : jiv (jsetI μ1 M 19 (N 4)) M 17 = N (A.length + ws.length) := (ivj (by decide)).trans g7
          have q2 : jiv (jsetI μ1 M 19 (N 4)) M 22 = N 0 := (ivj (by decide)).trans g2
          have q9 : jiv (jsetI μ1 M 19 (N 4)) M 19 = N 4 := if_pos ⟨rfl, rfl⟩
          have pre : jR (d + 5) 175 38 [.ref M, .int (N 4)] [] μ1 = jR (d + 5) 175 80 [.ref M, .int (N 4)] [.int (N c), .ref M] (jsetI μ1 M 19 (N 4)) := by
            rw [b175_38, if_neg (show ¬ N 4 < 4 by decide), show (4 : Int32) = N 4 from rfl]
            simp only [gI13, gR13, pI13, pR13, rv13, k13, kk, jfit0, if_true, and_true, Option.bind_some, q8, b]
            rfl
          rw [pre]
          have F3 := F1.trans F2
          generalize jsetI μ1 M 19 (N 4) = μ2 at *
          have ec : N c - 97 = N (c - 97) := by rw [show (97 : Int32) = N 97 from rfl, N_sub (by omega)]
          have F4 : NX M μ2 (jsetI μ2 M 20 (N (c - 97))) := NX.set (by omega)
          have k4 : jk (jsetI μ2 M 20 (N (c - 97))) M = 13 := kk
          have u8 : jiv (jsetI μ2 M 20 (N (c - 97))) M 18 = N A.length := (ivj (by decide)).trans q8
          have u7 : jiv (jsetI μ2 M 20 (N (c - 97))) M 17 = N (A.length + ws.length) := (ivj (by decide)).trans q7
          have u2 : jiv (jsetI μ2 M 20 (N (c - 97))) M 22 = N 0 := (ivj (by decide)).trans q2
          have u9 : jiv (jsetI μ2 M 20 (N (c - 97))) M 19 = N 4 := (ivj (by decide)).trans q9
          have u0 : jiv (jsetI μ2 M 20 (N (c - 97))) M 20 = N (c - 97) := if_pos ⟨rfl, rfl⟩
          have e80 : jR (d + 5) 175 80 [.ref M, .int (N 4)] [.int (N c), .ref M] μ2 = if ws.length = 1 ∧ c < 100 then some (none, jsetI (jsetI μ2 M 20 (N (c - 97))) M 22 (N 0)) else some (none, jsetI (jsetI μ2 M 20 (N (c - 97))) M 22 (N 1)) := by
            rw [b175_80 (hs0 := ir_ref), ec]
            have esub : N (A.length + ws.length) - N A.length = N ws.length := by
              rw [N_sub (by omega)]; congr 1; omega
            simp only [gI13, gR13, pI13, pR13, rv13, kk, k4, jfit0, if_true, and_true, Option.bind_some, u7, u8, u0, esub]
            have s113 : ∀ z, (z = N 0 ∨ z = N 1) → jR (d + 5) 175 113 [.ref M, .int (N 4)] [.int z, .ref M] (jsetI μ2 M 20 (N (c - 97))) = some (none, jsetI (jsetI μ2 M 20 (N (c - 97))) M 22 z) := fun z hz => by
              rw [b175_113 (hs0 := ir_ref)]
              have : jfit 2 z = true := by rcases hz with rfl | rfl <;> rfl
              simp only [gI13, gR13, pI13, pR13, rv13, k4, this, if_true, and_true, Option.bind_some]
            have c1 : (1 < N ws.length) = (1 < ws.length) := by
              show (N 1 < N ws.length) = _
              rw [N_lt (by decide) (by omega)]
            have c2 : (2 < N (c - 97)) = (2 < c - 97) := by
              show (N 2 < N (c - 97)) = _
              rw [N_lt (by decide) (by omega)]
            simp only [c1, c2]
            by_cases e5 : 1 < ws.length
            · rw [if_pos e5, if_neg (show ¬ (ws.length = 1 ∧ c < 100) by omega), b175_108 (hs0 := ir_ref)]
              exact s113 _ (Or.inr rfl)
            · rw [if_neg e5]
              by_cases e6 : 2 < c - 97
              · rw [if_pos e6, if_neg (show ¬ (ws.length = 1 ∧ c < 100) by omega), b175_108 (hs0 := ir_ref)]
                exact s113 _ (Or.inr rfl)
              · rw [if_neg e6, if_pos (show ws.length = 1 ∧ c < 100 by omega)]
                exact s113 _ (Or.inl rfl)
          rw [e80]
          have F5 := F3.trans F4
          generalize jsetI μ2 M 20 (N (c - 97)) = μ3 at *
          by_cases e7 : ws.length = 1 ∧ c < 100
          · rw [if_pos e7, if_pos e7]
            refine ⟨_, rfl, F5.trans (NX.set (by omega)), (ivj (by decide)).trans u8, Or.inr ⟨if_pos ⟨rfl, rfl⟩, Or.inr (Or.inr (Or.inr (Or.inr ⟨rfl, (ivj (by decide)).trans u9, (ivj (by decide)).trans u0⟩)))⟩, ?_⟩
            refine (ivj (by decide)).trans (u7.trans ?_)
            rw [e7.1]
          · rw [if_neg e7, if_neg e7]
            exact ⟨_, rfl, F5.trans (NX.set (by omega)), (ivj (by decide)).trans u8, Or.inl ⟨by unfold wkind; rw [if_neg e1, if_neg e2, if_neg e3, if_neg e4], if_pos ⟨rfl, rfl⟩⟩, (ivj (by decide)).trans u7⟩
end LEX
