/-! THE REFERENCE's READER: what it does at a token -/
/-- reading: at these tokens, so deep, with this read -/
def RDc (μ : jM) (M B : Nat) (bs : List Nat) (ts : List T3) (w : Nat) (T : List (Int32 × Int32)) : Prop := LB μ M B bs ∧ TS μ M bs ts ∧ jiv μ M 21 = N w ∧ jiv μ M 23 = N (2 * T.length) ∧ ∀ i x, T[i]? = some x → jiv μ (M + 400) (2 * i) = x.1 ∧ jiv μ (M + 400) (2 * i + 1) = x.2
def RD (μ : jM) (M B : Nat) (bs : List Nat) (ts : List T3) (w : Nat) (T : List (Int32 × Int32)) : Prop := RDc μ M B bs ts w T ∧ GTS ts ∧ T.length + ts.length ≤ 41
/-- wrong, at this place -/
def RW' (μ : jM) (M b : Nat) : Prop := jiv μ M 22 = N 1 ∧ jiv μ M 18 = N b
/-- read on, or not -/
def RE (M B : Nat) (bs : List Nat) (w : Nat) (μ μ' : jM) (ok : Bool) (ts : List T3) (T : List (Int32 × Int32)) : Prop := PX M μ μ' ∧ (ok = true → RD μ' M B bs ts w T) ∧ (ok = false → RW' μ' M (hs ts))
section LEX
variable {μ μ' μ'' : jM} {M B d i j k a t c n w b : Nat} {bs r A R s ds ws l : List Nat} {v x y : Int32} {ts : List T3} {T : List (Int32 × Int32)}
theorem r_next (h : LB μ M B (A ++ r)) (h7 : jiv μ M 17 = N A.length) (h2 : jiv μ M 22 = N 0) (hn : r.length ≤ n) : ∃ μ', jC (d + 6) 173 [.ref M] μ = some (none, μ') ∧ NX M μ μ' ∧ TS μ' M (A ++ r) (lexx n A.length r) := by
  have k13 := h.k13
  obtain ⟨μ1, c1, F1, g7, g8, g2⟩ := bl_loop (d := d + 5) (u1 := .retAddr 0) r A μ h h7
  rw [h2] at g2
  have h1 := h.nx F1
  have hA : A ++ r = (A ++ r.take (nbl r)) ++ r.drop (nbl r) := by rw [List.append_assoc, List.take_append_drop]
  have nb : nbl r ≤ r.length := (List.takeWhile_prefix isBl).length_le
  have lA : (A ++ r.take (nbl r)).length = A.length + nbl r := by rw [List.length_append, List.length_take, Nat.min_eq_left nb]
  have st : jC (d + 6) 173 [.ref M] μ = jR (d + 6) 173 63 [.ref M, .retAddr 0] [.int (hdB (r.drop (nbl r)))] μ1 := by
    rw [jC_run (by decide)]
    show jR (d + 6) 173 0 [.ref M, .retAddr 0] [] μ = _
    rw [b173_0]
    simp only [gI13, gR13, pI13, pR13, rv13, k13, h2, if_true, Option.bind_some]
    rw [if_pos (show N 0 = 0 from rfl)]
    exact c1
  have F2 : NX M μ1 (jsetI μ1 M 19 (N 0)) := NX.set (by omega)
  have h3 := h1.nx F2
  have q7 : jiv (jsetI μ1 M 19 (N 0)) M 17 = N (A.length + nbl r) := (ivj (by decide)).trans g7
  have q8 : jiv (jsetI μ1 M 19 (N 0)) M 18 = N (A.length + nbl r) := (ivj (by decide)).trans g8
  have q2 : jiv (jsetI μ1 M 19 (N 0)) M 22 = N 0 := (ivj (by decide)).trans g2
  have q9 : jiv (jsetI μ1 M 19 (N 0)) M 19 = N 0 := if_pos ⟨rfl, rfl⟩
  have p63 : ∀ z, jR (d + 6) 173 63 [.ref M, .retAddr 0] [.int z] μ1 = (if z = (-1) then some (none, jsetI μ1 M 19 (N 0)) else (jC (d + 5) 165 [.int z, .int 97, .int 122] (jsetI μ1 M 19 (N 0))).bind fun p2 => jR (d + 6) 173 83 [.ref M, .int z] (p2.1.toList ++ []) p2.2) := fun z => by
    rw [b173_63]
    simp only [gI13, gR13, pI13, pR13, rv13, h1.k13, jfit0, if_true, and_true, Option.bind_some]
    rfl
  rw [st, p63]
  have F3 := F1.trans F2
  generalize jsetI μ1 M 19 (N 0) = μ2 at *
  cases er : r.drop (nbl r) with
  | nil =>
    have el : lexx n A.length r = [(0, A.length + nbl r, 0)] := by
      cases n with
      | zero =>
        have e0 : r = [] := List.eq_nil_of_length_eq_zero (by omega)
        rw [e0]
        rfl
      | succ n =>
        unfold lexx
        rw [er]
    rw [if_pos (show hdB [] = -1 from rfl), el]
    exact ⟨μ2, rfl, F3, q8, Or.inr ⟨q2, Or.inl ⟨rfl, q9⟩, fun q => absurd rfl q⟩⟩
  | cons c t =>
    have lr : (r.drop (nbl r)).length = r.length - nbl r := List.length_drop
    rw [er] at lr hA
    rw [List.length_cons] at lr
    obtain ⟨m, rfl⟩ : ∃ m, n = m + 1 := ⟨n - 1, by omega⟩
    have el : lexx (m + 1) A.length r = ((tok1 c t).1, A.length + nbl r, (tok1 c t).2.1) :: lexx m (A.length + nbl r + (tok1 c t).2.2) ((c :: t).drop (tok1 c t).2.2) := by
      show (match r.drop (nbl r) with
        | [] => [(0, A.length + nbl r, 0)]
        | c :: t => ((tok1 c t).1, A.length + nbl r, (tok1 c t).2.1) :: lexx m (A.length + nbl r + (tok1 c t).2.2) ((c :: t).drop (tok1 c t).2.2)) = _
      rw [er]
    have tp := tok1_pos (c := c) (t := t)
    rw [hA] at h3
    have hc := h3.ch
    rw [← lA] at q7 q8
    have l2 : ((c :: t).take (tok1 c t).2.2).length = (tok1 c t).2.2 := by rw [List.length_take, Nat.min_eq_left tp.2.1]
    have l3 : (A ++ r.take (nbl r) ++ (c :: t).take (tok1 c t).2.2).length = A.length + nbl r + (tok1 c t).2.2 := by rw [List.length_append, l2, lA]
    have fin : ∀ μ', NX M μ2 μ' → jiv μ' M 18 = N (A ++ r.take (nbl r)).length → TokS μ' M (tok1 c t).1 (tok1 c t).2.1 → jiv μ' M 17 = N ((A ++ r.take (nbl r)).length + (tok1 c t).2.2) → NX M μ μ' ∧ TS μ' M (A ++ r) (lexx (m + 1) A.length r) := fun μ' G u8 uT u7 => by
      rw [el]
      refine ⟨F3.trans G, by rw [u8, lA]; rfl, ?_⟩
      rcases uT with ⟨k1, k2⟩ | ⟨k1, k2⟩
      · exact Or.inl ⟨k1, k2⟩
      · refine Or.inr ⟨k1, k2, fun _ => ⟨m, A ++ r.take (nbl r) ++ (c :: t).take (tok1 c t).2.2, (c :: t).drop (tok1 c t).2.2, ?_, ?_, ?_, ?_⟩⟩
        · rw [List.append_assoc, List.take_append_drop, hA]
        · rw [u7, l3, lA]
        · rw [List.length_drop, List.length_cons]; omega
        · rw [l3]
          rfl
    rw [if_neg (show ¬ hdB (c :: t) = -1 from N_neg1 (by omega)), r_btw]
    show ∃ μ', jR (d + 6) 173 83 [.ref M, .int (N c)] [.int (if N c < N 97 ∨ N 122 < N c then N 0 else N 1)] μ2 = some (none, μ') ∧ _
    simp only [btw_c hc (show 97 < 256 by decide) (show 122 < 256 by decide)]
    rw [b173_83]
    by_cases e1 : 97 ≤ c ∧ c ≤ 122
    · obtain ⟨μ', d1, G1, u8, uT, u7⟩ := r_word (d := d) h3 (by rw [lt_iff]; exact e1) q7 q8 q2
      refine ⟨μ', ?_, fin μ' G1 u8 uT u7⟩
      rw [if_neg (show ¬ ¬ (97 ≤ c ∧ c ≤ 122) from fun q => q e1), if_neg (show ¬ N 1 = 0 by decide)]
      simp only [gI13, gR13, pI13, pR13, rv13, h3.k13, if_true, d1, Option.bind_some]
      show jR (d + 6) 173 90 [.ref M, .int (N c)] [] μ' = _
      rw [b173_90, b173_155]
    · rw [if_pos (show ¬ (97 ≤ c ∧ c ≤ 122) from e1), if_pos (show N 0 = 0 from rfl), r_btw]
      show ∃ μ', jR (d + 6) 173 101 [.ref M, .int (N c)] [.int (if N c < N 48 ∨ N 57 < N c then N 0 else N 1)] μ2 = some (none, μ') ∧ _
      simp only [btw_c hc (show 48 < 256 by decide) (show 57 < 256 by decide)]
      by_cases e2 : 48 ≤ c ∧ c ≤ 57
      · obtain ⟨μ', d1, G1, u8, uT, u7⟩ := r_digits (d := d + 4) h3 (by rw [dg_iff]; exact e2) q7 q8
        refine ⟨μ', ?_, fin μ' G1 u8 uT u7⟩
        rw [if_neg (show ¬ ¬ (48 ≤ c ∧ c ≤ 57) from fun q => q e2), b173_101 (hx := h3.2.2.1.1), if_neg (show ¬ N 1 = 0 by decide)]
        simp only [gI13, gR13, pI13, pR13, rv13, h3.k13, if_true, d1, Option.bind_some]
        show jR (d + 6) 173 108 [.ref M, .int (N c)] [] μ' = _
        rw [b173_108, b173_155]
      · obtain ⟨μ', d1, G1, u8, uT, u7⟩ := r_signTok (d := d + 1) h3 (by rw [dg_iff]; exact e2) (by rw [lt_iff]; exact e1) q7 q8 q2
        refine ⟨μ', ?_, fin μ' G1 u8 uT u7⟩
        rw [if_pos (show ¬ (48 ≤ c ∧ c ≤ 57) from e2)]
        exact d1
theorem r_nextW (hk : jk μ M = 13) (h : jiv μ M 22 = N 1) : jC d 173 [.ref M] μ = some (none, μ) := by
  rw [jC_run (by decide)]
  show jR d 173 0 [.ref M, .retAddr 0] [] μ = _
  rw [b173_0]
  simp only [gI13, gR13, pI13, pR13, rv13, hk, h, if_true, Option.bind_some]
  rw [if_neg (show ¬ N 1 = 0 by decide)]
theorem r_needT (hx : x ≠ 0) : jC d 185 [.ref M, .int x] μ = some (none, μ) := by
  rw [jC_run (by decide)]
  show jR d 185 0 [.ref M, .int x] [] μ = _
  rw [b185_0, if_neg hx, b185_9]
theorem r_needF (hk : jk μ M = 13) : jC d 185 [.ref M, .int 0] μ = some (none, jsetI μ M 22 (N 1)) := by
  rw [jC_run (by decide)]
  show jR d 185 0 [.ref M, .int 0] [] μ = _
  rw [b185_0, if_pos rfl]
  have : jfit 2 1 = true := rfl
  simp only [gI13, gR13, pI13, pR13, rv13, hk, this, if_true, and_true, Option.bind_some]
  rw [b185_9]
  rfl
theorem r_isSignW (hk : jk μ M = 13) (h : jiv μ M 22 = N 1) : jC d 179 [.ref M, .int x] μ = some (some (.int 0), μ) := by
  rw [jC_run (by decide)]
  show jR d 179 0 [.ref M, .int x] [] μ = _
  rw [b179_0]
  simp only [gI13, gR13, pI13, pR13, rv13, hk, h, if_true, Option.bind_some]
  rw [if_neg (show ¬ N 1 = 0 by decide), b179_27, b179_28]
  rfl
theorem r_isSign (hk' : jk μ M = 13) (h : TS μ M bs ts) (hg : GTS ts) (hc : c ∈ signs) : jC d 179 [.ref M, .int (N c)] μ = some (some (.int (bN (decide (hk ts = c)))), μ) := by
  have hc0 : c ≠ 0 ∧ c ≠ 1 ∧ c ≠ 48 ∧ c ≠ 97 ∧ c ≠ 116 ∧ c ≠ 109 ∧ c ≠ 108 ∧ c ≠ 110 ∧ c < 256 := by
    unfold signs at hc
    simp only [List.mem_cons, List.not_mem_nil, or_false] at hc
    omega
  have k256 := hg.hd.2.1
  rcases h.2 with ⟨h1, h2⟩ | ⟨h1, h2, -⟩
  · rw [r_isSignW hk' h2, decide_eq_false (by omega)]
    rfl
  · rw [jC_run (by decide)]
    show jR d 179 0 [.ref M, .int (N c)] [] μ = _
    rw [b179_0]
    simp only [gI13, gR13, pI13, pR13, rv13, hk', h1, if_true, Option.bind_some]
    rw [if_pos (show N 0 = 0 from rfl)]
    have no : ∀ t, jiv μ M 19 = N t → t < 10 → t ≠ 2 → hk ts ≠ c → (if jiv μ M 19 = 2 then (if jiv μ M 20 = N c then jR d 179 28 [.ref M, .int (N c)] [.int 1] μ else jR d 179 27 [.ref M, .int (N c)] [] μ) else jR d 179 27 [.ref M, .int (N c)] [] μ) = some (some (.int (bN (decide (hk ts = c)))), μ) := fun t e1 e2 e3 e4 => by
      rw [e1, if_neg (show ¬ N t = 2 by show ¬ N t = N 2; rw [N_inj (by omega) (by decide)]; exact e3), b179_27, b179_28, decide_eq_false e4]
      rfl
    rcases h2 with ⟨k1, k2⟩ | ⟨k1, k2, k3⟩ | ⟨k1, k2, k3⟩ | ⟨k1, k2, k3⟩ | ⟨k1, k2, k3⟩
    · exact no 0 k2 (by decide) (by decide) (by omega)
    · exact no 1 k2 (by decide) (by decide) (by omega)
    · rw [k2, if_pos (show N 2 = 2 from rfl), k3]
      simp only [N_inj (show hk ts < 2147483648 by omega) (show c < 2147483648 by omega)]
      by_cases e : hk ts = c
      · rw [if_pos e, b179_28, decide_eq_true e]
        rfl
      · rw [if_neg e, b179_27, b179_28, decide_eq_false e]
        rfl
    · obtain ⟨n1, n2, n3, n4, n5, n6, n7, n8, n9⟩ := hc0
      exact no 3 k2 (by decide) (by decide) (fun q => by rw [q] at k1; rcases k1 with k1 | k1 | k1 | k1
                                                         · exact n5 k1
                                                         · exact n6 k1
                                                         · exact n7 k1
                                                         · exact n8 k1)
    · exact no 4 k2 (by decide) (by decide) (by omega)
end LEX
