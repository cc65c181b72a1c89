/-! THE REFERENCE's READER: its words and numbers -/
def signs : List Nat := [61, 43, 45, 42, 40, 41, 58, 36, 35]
/-- a token as the reference holds it -/
def tkv (k f : Nat) (t v : Int32) : Prop := (k = 0 ∧ t = N 0) ∨ (k = 48 ∧ t = N 1 ∧ v = N f) ∨ (k ∈ signs ∧ t = N 2 ∧ v = N k) ∨ ((k = 116 ∨ k = 109 ∨ k = 108 ∨ k = 110) ∧ t = N 3 ∧ v = N (wcode k)) ∨ (k = 97 ∧ t = N 4 ∧ v = N f)
def TokS (μ : jM) (M k f : Nat) : Prop := (k = 1 ∧ jiv μ M 22 = N 1) ∨ (jiv μ M 22 = N 0 ∧ tkv k f (jiv μ M 19) (jiv μ M 20))
section LEX
variable {μ μ' μ'' : jM} {M B d i j k a t c n w lo hi : Nat} {bs r A R s ds ws : List Nat} {v x : Int32}
theorem r_byteI (h : LB μ M B bs) (hc : bs[i]? = some c) : jC d 174 [.ref M, .int (N i)] μ = some (some (.int (N c)), μ) := by
  have hi := (List.getElem?_eq_some_iff.mp hc).1
  have e : bs = bs.take i ++ (c :: bs.drop (i + 1)) := by
    have e2 : bs.drop i = c :: bs.drop (i + 1) := by
      rw [List.drop_eq_getElem_cons hi, (List.getElem?_eq_some_iff.mp hc).2]
    rw [← e2, List.take_append_drop]
  rw [e] at h
  have := r_byteAt (d := d) h
  rw [List.length_take, Nat.min_eq_left (by omega)] at this
  exact this
theorem LB.ch (h : LB μ M B (A ++ (c :: r))) : c < 256 := (h.2.1.2.2 A.length c (by rw [List.getElem?_append_right (Nat.le_refl _), Nat.sub_self]; rfl)).1
theorem LB.len (h : LB μ M B bs) : bs.length ≤ 40 := h.2.1.1
theorem btw_c (hc : c < 256) (hl : lo < 256) (hh : hi < 256) : (N c < N lo ∨ N hi < N c) = ¬ (lo ≤ c ∧ c ≤ hi) := by
  rw [N_lt (by omega) (by omega), N_lt (by omega) (by omega)]
  exact propext ⟨fun h => by omega, fun h => by omega⟩
theorem btw_nil (hl : lo < 256) : NEG < N lo := by
  rw [Int32.lt_iff_toInt_lt, N_toInt (by omega)]
  show (-1 : Int) < lo
  omega
/-- is the token this text? -/
theorem r_isText (h : LB μ M B (A ++ (ws ++ R))) (hst : ST μ a t s) (h7 : jiv μ M 17 = N (A.length + ws.length)) (h8 : jiv μ M 18 = N A.length) : jC (d + 4) 177 [.ref M, .ref a] μ = some (some (.int (bN (decide (ws = s)))), μ) := by
  have hx := h.2.2.1.1
  have k13 := h.k13
  have h40 := h.len
  rw [List.length_append, List.length_append] at h40
  have hs1 := hst.2.2.2.2.2.1
  have esub : N (A.length + ws.length) - N A.length = N ws.length := by
    rw [N_sub (by omega)]; congr 1; omega
  have ln := st_length (d := d + 2) hx hst
  rw [jC_run (by decide)]
  show jR (d + 4) 177 0 [.ref M, .ref a, .retAddr 0] [] μ = _
  rw [b177_0 (h1 := ir_ref), if_pos (rv0' hst.1), ln]
  show jR (d + 4) 177 4 [.ref M, .ref a, .retAddr 0] [.int (N s.length)] μ = _
  rw [b177_4 (h1 := ir_ref)]
  simp only [gI13, gR13, pI13, pR13, rv13, k13, h7, h8, if_true, Option.bind_some, esub, N_inj (show s.length < 2147483648 by omega) (show ws.length < 2147483648 by omega)]
  by_cases e : s.length = ws.length
  · rw [if_pos e]
    have loop : ∀ k j, j + k = s.length → (∀ x, x < j → ws[x]? = s[x]?) → jR (d + 4) 177 20 [.ref M, .ref a, .int (N j)] [] μ = some (some (.int (bN (decide (ws = s)))), μ) := by
      intro k
      induction k with
      | zero =>
        intro j hj hp
        have ew : ws = s := by
          apply List.ext_getElem?
          intro x
          by_cases hxj : x < j
          · exact hp x hxj
          · rw [List.getElem?_eq_none (by omega), List.getElem?_eq_none (by omega)]
        rw [b177_20 (h1 := ir_ref), if_pos (rv0' hst.1), ln]
        show jR (d + 4) 177 25 [.ref M, .ref a, .int (N j)] [.int (N s.length), .int (N j)] μ = _
        rw [b177_25 (h1 := ir_ref), if_neg (by rw [N_lt (by omega) (by omega)]; omega), decide_eq_true ew]
        rfl
      | succ k ih =>
        intro j hj hp
        obtain ⟨cs, hcs⟩ : ∃ c, s[j]? = some c := ⟨_, List.getElem?_eq_getElem (by omega)⟩
        obtain ⟨cw, hcw⟩ : ∃ c, ws[j]? = some c := ⟨_, List.getElem?_eq_getElem (by omega)⟩
        have hcb : (A ++ (ws ++ R))[A.length + j]? = some cw := by
          rw [List.getElem?_append_right (by omega), show A.length + j - A.length = j by omega, List.getElem?_append_left (by omega)]; exact hcw
        have hb := r_byteI (d := d + 3) h hcb
        have hcw1 := (h.2.1.2.2 _ _ hcb).1
        have hc1 := (hst.2.2.2.2.2.2 j cs hcs).2
        rw [b177_20 (h1 := ir_ref), if_pos (rv0' hst.1), ln]
        show jR (d + 4) 177 25 [.ref M, .ref a, .int (N j)] [.int (N s.length), .int (N j)] μ = _
        rw [b177_25 (h1 := ir_ref), if_pos (by rw [N_lt (by omega) (by omega)]; omega), if_pos (rv0' hst.1), st_charAt (d := d) hx hst hcs]
        show jR (d + 4) 177 33 [.ref M, .ref a, .int (N j)] [.int (N cs)] μ = _
        rw [b177_33 (h1 := ir_ref)]
        simp only [gI13, gR13, pI13, pR13, rv13, k13, h8, if_true, Option.bind_some, N_add, hb]
        show jR (d + 4) 177 43 [.ref M, .ref a, .int (N j)] [.int (N cw), .int (N cs)] μ = _
        rw [b177_43 (h1 := ir_ref)]
        simp only [N_inj (show cs < 2147483648 by omega) (show cw < 2147483648 by omega)]
        by_cases ec : cs = cw
        · rw [if_pos ec, show N j + 1 = N (j + 1) by rw [show (1 : Int32) = N 1 from rfl, N_add]]
          refine ih (j + 1) (by omega) (fun x hx => ?_)
          by_cases exj : x = j
          · rw [exj, hcw, hcs, ec]
          · exact hp x (by omega)
        · rw [if_neg ec, decide_eq_false (fun g => ec (by rw [g, hcs] at hcw; exact (Option.some.inj hcw)))]
          rfl
    exact loop s.length 0 (by omega) (fun x hx => absurd hx (Nat.not_lt_zero x))
  · rw [if_neg e, decide_eq_false (fun g => e (by rw [g]))]
    rfl
/-- letters passed over -/
theorem wd_loop : ∀ (r A : List Nat) (μ : jM), LB μ M B (A ++ r) → jiv μ M 17 = N A.length → ∃ μ', jR (d + 1) 175 0 [.ref M, .retAddr 0] [] μ = jR (d + 1) 175 38 [.ref M, .int 0] [] μ' ∧ NX M μ μ' ∧ jiv μ' M 17 = N (A.length + (r.takeWhile isLt).length) ∧ jiv μ' M 18 = jiv μ M 18 ∧ jiv μ' M 19 = N 3 ∧ jiv μ' M 22 = jiv μ M 22 := by
  intro r
  induction r with
  | nil =>
    intro A μ h h7
    have k13 := h.k13
    have b := r_byteAt (d := d) h
    refine ⟨jsetI μ M 19 (N 3), ?_, NX.set (by omega), ?_, ivj (by decide), if_pos ⟨rfl, rfl⟩, ivj (by decide)⟩
    · rw [b175_0]
      simp only [gI13, gR13, pI13, pR13, rv13, k13, h7, if_true, Option.bind_some, b]
      show jR (d + 1) 175 8 [.ref M, .retAddr 0] [.int NEG] μ = _
      rw [b175_8, r_btw]
      show jR (d + 1) 175 15 [.ref M, .retAddr 0] [.int (if NEG < N 97 ∨ N 122 < NEG then N 0 else N 1)] μ = _
      rw [if_pos (Or.inl (btw_nil (by decide))), b175_15, if_pos (show N 0 = 0 from rfl)]
      simp only [gI13, gR13, pI13, pR13, rv13, k13, jfit0, if_true, and_true, Option.bind_some]
      rfl
    · rw [ivj (by decide), h7]
      rfl
  | cons c r ih =>
    intro A μ h h7
    have k13 := h.k13
    have hc := h.ch
    have b := r_byteAt (d := d) h
    have e1 : jR (d + 1) 175 0 [.ref M, .retAddr 0] [] μ = jR (d + 1) 175 15 [.ref M, .retAddr 0] [.int (if ¬ (97 ≤ c ∧ c ≤ 122) then N 0 else N 1)] μ := by
      rw [b175_0]
      simp only [gI13, gR13, pI13, pR13, rv13, k13, h7, if_true, Option.bind_some, b]
      show jR (d + 1) 175 8 [.ref M, .retAddr 0] [.int (N c)] μ = _
      rw [b175_8, r_btw, show (97 : Int32) = N 97 from rfl, show (122 : Int32) = N 122 from rfl]
      simp only [btw_c hc (show 97 < 256 by decide) (show 122 < 256 by decide)]
      rfl
    have el : isLt c = decide (97 ≤ c ∧ c ≤ 122) := by
      unfold isLt
      rw [Bool.eq_iff_iff]
      simp
    rw [e1]
    by_cases e : 97 ≤ c ∧ c ≤ 122
    · have tw : (c :: r).takeWhile isLt = c :: r.takeWhile isLt := by
        rw [List.takeWhile_cons, if_pos (by rw [el]; exact decide_eq_true e)]
      have en : N A.length + 1 = N (A.length + 1) := by rw [show (1 : Int32) = N 1 from rfl, N_add]
      have F1 : NX M μ (jsetI μ M 17 (N (A.length + 1))) := NX.set (by omega)
      obtain ⟨μ', c1, F2, g7, g8, g9, g2⟩ := ih (A ++ [c]) (jsetI μ M 17 (N (A.length + 1))) (by rw [List.append_assoc]; exact h.nx F1) (by
        rw [List.length_append]
        exact if_pos ⟨rfl, rfl⟩)
      refine ⟨μ', ?_, F1.trans F2, ?_, g8.trans (ivj (by decide)), g9, g2.trans (ivj (by decide))⟩
      · rw [if_neg (fun q => q e), b175_15, if_neg (show ¬ N 1 = 0 by decide)]
        simp only [gI13, gR13, pI13, pR13, rv13, k13, jfit0, h7, if_true, and_true, Option.bind_some, en]
        exact c1
      · rw [g7, tw, List.length_append]
        exact congrArg N (by simp only [List.length_cons, List.length_nil]; omega)
    · have tw : (c :: r).takeWhile isLt = [] := by
        rw [List.takeWhile_cons, if_neg (by rw [el, decide_eq_false e]; decide)]
      refine ⟨jsetI μ M 19 (N 3), ?_, NX.set (by omega), ?_, ivj (by decide), if_pos ⟨rfl, rfl⟩, ivj (by decide)⟩
      · rw [if_pos (show ¬ (97 ≤ c ∧ c ≤ 122) from e), b175_15, if_pos (show N 0 = 0 from rfl)]
        simp only [gI13, gR13, pI13, pR13, rv13, k13, jfit0, if_true, and_true, Option.bind_some]
        rfl
      · rw [ivj (by decide), h7, tw]
        rfl
end LEX
