/-! A NUMBER's digits: Integer.stringSize, Integer.getChars -/
def dgs (m : Nat) : List Nat := if m < 100 then (if m < 10 then [48 + m] else [48 + m / 10, 48 + m % 10]) else dgs (m / 100) ++ [48 + m % 100 / 10, 48 + m % 100 % 10]
termination_by m
decreasing_by omega
def dlen (m : Nat) : Nat := if m < 10 then 1 else if m < 100 then 2 else if m < 1000 then 3 else if m < 10000 then 4 else if m < 100000 then 5 else if m < 1000000 then 6 else if m < 10000000 then 7 else if m < 100000000 then 8 else if m < 1000000000 then 9 else 10
/-- a number as a text -/
def dec (v : Int32) : List Nat := if v < N 0 then 45 :: dgs v.toInt.natAbs else dgs v.toInt.natAbs
/-- digits' tables -/
def KD (μ : jM) : Prop := jX μ ∧ (∃ o, jext μ 5 = .ref o ∧ jk μ o = 41 ∧ jl μ o = 100 ∧ ∀ i, i < 100 → jiv μ o i = N (48 + i % 10)) ∧ ∃ o, jext μ 6 = .ref o ∧ jk μ o = 41 ∧ jl μ o = 100 ∧ ∀ i, i < 100 → jiv μ o i = N (48 + i / 10)
section DIG
variable {μ μ' : jM} {d t e m n w : Nat} {x v f : Int32} {u1 u3 u4 : Value}
theorem dgs_lt (h : m < 100) : dgs m = if m < 10 then [48 + m] else [48 + m / 10, 48 + m % 10] := by rw [dgs, if_pos h]
theorem dgs_ge (h : ¬ m < 100) : dgs m = dgs (m / 100) ++ [48 + m % 100 / 10, 48 + m % 100 % 10] := by rw [dgs, if_neg h]
theorem dgs_len (hm : m < 10000000000) : (dgs m).length = dlen m := by
  have two : ∀ k, k < 100 → (dgs k).length = if k < 10 then 1 else 2 := fun k hk => by
    rw [dgs_lt hk]; split <;> rfl
  have up : ∀ k, ¬ k < 100 → (dgs k).length = (dgs (k / 100)).length + 2 := fun k hk => by rw [dgs_ge hk, List.length_append]; rfl
  unfold dlen
  by_cases h1 : m < 100
  · rw [two m h1]
    split
    · rfl
    · rfl
  · rw [up m h1, if_neg (by omega), if_neg h1]
    by_cases h2 : m / 100 < 100
    · rw [two _ h2]
      split
      · rw [if_pos (by omega)]
      · rw [if_neg (by omega), if_pos (by omega)]
    · rw [up _ h2, if_neg (by omega), if_neg (by omega)]
      by_cases h3 : m / 100 / 100 < 100
      · rw [two _ h3]
        split
        · rw [if_pos (by omega)]
        · rw [if_neg (by omega), if_pos (by omega)]
      · rw [up _ h3, if_neg (by omega), if_neg (by omega)]
        by_cases h4 : m / 100 / 100 / 100 < 100
        · rw [two _ h4]
          split
          · rw [if_pos (by omega)]
          · rw [if_neg (by omega), if_pos (by omega)]
        · rw [up _ h4, if_neg (by omega), if_neg (by omega), two _ (by omega)]
          split
          · rw [if_pos (by omega)]
          · rw [if_neg (by omega)]
theorem dgs_ch : ∀ (m c : Nat), c ∈ dgs m → c < 58 := by
  intro m
  induction m using Nat.strongRecOn with
  | ind m ih =>
    intro c hc
    by_cases h : m < 100
    · rw [dgs_lt h] at hc
      split at hc
      · simp only [List.mem_cons, List.not_mem_nil, or_false] at hc; omega
      · simp only [List.mem_cons, List.not_mem_nil, or_false] at hc; omega
    · rw [dgs_ge h, List.mem_append] at hc
      rcases hc with hc | hc
      · exact ih (m / 100) (by omega) c hc
      · simp only [List.mem_cons, List.not_mem_nil, or_false] at hc; omega
theorem N_neg_toInt (h : m ≤ 2147483648) : (-(N m)).toInt = -(m : Int) := by
  by_cases e : m = 2147483648
  · subst e; decide
  · rw [Int32.toInt_neg, N_toInt (by omega), Int.bmod_eq_of_le (by omega) (by omega)]
theorem neg_N_of (h : m < 2147483648) (hx : x.toInt = -(m : Int)) : -x = N m := by
  have e : x = -(N m) := Int32.toInt_inj.mp (by rw [hx, N_neg_toInt (by omega)])
  rw [e, Int32.neg_neg]
theorem lt_neg {k : Nat} (hk : k ≤ 2147483648) (hx : x.toInt = -(m : Int)) : (-(N k) < x) = (m < k) := by
  rw [Int32.lt_iff_toInt_lt, hx, N_neg_toInt hk]
  exact propext ⟨fun h => by omega, fun h => by omega⟩
theorem neg_lt {k : Nat} (hk : k ≤ 2147483648) (hx : x.toInt = -(m : Int)) : (x < -(N k)) = (k < m) := by
  rw [Int32.lt_iff_toInt_lt, hx, N_neg_toInt hk]
  exact propext ⟨fun h => by omega, fun h => by omega⟩
theorem div100 (hx : x.toInt = -(m : Int)) : (x / N 100).toInt = -((m / 100 : Nat) : Int) := by
  rw [Int32.toInt_div_of_ne_right _ _ (by decide), hx, N_toInt (by decide), Int.neg_tdiv, Int.tdiv_eq_ediv_of_nonneg (by omega)]
  omega
theorem rem100 (hm : m ≤ 2147483648) (hx : x.toInt = -(m : Int)) : x / N 100 * N 100 - x = N (m % 100) := by
  have h1 := div100 hx
  refine Int32.toInt_inj.mp ?_
  rw [N_toInt (by omega), Int32.toInt_sub, Int32.toInt_mul, h1, hx, N_toInt (by decide), Int.bmod_eq_of_le (n := -((m / 100 : Nat) : Int) * ((100 : Nat) : Int)) (by omega) (by omega), Int.bmod_eq_of_le (by omega) (by omega)]
  omega
theorem ch_d : ∀ c : Fin 10, (N (48 + c.val)).toInt8.toInt32 = N (48 + c.val) := by decide +kernel
/-- a byte put -/
theorem sB_N {i : Nat} {c : Nat} (hk : jk μ t = 22) (hi : i < jl μ t) (hl : jl μ t < 1000000) (hc : c < 128) : jsB μ (.ref t) (N i) (N c) = some (jsetI μ t i (N c)) := by
  rw [sB_eq, if_pos ⟨hk, by rw [jinb_N (by omega)]; exact decide_eq_true hi⟩, ch_3 hc, N_nat (by omega)]
theorem tab_at {o i c : Nat} (hk : jk μ o = 41) (hl : jl μ o = 100) (hi : i < 100) (hc : jiv μ o i = N c) : jaB μ (.ref o) (N i) = some (N c) := by
  rw [aB_eq, if_pos ⟨Or.inr (Or.inr hk), by rw [jinb_N (by omega), hl]; exact decide_eq_true hi⟩, N_nat (by omega), hc]
theorem jX.of (hx : jX μ) (h : jext μ' = jext μ) : jX μ' := by unfold jX; rw [h]; exact hx
theorem KD.fx (h : KD μ) (ht : jk μ t = 22) (F : Fx (fun b => b = t) (fun _ _ => False) μ μ') : KD μ' := by
  obtain ⟨hx, ⟨o, a1, a2, a3, a4⟩, ⟨o', b1, b2, b3, b4⟩⟩ := h
  have h1 : ¬ o = t := fun e => by rw [e, ht] at a2; exact absurd a2 (by decide)
  have h2 : ¬ o' = t := fun e => by rw [e, ht] at b2; exact absurd b2 (by decide)
  refine ⟨hx.of F.ext, ⟨o, ?_⟩, ⟨o', ?_⟩⟩
  · rw [F.ext, F.kk, F.ll, F.iv h1]; exact ⟨a1, a2, a3, a4⟩
  · rw [F.ext, F.kk, F.ll, F.iv h2]; exact ⟨b1, b2, b3, b4⟩
theorem N_pred' {i : Nat} (h : 1 ≤ i) : N i + NEG = N (i - 1) := N_pred h
/-- the digits, from the last on -/
theorem gc_loop : ∀ (m : Nat) (x : Int32) (e : Nat) (μ : jM) (u3 u4 : Value), m ≤ 2147483648 → x.toInt = -(m : Int) → KD μ → jk μ t = 22 → jl μ t < 1000000 → e ≤ jl μ t → (dgs m).length ≤ e → ∃ μ' x' u3' u4', jR d 278 22 [.int x, u1, .ref t, u3, u4, .int (N e), .int f] [] μ = jR d 278 104 [.int x', u1, .ref t, u3', u4', .int (N (e - (dgs m).length)), .int f] [] μ' ∧ Fx (fun b => b = t) (fun _ _ => False) μ μ' ∧ (∀ j, j < e - (dgs m).length ∨ e ≤ j → jiv μ' t j = jiv μ t j) ∧ ∀ i c, (dgs m)[i]? = some c → jiv μ' t (e - (dgs m).length + i) = N c := by
  intro m
  induction m using Nat.strongRecOn with
  | ind m ih =>
    intro x e μ u3 u4 hm hx hd hk hl he hlen
    obtain ⟨hX, ⟨o, a1, a2, a3, a4⟩, ⟨o', b1, b2, b3, b4⟩⟩ := hd
    have hset : ∀ i c, Fx (fun b => b = t) (fun _ _ => False) μ (jsetI μ t i (N c)) := fun i c => by refine Fx.setI Fx.refl ?_; show t = t; rfl
    have hset2 : ∀ i c i' c', Fx (fun b => b = t) (fun _ _ => False) μ (jsetI (jsetI μ t i (N c)) t i' (N c')) := fun i c i' c' => by
      refine Fx.setI (hset i c) ?_; show t = t; rfl
    have hot : ¬ o' = t := fun e => by rw [e, hk] at b2; exact absurd b2 (by decide)
    rw [b278_22 (h2 := ir_ref) (hx := hX)]
    by_cases h : m < 100
    · have e1 : -x = N m := neg_N_of (by omega) hx
      have c1 : (-(N 100) < x) = True := by rw [lt_neg (by decide) hx]; exact eq_true h
      have c9 : (x < -(N 9)) = (9 < m) := neg_lt (by decide) hx
      rw [dgs_lt h] at hlen ⊢
      have t1 := tab_at a2 a3 h (a4 m h)
      have c48 : 48 + m % 10 < 128 := by omega
      by_cases h10 : m < 10
      · rw [if_pos h10] at hlen ⊢
        have he1 : 1 ≤ e := hlen
        have s1 := sB_N (c := 48 + m % 10) hk (show e - 1 < jl μ t by omega) hl c48
        refine ⟨_, x, u3, u4, ?_, hset (e - 1) (48 + m % 10), fun j hj => ?_, fun i c hc => ?_⟩
        · simp only [Option.bind_some, Option.bind_none, if_true, if_false, true_or, or_true, false_or, or_false, true_and, and_true, false_and, and_false, decide_eq_true_eq, decide_true, decide_false, eq_self, not_true_eq_false, not_false_eq_true, jfit0, N_lit, N_add, N_mul, NEG_eq, pl_none, pl_some, rf_some, rf_none, jun_ref, jun_null, ir_ref, ir_null, jr_rf, jun_rf, Option.toList_some, Option.toList_none, List.nil_append, List.cons_append, c1, a1, e1, t1, N_pred he1, s1, c9, show ¬ 9 < m by omega]
          rfl
        · have hj : j < e - 1 ∨ e ≤ j := hj
          simp only [ty_setI, ty_setR, ty_rowI, ty_rowR, jk_setI, jk_setR, jk_rowI, jk_rowR, jl_setI, jl_setR, jl_rowI, jl_rowR, sz_setI, sz_setR, sz_rowI, sz_rowR, ext_setI, ext_setR, iv_setI, iv_setR, iv_rowI, iv_rowR, rv_setI, rv_setR, rv_rowI, rv_rowR, iv_setIn, iv_rowIn, rv_setRn, rv_rowRn, iv_rowIe, rv_rowRe, show ¬ j = e - 1 by omega, and_false, if_false]
        · have hi : i = 0 := by
            have := (List.getElem?_eq_some_iff.mp hc).1
            simp only [List.length_cons, List.length_nil] at this; omega
          subst hi
          have hc : some (48 + m) = some c := hc
          cases hc
          show jiv _ t (e - 1 + 0) = _
          simp only [ty_setI, ty_setR, ty_rowI, ty_rowR, jk_setI, jk_setR, jk_rowI, jk_rowR, jl_setI, jl_setR, jl_rowI, jl_rowR, sz_setI, sz_setR, sz_rowI, sz_rowR, ext_setI, ext_setR, iv_setI, iv_setR, iv_rowI, iv_rowR, rv_setI, rv_setR, rv_rowI, rv_rowR, iv_setIn, iv_rowIn, rv_setRn, rv_rowRn, iv_rowIe, rv_rowRe, Nat.add_zero, and_self, if_true, show m % 10 = m by omega]
      · rw [if_neg h10] at hlen ⊢
        have he2 : 2 ≤ e := hlen
        have c48' : 48 + m / 10 < 128 := by omega
        have s1 := sB_N (c := 48 + m % 10) hk (show e - 1 < jl μ t by omega) hl c48
        have s2 := sB_N (μ := jsetI μ t (e - 1) (N (48 + m % 10))) (c := 48 + m / 10) (i := e - 1 - 1) hk (show e - 1 - 1 < jl μ t by omega) hl c48'
        have t2 := tab_at (μ := jsetI μ t (e - 1) (N (48 + m % 10))) (c := 48 + m / 10) b2 b3 h (by simp only [iv_setIn hot]; exact b4 m h)
        have b1' : jext (jsetI μ t (e - 1) (N (48 + m % 10))) 6 = .ref o' := b1
        refine ⟨_, x, u3, u4, ?_, hset2 (e - 1) (48 + m % 10) (e - 1 - 1) (48 + m / 10), fun j hj => ?_, fun i c hc => ?_⟩
        · simp only [Option.bind_some, Option.bind_none, if_true, if_false, true_or, or_true, false_or, or_false, true_and, and_true, false_and, and_false, decide_eq_true_eq, decide_true, decide_false, eq_self, not_true_eq_false, not_false_eq_true, jfit0, N_lit, N_add, N_mul, NEG_eq, pl_none, pl_some, rf_some, rf_none, jun_ref, jun_null, ir_ref, ir_null, jr_rf, jun_rf, Option.toList_some, Option.toList_none, List.nil_append, List.cons_append, c1, a1, e1, t1, N_pred (show 1 ≤ e by omega), s1, c9, show 9 < m by omega, b1', t2, N_pred (show 1 ≤ e - 1 by omega), s2]
          rfl
        · have hj : j < e - 2 ∨ e ≤ j := hj
          simp only [ty_setI, ty_setR, ty_rowI, ty_rowR, jk_setI, jk_setR, jk_rowI, jk_rowR, jl_setI, jl_setR, jl_rowI, jl_rowR, sz_setI, sz_setR, sz_rowI, sz_rowR, ext_setI, ext_setR, iv_setI, iv_setR, iv_rowI, iv_rowR, rv_setI, rv_setR, rv_rowI, rv_rowR, iv_setIn, iv_rowIn, rv_setRn, rv_rowRn, iv_rowIe, rv_rowRe, show ¬ j = e - 1 by omega, show ¬ j = e - 1 - 1 by omega, and_false, if_false]
        · have hi : i < 2 := by
            have := (List.getElem?_eq_some_iff.mp hc).1
            simp only [List.length_cons, List.length_nil] at this; omega
          show jiv _ t (e - 2 + i) = _
          obtain rfl | rfl : i = 0 ∨ i = 1 := by omega
          · have hc : some (48 + m / 10) = some c := hc
            cases hc
            simp only [ty_setI, ty_setR, ty_rowI, ty_rowR, jk_setI, jk_setR, jk_rowI, jk_rowR, jl_setI, jl_setR, jl_rowI, jl_rowR, sz_setI, sz_setR, sz_rowI, sz_rowR, ext_setI, ext_setR, iv_setI, iv_setR, iv_rowI, iv_rowR, rv_setI, rv_setR, rv_rowI, rv_rowR, iv_setIn, iv_rowIn, rv_setRn, rv_rowRn, iv_rowIe, rv_rowRe, Nat.add_zero, show e - 2 = e - 1 - 1 by omega, and_self, if_true]
          · have hc : some (48 + m % 10) = some c := hc
            cases hc
            simp only [ty_setI, ty_setR, ty_rowI, ty_rowR, jk_setI, jk_setR, jk_rowI, jk_rowR, jl_setI, jl_setR, jl_rowI, jl_rowR, sz_setI, sz_setR, sz_rowI, sz_rowR, ext_setI, ext_setR, iv_setI, iv_setR, iv_rowI, iv_rowR, rv_setI, rv_setR, rv_rowI, rv_rowR, iv_setIn, iv_rowIn, rv_setRn, rv_rowRn, iv_rowIe, rv_rowRe, show e - 2 + 1 = e - 1 by omega, show ¬ e - 1 = e - 1 - 1 by omega, and_false, if_false, and_self, if_true]
    · have c1 : (-(N 100) < x) = False := by rw [lt_neg (by decide) hx]; exact eq_false h
      have e1 := rem100 hm hx
      have hr : m % 100 < 100 := by omega
      rw [dgs_ge h] at hlen ⊢
      rw [List.length_append] at hlen ⊢
      have hlen : (dgs (m / 100)).length + 2 ≤ e := hlen
      have t1 := tab_at a2 a3 hr (a4 _ hr)
      have s1 := sB_N (c := 48 + m % 100 % 10) hk (show e - 1 < jl μ t by omega) hl (by omega)
      have s2 := sB_N (μ := jsetI μ t (e - 1) (N (48 + m % 100 % 10))) (c := 48 + m % 100 / 10) (i := e - 1 - 1) hk (show e - 1 - 1 < jl μ t by omega) hl (by omega)
      have t2 := tab_at (μ := jsetI μ t (e - 1) (N (48 + m % 100 % 10))) (c := 48 + m % 100 / 10) b2 b3 hr (by simp only [iv_setIn hot]; exact b4 _ hr)
      have b1' : jext (jsetI μ t (e - 1) (N (48 + m % 100 % 10))) 6 = .ref o' := b1
      have F1 := hset2 (e - 1) (48 + m % 100 % 10) (e - 1 - 1) (48 + m % 100 / 10)
      obtain ⟨μ', x', u3', u4', r1, r2, r3, r4⟩ := ih (m / 100) (by omega) (x / N 100) (e - 1 - 1) _ (.int (x / N 100)) (.int (N (m % 100))) (by omega) (div100 hx) (KD.fx ⟨hX, ⟨o, a1, a2, a3, a4⟩, ⟨o', b1, b2, b3, b4⟩⟩ hk F1) (by rw [F1.kk]; exact hk) (by rw [F1.ll]; exact hl) (by rw [F1.ll]; omega) (by omega)
      have e2 : e - 1 - 1 - (dgs (m / 100)).length = e - ((dgs (m / 100)).length + 2) := by omega
      rw [e2] at r1 r3 r4
      refine ⟨μ', x', u3', u4', ?_, Fx.trans F1 r2, fun j hj => ?_, fun i c hc => ?_⟩
      · simp only [Option.bind_some, Option.bind_none, if_true, if_false, true_or, or_true, false_or, or_false, true_and, and_true, false_and, and_false, decide_eq_true_eq, decide_true, decide_false, eq_self, not_true_eq_false, not_false_eq_true, jfit0, N_lit, N_add, N_mul, NEG_eq, pl_none, pl_some, rf_some, rf_none, jun_ref, jun_null, ir_ref, ir_null, jr_rf, jun_rf, Option.toList_some, Option.toList_none, List.nil_append, List.cons_append, c1, a1, e1, t1, N_pred (show 1 ≤ e by omega), s1, b1', t2, N_pred (show 1 ≤ e - 1 by omega), s2, r1]
        rfl
      · have hj : j < e - ((dgs (m / 100)).length + 2) ∨ e ≤ j := hj
        rw [r3 j (by omega)]
        simp only [ty_setI, ty_setR, ty_rowI, ty_rowR, jk_setI, jk_setR, jk_rowI, jk_rowR, jl_setI, jl_setR, jl_rowI, jl_rowR, sz_setI, sz_setR, sz_rowI, sz_rowR, ext_setI, ext_setR, iv_setI, iv_setR, iv_rowI, iv_rowR, rv_setI, rv_setR, rv_rowI, rv_rowR, iv_setIn, iv_rowIn, rv_setRn, rv_rowRn, iv_rowIe, rv_rowRe, show ¬ j = e - 1 by omega, show ¬ j = e - 1 - 1 by omega, and_false, if_false]
      · by_cases hi : i < (dgs (m / 100)).length
        · rw [List.getElem?_append_left hi] at hc
          exact r4 i c hc
        · rw [List.getElem?_append_right (by omega)] at hc
          have hi2 : i - (dgs (m / 100)).length < 2 := by
            have := (List.getElem?_eq_some_iff.mp hc).1
            simp only [List.length_cons, List.length_nil] at this; omega
          show jiv μ' t (e - ((dgs (m / 100)).length + 2) + i) = _
          rw [r3 _ (by omega)]
          obtain e3 | e3 : i = (dgs (m / 100)).length ∨ i = (dgs (m / 100)).length + 1 := by omega
          · rw [e3, Nat.sub_self] at hc
            have hc : some (48 + m % 100 / 10) = some c := hc
            cases hc
            simp only [ty_setI, ty_setR, ty_rowI, ty_rowR, jk_setI, jk_setR, jk_rowI, jk_rowR, jl_setI, jl_setR, jl_rowI, jl_rowR, sz_setI, sz_setR, sz_rowI, sz_rowR, ext_setI, ext_setR, iv_setI, iv_setR, iv_rowI, iv_rowR, rv_setI, rv_setR, rv_rowI, rv_rowR, iv_setIn, iv_rowIn, rv_setRn, rv_rowRn, iv_rowIe, rv_rowRe, show e - ((dgs (m / 100)).length + 2) + i = e - 1 - 1 by omega, and_self, if_true]
          · rw [e3, show (dgs (m / 100)).length + 1 - (dgs (m / 100)).length = 1 by omega] at hc
            have hc : some (48 + m % 100 % 10) = some c := hc
            cases hc
            simp only [ty_setI, ty_setR, ty_rowI, ty_rowR, jk_setI, jk_setR, jk_rowI, jk_rowR, jl_setI, jl_setR, jl_rowI, jl_rowR, sz_setI, sz_setR, sz_rowI, sz_rowR, ext_setI, ext_setR, iv_setI, iv_setR, iv_rowI, iv_rowR, rv_setI, rv_setR, rv_rowI, rv_rowR, iv_setIn, iv_rowIn, rv_setRn, rv_rowRn, iv_rowIe, rv_rowRe, show e - ((dgs (m / 100)).length + 2) + i = e - 1 by omega, show ¬ e - 1 = e - 1 - 1 by omega, and_false, if_false, and_self, if_true]
end DIG
