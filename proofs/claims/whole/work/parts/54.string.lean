/-! TEXTS: constant ones, made ones; their methods -/
/-- a text at a, its bytes at t -/
def ST (μ : jM) (a t : Nat) (s : List Nat) : Prop := (jk μ a = 0 ∨ jk μ a = 40) ∧ jiv μ a 1 = N 0 ∧ jrv μ a 0 = some t ∧ (jk μ t = 41 ∨ jk μ t = 22) ∧ jl μ t = s.length ∧ s.length < 1000 ∧ ∀ i c, s[i]? = some c → jiv μ t i = N c ∧ c < 128
section STR
variable {μ μ' : jM} {a t d i c n w cap : Nat} {s : List Nat}
theorem shr0 (x : Int32) : x >>> (N 0 &&& N 31) = x := by
  rw [show N 0 &&& N 31 = 0 by decide]; exact Int32.shiftRight_zero
theorem shl0 (x : Int32) : x <<< (N 0 &&& N 31) = x := by
  rw [show N 0 &&& N 31 = 0 by decide]; exact Int32.shiftLeft_zero
theorem ch_all : ∀ c : Fin 128, ((Int32.toUInt32 (N c.val &&& N 255) % 65536).toInt32 = N c.val) ∧ jrf 6 (N c.val) = true ∧ (N c.val).toInt8.toInt32 = N c.val ∧ jrf 5 (N c.val) = true := by decide +kernel
theorem ch_1 (h : c < 128) : (Int32.toUInt32 (N c &&& N 255) % 65536).toInt32 = N c := (ch_all ⟨c, h⟩).1
theorem ch_2 (h : c < 128) : jrf 6 (N c) = true := (ch_all ⟨c, h⟩).2.1
theorem ch_3 (h : c < 128) : (N c).toInt8.toInt32 = N c := (ch_all ⟨c, h⟩).2.2.1
theorem jrf5_0 : jrf 5 (N 0) = true := rfl
theorem gR0' {sl : Nat} (h : jk μ a = 0 ∨ jk μ a = 40) (hs : sl = 0) : jgR μ 0 sl (.ref a) = some (va_rf (jrv μ a sl)) := by
  rw [gR0, if_pos]
  rcases h with h | h
  · exact Or.inl h
  · exact Or.inr ⟨h, hs⟩
theorem gI0' {sl : Nat} (h : jk μ a = 0 ∨ jk μ a = 40) (hs : sl = 1) : jgI μ 0 sl (.ref a) = some (jiv μ a sl) := by
  rw [gI0, if_pos]
  rcases h with h | h
  · exact Or.inl h
  · exact Or.inr ⟨h, hs⟩
theorem rv0' (h : jk μ a = 0 ∨ jk μ a = 40) : jrecv μ 0 (.ref a) = true := by rw [rv0, decide_eq_true h]
theorem ST.al (h : ST μ a t s) : jal μ (.ref t) = some (N s.length) := by
  rw [← h.2.2.2.2.1]
  rcases h.2.2.2.1 with g | g
  · exact alen_of g (by decide)
  · exact alen_of g (by decide)
theorem ST.at (h : ST μ a t s) (hc : s[i]? = some c) : jaB μ (.ref t) (N i) = some (N c) := by
  have hi : i < s.length := (List.getElem?_eq_some_iff.mp hc).1
  have h6 := h.2.2.2.2.2.1
  rw [aB_eq, if_pos, N_nat (by omega), (h.2.2.2.2.2.2 i c hc).1]
  refine ⟨?_, by rw [jinb_N (by omega), h.2.2.2.2.1]; exact decide_eq_true hi⟩
  rcases h.2.2.2.1 with g | g
  · exact Or.inr (Or.inr g)
  · exact Or.inr (Or.inl g)
theorem st_coder (hx : jX μ) (h : ST μ a t s) : jC d 282 [.ref a] μ = some (some (.int (N 0)), μ) := by
  rw [jC_run (by decide)]
  show jR d 282 0 [.ref a] [] μ = _
  rw [b282_0 (hx := hx), if_neg (by decide), gI0' h.1 rfl, h.2.1]
  simp only [b282_14, aI_eq, aB_eq, aR_eq, sI_eq, sB_eq, sR_eq, Option.bind_some, Option.bind_none, if_true, if_false, true_or, or_true, false_or, or_false, true_and, and_true, false_and, and_false, decide_eq_true_eq, decide_true, decide_false, eq_self, not_true_eq_false, not_false_eq_true, jfit0, N_lit, N_add, N_mul, NEG_eq, pl_none, pl_some, rf_some, rf_none, jun_ref, jun_null, ir_ref, ir_null, jr_rf, jun_rf, Option.toList_some, Option.toList_none, List.nil_append, List.cons_append, jrf5_0]
theorem st_length (hx : jX μ) (h : ST μ a t s) : jC (d + 1) 281 [.ref a] μ = some (some (.int (N s.length)), μ) := by
  rw [jC_run (by decide)]
  show jR (d + 1) 281 0 [.ref a] [] μ = _
  rw [b281_0, gR0' h.1 rfl, h.2.2.1]
  simp only [aI_eq, aB_eq, aR_eq, sI_eq, sB_eq, sR_eq, Option.bind_some, Option.bind_none, if_true, if_false, true_or, or_true, false_or, or_false, true_and, and_true, false_and, and_false, decide_eq_true_eq, decide_true, decide_false, eq_self, not_true_eq_false, not_false_eq_true, jfit0, N_lit, N_add, N_mul, NEG_eq, pl_none, pl_some, rf_some, rf_none, jun_ref, jun_null, ir_ref, ir_null, jr_rf, jun_rf, Option.toList_some, Option.toList_none, List.nil_append, List.cons_append, h.al, rv0' h.1, st_coder hx h, b281_9, shr0]
theorem st_latin (hx : jX μ) (h : ST μ a t s) : jC d 284 [.ref a] μ = some (some (.int (N 1)), μ) := by
  rw [jC_run (by decide)]
  show jR d 284 0 [.ref a] [] μ = _
  rw [b284_0 (hx := hx), if_neg (by decide), gI0' h.1 rfl, h.2.1]
  simp only [b284_18, aI_eq, aB_eq, aR_eq, sI_eq, sB_eq, sR_eq, Option.bind_some, Option.bind_none, if_true, if_false, true_or, or_true, false_or, or_false, true_and, and_true, false_and, and_false, decide_eq_true_eq, decide_true, decide_false, eq_self, not_true_eq_false, not_false_eq_true, jfit0, N_lit, N_add, N_mul, NEG_eq, pl_none, pl_some, rf_some, rf_none, jun_ref, jun_null, ir_ref, ir_null, jr_rf, jun_rf, Option.toList_some, Option.toList_none, List.nil_append, List.cons_append, show jrf 4 (N 1) = true from rfl]
theorem st_charAt (hx : jX μ) (h : ST μ a t s) (hc : s[i]? = some c) : jC (d + 3) 283 [.ref a, .int (N i)] μ = some (some (.int (N c)), μ) := by
  have hi : i < s.length := (List.getElem?_eq_some_iff.mp hc).1
  have h6 := h.2.2.2.2.2.1
  have hc1 := (h.2.2.2.2.2.2 i c hc).2
  have r1 : jisref (jext μ 1) = true := hx.2 1 (Or.inl rfl) (by decide)
  have e312 : jC d 312 [.int (N i), .int (N s.length), jext μ 1] μ = some (some (.int (N i)), μ) := by
    rw [jC_run (by decide)]
    show jR d 312 0 [.int (N i), .int (N s.length), jext μ 1] [] μ = _
    rw [b312_0 (h2 := r1)]
    simp only [aI_eq, aB_eq, aR_eq, sI_eq, sB_eq, sR_eq, Option.bind_some, Option.bind_none, if_true, if_false, true_or, or_true, false_or, or_false, true_and, and_true, false_and, and_false, decide_eq_true_eq, decide_true, decide_false, eq_self, not_true_eq_false, not_false_eq_true, jfit0, N_lit, N_add, N_mul, NEG_eq, pl_none, pl_some, rf_some, rf_none, jun_ref, jun_null, ir_ref, ir_null, jr_rf, jun_rf, Option.toList_some, Option.toList_none, List.nil_append, List.cons_append, N_lt (show i < 2147483648 by omega) (show 0 < 2147483648 by decide), Nat.not_lt_zero, N_lt (show i < 2147483648 by omega) (show s.length < 2147483648 by omega), hi]
  have e285 : jC (d + 1) 285 [.int (N i), .int (N s.length)] μ = some (none, μ) := by
    rw [jC_run (by decide)]
    show jR (d + 1) 285 0 [.int (N i), .int (N s.length)] [] μ = _
    rw [b285_0 (hx := hx)]
    simp only [aI_eq, aB_eq, aR_eq, sI_eq, sB_eq, sR_eq, Option.bind_some, Option.bind_none, if_true, if_false, true_or, or_true, false_or, or_false, true_and, and_true, false_and, and_false, decide_eq_true_eq, decide_true, decide_false, eq_self, not_true_eq_false, not_false_eq_true, jfit0, N_lit, N_add, N_mul, NEG_eq, pl_none, pl_some, rf_some, rf_none, jun_ref, jun_null, ir_ref, ir_null, jr_rf, jun_rf, Option.toList_some, Option.toList_none, List.nil_append, List.cons_append, e312, b285_8]
  have e298 : jC (d + 2) 298 [.ref t, .int (N i)] μ = some (some (.int (N c)), μ) := by
    rw [jC_run (by decide)]
    show jR (d + 2) 298 0 [.ref t, .int (N i)] [] μ = _
    rw [b298_0 (h0 := ir_ref)]
    simp only [aI_eq, aB_eq, aR_eq, sI_eq, sB_eq, sR_eq, Option.bind_some, Option.bind_none, if_true, if_false, true_or, or_true, false_or, or_false, true_and, and_true, false_and, and_false, decide_eq_true_eq, decide_true, decide_false, eq_self, not_true_eq_false, not_false_eq_true, jfit0, N_lit, N_add, N_mul, NEG_eq, pl_none, pl_some, rf_some, rf_none, jun_ref, jun_null, ir_ref, ir_null, jr_rf, jun_rf, Option.toList_some, Option.toList_none, List.nil_append, List.cons_append, h.al, e285]
    rw [b298_6 (h0 := ir_ref)]
    simp only [h.at hc, aI_eq, aB_eq, aR_eq, sI_eq, sB_eq, sR_eq, Option.bind_some, Option.bind_none, if_true, if_false, true_or, or_true, false_or, or_false, true_and, and_true, false_and, and_false, decide_eq_true_eq, decide_true, decide_false, eq_self, not_true_eq_false, not_false_eq_true, jfit0, N_lit, N_add, N_mul, NEG_eq, pl_none, pl_some, rf_some, rf_none, jun_ref, jun_null, ir_ref, ir_null, jr_rf, jun_rf, Option.toList_some, Option.toList_none, List.nil_append, List.cons_append, ch_1 hc1, ch_2 hc1]
  rw [jC_run (by decide)]
  show jR (d + 3) 283 0 [.ref a, .int (N i)] [] μ = _
  rw [b283_0, rv0' h.1, if_pos rfl, st_latin hx h]
  simp only [aI_eq, aB_eq, aR_eq, sI_eq, sB_eq, sR_eq, Option.bind_some, Option.bind_none, if_true, if_false, true_or, or_true, false_or, or_false, true_and, and_true, false_and, and_false, decide_eq_true_eq, decide_true, decide_false, eq_self, not_true_eq_false, not_false_eq_true, jfit0, N_lit, N_add, N_mul, NEG_eq, pl_none, pl_some, rf_some, rf_none, jun_ref, jun_null, ir_ref, ir_null, jr_rf, jun_rf, Option.toList_some, Option.toList_none, List.nil_append, List.cons_append]
  rw [b283_4, if_neg (by decide), gR0' h.1 rfl, h.2.2.1]
  simp only [aI_eq, aB_eq, aR_eq, sI_eq, sB_eq, sR_eq, Option.bind_some, Option.bind_none, if_true, if_false, true_or, or_true, false_or, or_false, true_and, and_true, false_and, and_false, decide_eq_true_eq, decide_true, decide_false, eq_self, not_true_eq_false, not_false_eq_true, jfit0, N_lit, N_add, N_mul, NEG_eq, pl_none, pl_some, rf_some, rf_none, jun_ref, jun_null, ir_ref, ir_null, jr_rf, jun_rf, Option.toList_some, Option.toList_none, List.nil_append, List.cons_append, e298, b283_15, ch_2 hc1]
theorem ST.fa {S : Nat → Prop} {T : Nat → Nat → Prop} (h : ST μ a t s) (hj : JW μ) (F : Fa S T n w μ μ') (ha : ¬ S a) (ht : ¬ S t) (hT : ¬ T a 0) : ST μ' a t s := by
  have la : a < jsz μ := by rcases h.1 with g | g <;> exact hj.lt (ne99 g (by decide))
  have lt : t < jsz μ := by rcases h.2.2.2.1 with g | g <;> exact hj.lt (ne99 g (by decide))
  unfold ST
  rw [F.kk la, F.kk lt, F.ll lt, F.iv la ha, F.iv lt ht, F.rv la hT]
  exact h
end STR
/-- Arrays.copyOf of bytes -/
theorem cp_B {μ : jM} {a b sp dp n0 : Nat} (hk : jk μ a = 22 ∨ jk μ a = 41) (hk' : jk μ b = 22) (h1 : sp + n0 ≤ jl μ a) (h2 : dp + n0 ≤ jl μ b) (b1 : jl μ a < 1000000) (b2 : jl μ b < 1000000) : jcp μ (.ref a) (N sp) (.ref b) (N dp) (N n0) = some (jrowI μ b (va_cpy (jiv μ a) (jiv μ b) sp dp n0)) := by
  have le : ∀ x : Nat, x < 2147483648 → (0 : Int32) ≤ N x := fun x hx => by rw [show (0 : Int32) = N 0 from rfl, N_le (by decide) hx]; omega
  rw [cp_eq, N_nat (by omega), N_nat (by omega), N_nat (by omega), if_pos]
  refine ⟨?_, le _ (by omega), le _ (by omega), le _ (by omega), h1, h2⟩
  rcases hk with hk | hk
  · exact Or.inl ⟨by rw [hk, hk'], Or.inr (Or.inr hk)⟩
  · exact Or.inr ⟨hk, hk'⟩
/-- a clone of bytes -/
theorem x_cloneB {μ : jM} {a : Nat} (hj : JW μ) (hk : jk μ a = 22) : jclk μ 22 (.ref a) = true ∧ jcl μ (.ref a) = some (.ref (jsz μ), jrowI (jnew μ 22 (jl μ a) (jl μ a)) (jsz μ) (jiv μ a)) ∧ jck (jrowI (jnew μ 22 (jl μ a) (jl μ a)) (jsz μ) (jiv μ a)) 22 (.ref (jsz μ)) = true ∧ Fa (fun _ => False) (fun _ _ => False) 1 (jl μ a) μ (jrowI (jnew μ 22 (jl μ a) (jl μ a)) (jsz μ) (jiv μ a)) ∧ jk (jrowI (jnew μ 22 (jl μ a) (jl μ a)) (jsz μ) (jiv μ a)) (jsz μ) = 22 ∧ jl (jrowI (jnew μ 22 (jl μ a) (jl μ a)) (jsz μ) (jiv μ a)) (jsz μ) = jl μ a := by
  have c1 : jclk μ 22 (.ref a) = true := by
    unfold jclk
    show ((jty μ a).map fun q => (a, q.1, q.2)).any _ = true
    rw [jt_of hk (by decide)]; rfl
  have c2 : jck (jrowI (jnew μ 22 (jl μ a) (jl μ a)) (jsz μ) (jiv μ a)) 22 (.ref (jsz μ)) = true := by
    unfold jck
    show ((jty (jrowI (jnew μ 22 (jl μ a) (jl μ a)) (jsz μ) (jiv μ a)) (jsz μ)).map fun q => (jsz μ, q.1, q.2)).any _ = true
    rw [ty_rowI, jt_of (nk_e (k := 22)) (by decide)]; rfl
  have F0 : Fa (fun _ => False) (fun _ _ => False) 1 (jl μ a) μ (jnew μ 22 (jl μ a) (jl μ a)) := Fa.new hj
  have F1 : Fx (fun b => b = jsz μ) (fun _ _ => False) (jnew μ 22 (jl μ a) (jl μ a)) (jrowI (jnew μ 22 (jl μ a) (jl μ a)) (jsz μ) (jiv μ a)) := by refine Fx.rowI Fx.refl ?_; show jsz μ = jsz μ; rfl
  have F2 := F0.trans (F1.fa F0.jw) (fun b hb g => by have g : b = jsz μ := g; omega) (fun _ _ _ g => g)
  refine ⟨c1, by rw [cl_eq, if_pos (Or.inr hk), hk], c2, F2.mono (fun _ _ g => g) (fun _ _ _ g => g) (by omega) (by omega), by rw [jk_rowI]; exact nk_e, by rw [jl_rowI]; exact nl_e⟩
theorem x_copyOfB {μ : jM} {a d n0 : Nat} (hj : JW μ) (hk : jk μ a = 22) (hl : jl μ a < 65536) (hn : n0 ≤ 65536) : ∃ μ', jC (d + 1) 306 [.ref a, .int (N n0)] μ = some (some (.ref (jsz μ)), μ') ∧ Fa (fun _ => False) (fun _ _ => False) 1 n0 μ μ' ∧ jsz μ' = jsz μ + 1 ∧ jk μ' (jsz μ) = 22 ∧ jl μ' (jsz μ) = n0 ∧ ∀ j, j < n0 → j < jl μ a → jiv μ' (jsz μ) j = jiv μ a j := by
  have ha := hj.lt (ne99 hk (by decide))
  rw [jC_run (by decide)]
  show ∃ μ', jR (d + 1) 306 0 [.ref a, .int (N n0), .retAddr 0] [] μ = _ ∧ _
  rw [b306_0 (h0 := ir_ref)]
  simp only [alen_of hk (by decide), Option.bind_some, N_inj (show n0 < 2147483648 by omega) (show jl μ a < 2147483648 by omega)]
  by_cases e : n0 = jl μ a
  · obtain ⟨c1, c2, c3, c4, c5, c6⟩ := x_cloneB hj hk
    subst e
    refine ⟨_, ?_, c4, rfl, c5, c6, fun j _ _ => ?_⟩
    · simp only [if_true, c1, c2, Option.bind_some, c3]
    · rw [iv_rowIe]
  · have F0 : Fa (fun _ => False) (fun _ _ => False) 1 n0 μ (jnew μ 22 n0 n0) := Fa.new hj
    have k1 : jk (jnew μ 22 n0 n0) a = 22 := by rw [nk_n ha]; exact hk
    have k2 : jk (jnew μ 22 n0 n0) (jsz μ) = 22 := nk_e
    have l1 : jl (jnew μ 22 n0 n0) a = jl μ a := nl_n ha
    have l2 : jl (jnew μ 22 n0 n0) (jsz μ) = n0 := nl_e
    have em : imin (N (jl μ a)) (N n0) = N (min (jl μ a) n0) := imin_N (by omega) (by omega)
    refine ⟨jrowI (jnew μ 22 n0 n0) (jsz μ) (va_cpy (jiv (jnew μ 22 n0 n0) a) (jiv (jnew μ 22 n0 n0) (jsz μ)) 0 0 (min (jl μ a) n0)), ?_, ?_, rfl, ?_, ?_, fun j h1 h2 => ?_⟩
    · rw [if_neg e]
      simp only [jnA_N hn, alen_of k1 (by decide), l1, Option.bind_some, math_min, em, Option.toList_some, List.cons_append, List.nil_append]
      rw [b306_28 (h2 := ir_ref) (hs0 := ir_ref) (hs2 := ir_ref)]
      rw [show (0 : Int32) = N 0 from rfl, cp_B (Or.inl k1) k2 (by omega) (by omega) (by omega) (by omega)]
      rfl
    · have F1 : Fx (fun b => b = jsz μ) (fun _ _ => False) (jnew μ 22 n0 n0) (jrowI (jnew μ 22 n0 n0) (jsz μ) (va_cpy (jiv (jnew μ 22 n0 n0) a) (jiv (jnew μ 22 n0 n0) (jsz μ)) 0 0 (min (jl μ a) n0))) := by refine Fx.rowI Fx.refl ?_; show jsz μ = jsz μ; rfl
      have F2 := F0.trans (F1.fa F0.jw) (fun b hb g => by have g : b = jsz μ := g; omega) (fun _ _ _ g => g)
      exact F2.mono (fun _ _ g => g) (fun _ _ _ g => g) (by omega) (by omega)
    · rw [jk_rowI]; exact k2
    · rw [jl_rowI]; exact l2
    · rw [iv_rowIe]
      unfold va_cpy
      rw [if_pos (by omega), nv_n ha]
      congr 1
      omega
