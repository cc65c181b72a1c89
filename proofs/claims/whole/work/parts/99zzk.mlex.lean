/-! THE REFERENCE's READER: its bytes -/
/-- what the lexer changes; what the reader changes -/
def NX (M : Nat) (μ μ' : jM) : Prop := Fx (fun a => a = M) (fun _ _ => False) μ μ' ∧ ∀ j, ¬ (17 ≤ j ∧ j ≤ 20) → j ≠ 22 → jiv μ' M j = jiv μ M j
def PX (M : Nat) (μ μ' : jM) : Prop := Fx (fun a => a = M ∨ a = M + 400) (fun _ _ => False) μ μ' ∧ ∀ j, ¬ (17 ≤ j ∧ j ≤ 23) → j ≠ 26 → jiv μ' M j = jiv μ M j
/-- a reader over these bytes -/
def LB (μ : jM) (M B : Nat) (bs : List Nat) : Prop := QS μ M ∧ MRt μ M bs ∧ KX μ B ∧ JW μ ∧ B ≤ M
/-- the byte ahead -/
def hdB : List Nat → Int32
  | [] => NEG
  | c :: _ => N c
section LEX
variable {μ μ' μ'' : jM} {M B d i j k a t c n w : Nat} {bs r A s : List Nat} {v x : Int32}
theorem NX.refl : NX M μ μ := ⟨Fx.refl, fun _ _ _ => rfl⟩
theorem NX.trans (a : NX M μ μ') (b : NX M μ' μ'') : NX M μ μ'' := ⟨a.1.trans b.1, fun j h1 h2 => (b.2 j h1 h2).trans (a.2 j h1 h2)⟩
theorem PX.refl : PX M μ μ := ⟨Fx.refl, fun _ _ _ => rfl⟩
theorem PX.trans (a : PX M μ μ') (b : PX M μ' μ'') : PX M μ μ'' := ⟨a.1.trans b.1, fun j h1 h2 => (b.2 j h1 h2).trans (a.2 j h1 h2)⟩
theorem NX.px (a : NX M μ μ') : PX M μ μ' := ⟨a.1.mono (fun _ k => Or.inl k) (fun _ _ k => k), fun j h1 h2 => a.2 j (fun q => h1 (by omega)) (by omega)⟩
theorem NX.set (hk : (17 ≤ k ∧ k ≤ 20) ∨ k = 22) : NX M μ (jsetI μ M k v) := ⟨Fx.setI Fx.refl rfl, fun j h1 h2 => ivj (by omega)⟩
theorem PX.set (hk : (17 ≤ k ∧ k ≤ 23) ∨ k = 26) : PX M μ (jsetI μ M k v) := ⟨Fx.setI Fx.refl (Or.inl rfl), fun j h1 h2 => ivj (by omega)⟩
theorem LB.px (h : LB μ M B bs) (F : PX M μ μ') : LB μ' M B bs := by
  obtain ⟨hq, ⟨t1, t2, t3⟩, hx, hj, hB⟩ := h
  refine ⟨F.1.qs hq (fun a j k => k.elim), ⟨t1, by rw [F.2 16 (by decide) (by decide)]; exact t2, fun i b hb => ?_⟩, hx.fx hj F.1 (fun b hb k => by omega) (fun b j hb k => k), (F.1.fa hj).jw, hB⟩
  rw [F.1.iv (a := M + 399) (fun q => by omega)]
  exact t3 i b hb
theorem LB.nx (h : LB μ M B bs) (F : NX M μ μ') : LB μ' M B bs := h.px F.px
theorem LB.k13 (h : LB μ M B bs) : jk μ M = 13 := h.1.k13
theorem hdB_cons : hdB (c :: r) = N c := rfl
theorem r_byteAt (h : LB μ M B (A ++ r)) : jC d 174 [.ref M, .int (N A.length)] μ = some (some (.int (hdB r)), μ) := by
  obtain ⟨hq, ⟨t1, t2, t3⟩, -⟩ := id h
  have k13 := hq.k13
  rw [jC_run (by decide)]
  show jR d 174 0 [.ref M, .int (N A.length)] [] μ = _
  rw [List.length_append] at t1 t2
  rw [b174_0]
  simp only [gI13, gR13, pI13, pR13, rv13, k13, t2, if_true, Option.bind_some, N_lt (show A.length < 2147483648 by omega) (show A.length + r.length < 2147483648 by omega)]
  cases r with
  | nil =>
    rw [if_neg (show ¬ A.length < A.length + ([] : List Nat).length by rw [List.length_nil]; omega), b174_18]
    rfl
  | cons c r =>
    rw [List.length_cons] at t1
    rw [if_pos (show A.length < A.length + (c :: r).length by rw [List.length_cons]; omega)]
    have k := hq.kd (o := 399) (a := M + 399) (by decide) rfl
    have g := ent_get (μ := μ) (i := A.length) (l := 40) k.1 k.2 (by omega) (by decide)
    have e := (t3 A.length c (by rw [List.getElem?_append_right (Nat.le_refl _), Nat.sub_self]; rfl)).2
    rw [e] at g
    simp only [hq.2.1 15 399 rfl, rf_some, Option.bind_some, g]
    rw [b174_18]
    rfl
/-- is this a text's character? -/
theorem st_index {c : Nat} (hx : jX μ) (hs : ST μ a t s) (hc : c < 128) : ∃ v, jC (d + 4) 287 [.ref a, .int (N c)] μ = some (some (.int v), μ) ∧ (v < N 0) = ¬ c ∈ s := by
  have s9 := hs.2.2.2.2.2.1
  have loop : ∀ m i, i + m = s.length → (∀ j, j < i → s[j]? ≠ some c) → ∃ v, jR (d + 1) 303 7 [.ref t, .int (N c), .int (N 0), .int (N s.length), .int (N c), .int (N i)] [] μ = some (some (.int v), μ) ∧ (v < N 0) = ¬ c ∈ s := by
    intro m
    induction m with
    | zero =>
      intro i hi hp
      refine ⟨NEG, ?_, ?_⟩
      · rw [b303_7 (h0 := ir_ref), if_neg (by rw [N_lt (by omega) (by omega)]; omega)]
        rfl
      · have : ¬ c ∈ s := fun g => by
          obtain ⟨j, hj⟩ := List.mem_iff_getElem?.mp g
          have := (List.getElem?_eq_some_iff.mp hj).1
          exact hp j (by omega) hj
        simp only [this, not_false_eq_true]
        exact eq_true (by decide)
    | succ m ih =>
      intro i hi hp
      obtain ⟨cs, hcs⟩ : ∃ c, s[i]? = some c := ⟨_, List.getElem?_eq_getElem (by omega)⟩
      have g := hs.at hcs
      have hcs1 := (hs.2.2.2.2.2.2 i cs hcs).2
      rw [b303_7 (h0 := ir_ref), if_pos (by rw [N_lt (by omega) (by omega)]; omega), g]
      simp only [Option.bind_some, N_inj (show cs < 2147483648 by omega) (show c < 2147483648 by omega)]
      by_cases e : cs = c
      · rw [if_pos e]
        refine ⟨N i, rfl, ?_⟩
        have : c ∈ s := by rw [← e]; exact List.mem_of_getElem? hcs
        simp only [this, not_true_eq_false]
        rw [N_lt (by omega) (by decide)]
        exact eq_false (by omega)
      · rw [if_neg e, show N i + 1 = N (i + 1) by rw [show (1 : Int32) = N 1 from rfl, N_add]]
        exact ih (i + 1) (by omega) (fun j hj => by
          by_cases ej : j = i
          · rw [ej, hcs]
            exact fun g => e (Option.some.inj g)
          · exact hp j (by omega))
  obtain ⟨v, c1, c2⟩ := loop s.length 0 (by omega) (fun j hj => absurd hj (Nat.not_lt_zero j))
  refine ⟨v, ?_, c2⟩
  have e303 : jC (d + 1) 303 [.ref t, .int (N c), .int (N 0), .int (N s.length)] μ = some (some (.int v), μ) := by
    rw [jC_run (by decide)]
    show jR (d + 1) 303 0 [.ref t, .int (N c), .int (N 0), .int (N s.length), .retAddr 0, .retAddr 0] [] μ = _
    rw [b303_0 (h0 := ir_ref), ch_3 hc]
    exact c1
  have e302 : jC (d + 1) 302 [.int (N c)] μ = some (some (.int (N 1)), μ) := by
    rw [jC_run (by decide)]
    show jR (d + 1) 302 0 [.int (N c)] [] μ = _
    rw [b302_0, if_neg (show ¬ N c < 0 by show ¬ N c < N 0; rw [N_lt (by omega) (by decide)]; omega), if_neg (show ¬ 255 < N c by show ¬ N 255 < N c; rw [N_lt (by decide) (by omega)]; omega), b302_16]
    rfl
  have e301 : jC (d + 2) 301 [.ref t, .int (N c), .int (N 0), .int (N s.length)] μ = some (some (.int v), μ) := by
    rw [jC_run (by decide)]
    show jR (d + 2) 301 0 [.ref t, .int (N c), .int (N 0), .int (N s.length)] [] μ = _
    have mm : imax (N 0) 0 = N 0 := rfl
    have mn : imin (N s.length) (N s.length) = N s.length := by rw [imin_N (by omega) (by omega), Nat.min_self]
    rw [b301_0 (h0 := ir_ref), e302]
    show jR (d + 2) 301 4 [.ref t, .int (N c), .int (N 0), .int (N s.length)] [.int (N 1)] μ = _
    rw [b301_4 (h0 := ir_ref), if_neg (show ¬ N 1 = 0 by decide), math_max, mm]
    show jR (d + 2) 301 14 [.ref t, .int (N c), .int (N 0), .int (N s.length)] [.int (N 0)] μ = _
    rw [b301_14 (h0 := ir_ref), hs.al]
    simp only [Option.bind_some, math_min, mn]
    show jR (d + 2) 301 21 [.ref t, .int (N c), .int (N 0), .int (N s.length)] [.int (N s.length)] μ = _
    rw [b301_21 (h0 := ir_ref)]
    by_cases e0 : s.length = 0
    · rw [if_neg (by rw [N_lt (by omega) (by omega)]; omega)]
      have es : s = [] := List.eq_nil_of_length_eq_zero e0
      rw [es] at c1
      rw [b303_7 (h0 := ir_ref), if_neg (by decide)] at c1
      exact c1
    · rw [if_pos (by rw [N_lt (by omega) (by omega)]; omega), e303]
      show jR (d + 2) 301 36 [.ref t, .int (N c), .int (N 0), .int (N s.length)] [.int v] μ = _
      rw [b301_36]
  rw [jC_run (by decide)]
  show jR (d + 4) 287 0 [.ref a, .int (N c)] [] μ = _
  have e288 : jC (d + 3) 288 [.ref a, .int (N c), .int 0] μ = some (some (.int v), μ) := by
    rw [jC_run (by decide)]
    show jR (d + 3) 288 0 [.ref a, .int (N c), .int 0] [] μ = _
    rw [b288_0, if_pos (rv0' hs.1), st_latin hx hs]
    show jR (d + 3) 288 4 [.ref a, .int (N c), .int 0] [.int (N 1)] μ = _
    rw [b288_4, if_neg (show ¬ N 1 = 0 by decide), gR0' hs.1 rfl, hs.2.2.1]
    simp only [Option.bind_some]
    rw [if_pos (rv0' hs.1), st_length hx hs]
    show jR (d + 3) 288 17 [.ref a, .int (N c), .int 0] [.int (N s.length), .int (N 0), .int (N c), .ref t] μ = _
    rw [b288_17 (hs0 := ir_ref), e301]
    show jR (d + 3) 288 20 [.ref a, .int (N c), .int 0] [.int v] μ = _
    rw [b288_20, b288_36]
  rw [b287_0, if_pos (rv0' hs.1), e288]
  show jR (d + 4) 287 6 [.ref a, .int (N c)] [.int v] μ = _
  rw [b287_6]
end LEX
