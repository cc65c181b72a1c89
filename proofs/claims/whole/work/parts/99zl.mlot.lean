/-! THE REFERENCE's CALLS: drawn, chance -/
section LAY
variable {μ μ' μ'' ν : jM} {S S' : Nat → Prop} {T T' : Nat → Nat → Prop} {M g h t s n w d D i j k x y a b c f q : Nat} {A B C : GA} {σ τ : SG} {G : Nat → DG} {l l' : List CL} {z : Int32}
theorem lot_loop {u1 : Value} (hn : n < 1000) : ∀ (m i : Nat) (μ : jM) (s : Int32 × DG × DG) (u4 u5 u6 : Value), i + m = n → MR μ M (sdG σ s) → TH μ M τ → jiv μ M 48 = s.1 → ∃ μ' v4 v5 v6, jR (d + 6) 251 11 [.ref M, u1, .int (N n), .int (N i), u4, u5, u6] [] μ = jR (d + 6) 251 11 [.ref M, u1, .int (N n), .int (N n), v4, v5, v6] [] μ' ∧ FR M μ μ' ∧ MR μ' M (sdG σ (dits m s)) ∧ TH μ' M τ := by
  intro m
  induction m with
  | zero =>
    intro i μ s u4 u5 u6 hi h hT hz
    have : i = n := by omega
    subst this
    rw [dits_zero]
    exact ⟨μ, u4, u5, u6, rfl, FR.refl, h, hT⟩
  | succ m ih =>
    intro i μ s u4 u5 u6 hi h hT hz
    obtain ⟨μ1, v4, v5, v6, w1, w2, w3, w4, w5⟩ := lot_step (d := d) (u1 := u1) (u4 := u4) (u5 := u5) (u6 := u6) (i2 := N n) (i3 := N i) h hT hz (by rw [N_lt (by omega) (by omega)]; omega)
    obtain ⟨μ2, x4, x5, x6, y1, y2, y3, y4⟩ := ih (i + 1) μ1 (dstep s) v4 v5 v6 (by omega) w3 w4 w5
    rw [dits_succ]
    refine ⟨μ2, x4, x5, x6, ?_, w2.trans y2, y3, y4⟩
    rw [w1, show (1 : Int32) = N 1 from rfl, N_add]
    exact y1
theorem sdG_0 : sdG σ (z, σ.1.1 1, σ.1.1 2) = σ := by
  unfold sdG
  have : (fun g => if g = 1 then σ.1.1 1 else if g = 2 then σ.1.1 2 else σ.1.1 g) = σ.1.1 := by
    funext g
    by_cases e1 : g = 1
    · subst e1; rfl
    · rw [if_neg e1]
      by_cases e2 : g = 2
      · subst e2; rfl
      · rw [if_neg e2]
  show ((fun g => if g = 1 then σ.1.1 1 else if g = 2 then σ.1.1 2 else σ.1.1 g, σ.1.2), σ.2) = σ
  rw [this]
theorem wk_sd {s : Int32 × DG × DG} : wkS (sdG σ s) σ = σ := rfl
theorem wk_sd2 {s : Int32 × DG × DG} {W : DG} {m : Bool} : wkS (scl (stg (sdG σ s) 3 W) l m) σ = σ := rfl
theorem lot_end {s : Int32 × DG × DG} {v4 v5 v6 u1 : Value} (c3 : MR μ M (sdG σ s)) (c4 : TH μ M σ) (hk1 : ky1 s.2.1 = ky1 (σ.1.1 1)) (hk2 : ky1 s.2.2 = ky1 (σ.1.1 2)) (hw : WM σ) (hn : n < 1000) : ∃ μ', jR (d + 6) 251 11 [.ref M, u1, .int (N n), .int (N n), v4, v5, v6] [] μ = some (some (.int ((((pMerge σ.1.2.1 (σ.1.1 0) s.2.1 s.2.2).map fun W => W.2.length).map N).getD aFULL)), μ') ∧ FR M μ μ' ∧ MR μ' M σ := by
  have k13 := c3.1.k13
  have g1 : (sdG σ s).1.1 1 = s.2.1 := rfl
  have g2 : (sdG σ s).1.1 2 = s.2.2 := rfl
  have g0 : (sdG σ s).1.1 0 = σ.1.1 0 := rfl
  have mg := r_merges (d := d) (R := σ.1.2.1) c3.gg ⟨c3.2.2.2.1, hw.1⟩ c3.k3 (by rw [g1]; exact (hw.2 1 (by decide)).1.ky1 hk1) (by rw [g2]; exact (hw.2 2 (by decide)).1.ky1 hk2) (by rw [g1, hk1]; exact (hw.2 1 (by decide)).2) (by rw [g2, hk2]; exact (hw.2 2 (by decide)).2)
  rw [g0, g1, g2] at mg
  have s11 : jR (d + 6) 251 11 [.ref M, u1, .int (N n), .int (N n), v4, v5, v6] [] μ = (jC (d + 5) 225 [.ref M] μ).bind fun p1 => jR (d + 6) 251 89 [.ref M, u1, .int (N n), .int (N n), v4, v5, v6] (p1.1.toList ++ []) p1.2 := by
    rw [b251_11, if_neg (by rw [N_lt (by omega) (by omega)]; omega)]
    simp only [gI13, gR13, pI13, pR13, rv13, k13, if_true, decide_true]
  have fin : ∀ (v : Int32) (μ4 : jM) (σ1 : SG), FR M μ μ4 → MR μ4 M σ1 → TH μ4 M σ → wkS σ1 σ = σ → ∃ μ', jR (d + 6) 251 101 [.ref M, u1, .int (N n), .int (N n), v4, v5, v6] [.int v] μ4 = some (some (.int v), μ') ∧ FR M μ μ' ∧ MR μ' M σ := by
    intro v μ4 σ1 F4 m4 t4 e4
    obtain ⟨μ5, w1, w2, w3⟩ := r_wake (d := d + 3) m4 t4
    rw [e4] at w3
    refine ⟨μ5, ?_, F4.trans w2, w3⟩
    rw [b251_101]
    simp only [gI13, gR13, pI13, pR13, rv13, m4.1.k13, w1, if_true, Option.bind_some]
    exact b251_106 ..
  rw [s11]
  rcases mg with ⟨m1, m2⟩ | ⟨W, μ4, m1, m2, m3, m4, m5, m6, m7⟩
  · rw [m1]
    simp only [m2, Option.bind_some]
    show ∃ μ', jR (d + 6) 251 89 [.ref M, u1, .int (N n), .int (N n), v4, v5, v6] [.int (N 0)] μ = _ ∧ _
    rw [b251_89, if_pos (show N 0 = 0 from rfl)]
    exact fin aFULL μ _ FR.refl c3 c4 wk_sd
  · rw [m1]
    have m8 := c3.me m3 m4 m5 m6
    simp only [m2, Option.bind_some]
    show ∃ μ', jR (d + 6) 251 89 [.ref M, u1, .int (N n), .int (N n), v4, v5, v6] [.int (N 1)] μ4 = _ ∧ _
    rw [b251_89, if_neg (show ¬ N 1 = 0 by decide)]
    simp only [gI13, gR13, pI13, pR13, rv13, m8.1.k13, if_true, Option.bind_some, m6.2.1]
    exact fin (N W.2.length) μ4 _ m3.fr m8 (c4.me m3) wk_sd2
theorem r_byLot (h : MR μ M σ) (hw : WM σ) (hn : n < 1000) : ∃ μ', jC (d + 6) 251 [.ref M, .int z, .int (N n)] μ = some (some (.int (((pDraw σ z n).map N).getD aFULL)), μ') ∧ FR M μ μ' ∧ MR μ' M σ := by
  obtain ⟨μ1, a1, a2, a3, a4⟩ := r_think (d := d + 3) h
  obtain ⟨b1, b2⟩ := a3.slot (j := 48) (v := z) (by omega)
  have b3 := a4.slot (j := 48) (v := z)
  have b4 : jiv (jsetI μ1 M 48 z) M 48 = z := if_pos ⟨rfl, rfl⟩
  have st : jC (d + 6) 251 [.ref M, .int z, .int (N n)] μ = jR (d + 6) 251 11 [.ref M, .int z, .int (N n), .int (N 0), .retAddr 0, .retAddr 0, .retAddr 0] [] (jsetI μ1 M 48 z) := by
    rw [jC_run (by decide)]
    show jR (d + 6) 251 0 [.ref M, .int z, .int (N n), .retAddr 0, .retAddr 0, .retAddr 0, .retAddr 0] [] μ = _
    rw [b251_0]
    simp only [gI13, gR13, pI13, pR13, rv13, h.1.k13, a1, if_true, Option.bind_some]
    show jR (d + 6) 251 4 [.ref M, .int z, .int (N n), .retAddr 0, .retAddr 0, .retAddr 0, .retAddr 0] [] μ1 = _
    rw [b251_4]
    simp only [gI13, gR13, pI13, pR13, rv13, Option.bind_some, Option.bind_none, if_true, if_false, true_or, or_true, false_or, or_false, true_and, and_true, false_and, and_false, decide_eq_true_eq, decide_true, decide_false, eq_self, not_true_eq_false, not_false_eq_true, jfit0, N_lit, N_add, N_mul, NEG_eq, pl_none, pl_some, rf_some, rf_none, jun_ref, jun_null, ir_ref, ir_null, jr_rf, jun_rf, Option.toList_some, Option.toList_none, List.nil_append, List.cons_append, a3.1.k13]
  generalize jsetI μ1 M 48 z = μ2 at b1 b2 b3 b4 st
  rw [← sdG_0 (σ := σ) (z := z)] at b1
  obtain ⟨μ3, v4, v5, v6, c1, c2, c3, c4⟩ := lot_loop (d := d) (n := n) (u1 := .int z) hn n 0 μ2 (z, σ.1.1 1, σ.1.1 2) (.retAddr 0) (.retAddr 0) (.retAddr 0) (by omega) b1 b3 b4
  obtain ⟨hk1, hk2⟩ := ky1_dits n (z, σ.1.1 1, σ.1.1 2)
  obtain ⟨μ', w1, w2, w3⟩ := lot_end (d := d) (n := n) (v4 := v4) (v5 := v5) (v6 := v6) (u1 := .int z) c3 c4 hk1 hk2 hw hn
  refine ⟨μ', ?_, ((a2.fr.trans b2.fr).trans c2).trans w2, w3⟩
  rw [st, c1, w1]
  unfold pDraw
  rfl
theorem p_drawn (h : MR μ M σ) (hw : WM σ) (z x : Int32) : ROP M (jC (d + 7) 250 [.ref M, .int z, .int x] μ) μ (o_drawn σ z x) := by
  have r20 : jC (d + 6) 165 [.int x, .int 0, .int 20] μ = some (some (.int (okI (ix 21 x))), μ) := r_in (n := 21) (by decide) x
  have st : jC (d + 7) 250 [.ref M, .int z, .int x] μ = jR (d + 7) 250 7 [.ref M, .int z, .int x] [.int (okI (ix 21 x))] μ := by
    rw [jC_run (by decide)]
    show jR (d + 7) 250 0 [.ref M, .int z, .int x] [] μ = _
    rw [b250_0, r20]
    rfl
  rw [st, b250_7]
  unfold o_drawn
  cases ex : ix 21 x with
  | none =>
    rw [if_pos (by rw [okI_0])]
    exact ⟨μ, b250_21 .., FR.refl, h⟩
  | some n0 =>
    obtain ⟨rfl, hn⟩ := ix_some (by decide) ex
    rw [if_neg (by rw [okI_0]; simp)]
    obtain ⟨μ', w1, w2, w3⟩ := r_byLot (d := d) (z := z) (n := n0) h hw (by omega)
    simp only [gI13, gR13, pI13, pR13, rv13, h.1.k13, w1, if_true, Option.bind_some]
    refine ⟨μ', ?_, w2, w3⟩
    show jR (d + 7) 250 16 [.ref M, .int z, .int (N n0)] [.int _] μ' = _
    rw [b250_16, b250_21]
/-- what two numbers have in common -/
theorem r_common : ∀ (k a b : Nat) (d : Nat), b ≤ k → a < 1000 → b < 1000 → jC (d + k + 1) 254 [.int (N a), .int (N b)] μ = some (some (.int (N (Nat.gcd a b))), μ) := by
  intro k
  induction k with
  | zero =>
    intro a b d hb ha hb2
    have : b = 0 := by omega
    subst this
    rw [jC_run (by decide)]
    show jR (d + 0 + 1) 254 0 [.int (N a), .int (N 0)] [] μ = _
    rw [b254_0, if_pos (show N 0 = 0 from rfl), b254_15, Nat.gcd_zero_right]
  | succ k ih =>
    intro a b d hb ha hb2
    rw [jC_run (by decide)]
    show jR (d + (k + 1) + 1) 254 0 [.int (N a), .int (N b)] [] μ = _
    rw [b254_0]
    by_cases e : b = 0
    · subst e
      rw [if_pos (show N 0 = 0 from rfl), b254_15, Nat.gcd_zero_right]
    · have n0 : ¬ N b = 0 := by show ¬ N b = N 0; rw [N_inj (by omega) (by decide)]; exact e
      have hlt : a % b < b := Nat.mod_lt _ (by omega)
      have i1 := ih b (a % b) d (by omega) hb2 (by omega)
      rw [if_neg n0, if_neg n0, N_modL (show a < 2147483648 by omega) (by omega) (by omega)]
      have i1 : jC (d + (k + 1)) 254 [.int (N b), .int (N (a % b))] μ = _ := i1
      rw [i1]
      show jR (d + (k + 1) + 1) 254 15 [.int (N a), .int (N b)] [.int (N (Nat.gcd b (a % b)))] μ = _
      rw [b254_15, Nat.gcd_comm a b, Nat.gcd_rec b a, Nat.gcd_comm (a % b) b]
theorem ln_ky1 {l l' : DG} (e : ky1 l = ky1 l') : l.length = l'.length := by
  have := congrArg List.length e
  unfold ky1 at this
  rwa [List.length_map, List.length_map] at this
theorem mrg_lt {gb gx gt : DG} {R : Nat → Nat × Nat} {W : DG × List CL} (h : pMerge R gb gx gt = some W) (h8 : gx.length ≤ 8) : W.2.length ≤ 48 := by
  unfold pMerge at h
  cases et : thW gb gx gt (gt.map fun w => w.1) (mineW gb gx gt gx) 0 with
  | none => rw [et] at h; cases h
  | some Wf =>
    rw [et] at h
    cases h
    have lc := len_pCls (R := R) (gb := gb) (gx := gx) (gt := gt) (W := Wf) 99 (by decide)
    have wl := (thW_some _ _ _ _ (Nat.zero_le _) (Nat.le_trans mineW_len h8) et).1
    have lp : Wf.countP (upTo 99) ≤ Wf.length := List.countP_le_length
    show (pCls _ _ _ _ _ 99).length ≤ 48
    omega
theorem pDraw_lt {n k : Nat} (h : pDraw σ z n = some k) (h8 : (σ.1.1 1).length ≤ 8) : k < 1000 := by
  unfold pDraw at h
  obtain ⟨hk1, hk2⟩ := ky1_dits n (z, σ.1.1 1, σ.1.1 2)
  generalize dits n (z, σ.1.1 1, σ.1.1 2) = s at h hk1 hk2
  have hk1 : ky1 s.2.1 = ky1 (σ.1.1 1) := hk1
  cases ep : pMerge σ.1.2.1 (σ.1.1 0) s.2.1 s.2.2 with
  | none => rw [ep] at h; cases h
  | some W =>
    rw [ep] at h
    have h : some W.2.length = some k := h
    cases h
    have := mrg_lt ep (by rw [ln_ky1 hk1]; exact h8)
    omega
theorem mch_loop {i3 : Int32} {D : Nat → Option Nat} (hD : ∀ i k, D i = some k → k < 1000) (hrun : ∀ (i : Nat) (μ1 : jM), MR μ1 M σ → ∃ μ2, jC (d + 6) 251 [.ref M, .int (z + N i), .int 3] μ1 = some (some (.int (((D i).map N).getD aFULL)), μ2) ∧ FR M μ1 μ2 ∧ MR μ2 M σ) (hm : x ≤ 8) : ∀ (m i : Nat) (μ : jM) (f : Nat) (u6 : Value), i + m = x → MR μ M σ → gfree D i = some f → (∃ μ', gfree D x = none ∧ jR (d + 7) 253 28 [.ref M, .int z, .int (N x), .int i3, .int (N f), .int (N i), u6] [] μ = some (some (.int aFULL), μ') ∧ FR M μ μ' ∧ MR μ' M σ) ∨ ∃ μ' v6 f', gfree D x = some f' ∧ jR (d + 7) 253 28 [.ref M, .int z, .int (N x), .int i3, .int (N f), .int (N i), u6] [] μ = jR (d + 7) 253 28 [.ref M, .int z, .int (N x), .int i3, .int (N f'), .int (N x), v6] [] μ' ∧ FR M μ μ' ∧ MR μ' M σ := by
  intro m
  induction m with
  | zero =>
    intro i μ f u6 hi h hf
    have : i = x := by omega
    subst this
    exact Or.inr ⟨μ, u6, f, hf, rfl, FR.refl, h⟩
  | succ m ih =>
    intro i μ f u6 hi h hf
    obtain ⟨μ1, w1, w2, w3⟩ := hrun i μ h
    have st : jR (d + 7) 253 28 [.ref M, .int z, .int (N x), .int i3, .int (N f), .int (N i), u6] [] μ = jR (d + 7) 253 43 [.ref M, .int z, .int (N x), .int i3, .int (N f), .int (N i), u6] [.int (((D i).map N).getD aFULL)] μ1 := by
      rw [b253_28, if_pos (by rw [N_lt (by omega) (by omega)]; omega)]
      simp only [gI13, gR13, pI13, pR13, rv13, h.1.k13, w1, if_true, Option.bind_some]
      rfl
    have fs := gfree_succ (D := D) i
    rw [hf] at fs
    have fs : gfree D (i + 1) = (D i).map fun k => if k = 0 then f + 1 else f := fs
    have hfl : f ≤ i := gfree_le _ f hf
    rw [st, b253_43]
    cases ed : D i with
    | none =>
      rw [ed] at fs
      have fs : gfree D (i + 1) = none := fs
      have e0 : gfree D x = none := by
        have := gfree_none (x - (i + 1)) fs
        rwa [show i + 1 + (x - (i + 1)) = x by omega] at this
      refine Or.inl ⟨μ1, e0, ?_, w2, w3⟩
      rw [if_pos (show ((none : Option Nat).map N).getD aFULL = -4 from rfl)]
      rfl
    | some kk =>
      rw [ed] at fs
      have fs : gfree D (i + 1) = some (if kk = 0 then f + 1 else f) := fs
      have hkk := hD i kk ed
      have nf : ¬ ((some kk).map N).getD aFULL = -4 := by
        show ¬ N kk = -(N 4)
        intro q
        have := congrArg Int32.toInt q
        rw [N_toInt (by omega)] at this
        have e4 : (-(N 4) : Int32).toInt = -4 := by decide
        omega
      rw [if_neg nf]
      have nxt : ∀ f1 : Nat, gfree D (i + 1) = some f1 → ∀ u, (∃ μ', gfree D x = none ∧ jR (d + 7) 253 63 [.ref M, .int z, .int (N x), .int i3, .int (N f1), .int (N i), u] [] μ1 = some (some (.int aFULL), μ') ∧ FR M μ μ' ∧ MR μ' M σ) ∨ ∃ μ' v6 f', gfree D x = some f' ∧ jR (d + 7) 253 63 [.ref M, .int z, .int (N x), .int i3, .int (N f1), .int (N i), u] [] μ1 = jR (d + 7) 253 28 [.ref M, .int z, .int (N x), .int i3, .int (N f'), .int (N x), v6] [] μ' ∧ FR M μ μ' ∧ MR μ' M σ := by
        intro f1 hf1 u
        have e63 : jR (d + 7) 253 63 [.ref M, .int z, .int (N x), .int i3, .int (N f1), .int (N i), u] [] μ1 = jR (d + 7) 253 28 [.ref M, .int z, .int (N x), .int i3, .int (N f1), .int (N (i + 1)), u] [] μ1 := by
          rw [b253_63, show (1 : Int32) = N 1 from rfl, N_add]
        rw [e63]
        rcases ih (i + 1) μ1 f1 u (by omega) w3 hf1 with ⟨μ2, y1, y2, y3, y4⟩ | ⟨μ2, v6, f', y1, y2, y3, y4⟩
        · exact Or.inl ⟨μ2, y1, y2, w2.trans y3, y4⟩
        · exact Or.inr ⟨μ2, v6, f', y1, y2, w2.trans y3, y4⟩
      by_cases e0 : kk = 0
      · rw [if_pos e0] at fs
        rw [if_pos (show ((some kk).map N).getD aFULL = 0 by rw [e0]; rfl), show (1 : Int32) = N 1 from rfl, N_add]
        exact nxt _ fs _
      · rw [if_neg e0] at fs
        rw [if_neg (show ¬ ((some kk).map N).getD aFULL = 0 by show ¬ N kk = N 0; rw [N_inj (by omega) (by decide)]; exact e0)]
        exact nxt _ fs _
theorem ch_answer {i3 : Nat} {D : Nat → Option Nat} (hD : ∀ i k, D i = some k → k < 1000) (hrun : ∀ (i : Nat) (μ1 : jM), MR μ1 M σ → ∃ μ2, jC (d + 6 + 4) 251 [.ref M, .int (z + N i), .int 3] μ1 = some (some (.int (((D i).map N).getD aFULL)), μ2) ∧ FR M μ1 μ2 ∧ MR μ2 M σ) (hm : x ≤ 8) (hm1 : 1 ≤ x) (h : MR μ M σ) (h3 : i3 < 2) {u6 : Value} : ∃ μ', jR (d + 7 + 4) 253 28 [.ref M, .int z, .int (N x), .int (N i3), .int (N 0), .int (N 0), u6] [] μ = some (some (.int (((gfree D x).map fun f => N ((if i3 = 0 then f else x) / Nat.gcd f x)).getD aFULL)), μ') ∧ FR M μ μ' ∧ MR μ' M σ := by
  have hrun' : ∀ (i : Nat) (μ1 : jM), MR μ1 M σ → ∃ μ2, jC (d + 4 + 6) 251 [.ref M, .int (z + N i), .int 3] μ1 = some (some (.int (((D i).map N).getD aFULL)), μ2) ∧ FR M μ1 μ2 ∧ MR μ2 M σ := fun i μ1 h1 => by
    rw [show d + 4 + 6 = d + 6 + 4 by omega]; exact hrun i μ1 h1
  rcases mch_loop (d := d + 4) (i3 := N i3) hD hrun' hm x 0 μ 0 u6 (by omega) h gfree_zero with ⟨μ2, y1, y2, y3, y4⟩ | ⟨μ2, v6, f', y1, y2, y3, y4⟩
  · rw [show d + 4 + 7 = d + 7 + 4 by omega] at y2
    rw [y1]
    exact ⟨μ2, y2, y3, y4⟩
  · rw [show d + 4 + 7 = d + 7 + 4 by omega] at y2
    have hf := gfree_le _ _ y1
    refine ⟨μ2, ?_, y3, y4⟩
    rw [y1, y2, b253_28, if_neg (by rw [N_lt (by omega) (by omega)]; omega)]
    have cm := r_common (μ := μ2) 9 f' x (d) (by omega) (by omega) (by omega)
    rw [show d + 9 + 1 = d + 6 + 4 by omega] at cm
    have gp : 1 ≤ Nat.gcd f' x := Nat.gcd_pos_of_pos_right _ (by omega)
    have gl : Nat.gcd f' x ≤ x := Nat.le_of_dvd (by omega) (Nat.gcd_dvd_right _ _)
    have s79 : ∀ v : Nat, v ≤ 8 → jR (d + 7 + 4) 253 79 [.ref M, .int z, .int (N x), .int (N i3), .int (N f'), .int (N x), v6] [.int (N v)] μ2 = some (some (.int (N (v / Nat.gcd f' x))), μ2) := by
      intro v hv
      rw [show d + 7 + 4 = (d + 6 + 4) + 1 by omega, b253_79, cm]
      show jR (d + 6 + 4 + 1) 253 85 [.ref M, .int z, .int (N x), .int (N i3), .int (N f'), .int (N x), v6] [.int (N (Nat.gcd f' x)), .int (N v)] μ2 = _
      rw [b253_85, if_neg (show ¬ N (Nat.gcd f' x) = 0 by show ¬ N _ = N 0; rw [N_inj (by omega) (by decide)]; omega), N_divL (by omega) (by omega) (by omega)]
    by_cases e0 : i3 = 0
    · rw [if_pos (show N i3 = 0 by rw [e0]; rfl), s79 f' (by omega)]
      simp only [Option.map_some, Option.getD_some, if_pos e0]
    · rw [if_neg (show ¬ N i3 = 0 by show ¬ N i3 = N 0; rw [N_inj (by omega) (by decide)]; exact e0), s79 x (by omega)]
      simp only [Option.map_some, Option.getD_some, if_neg e0]
theorem p_chance (h : MR μ M σ) (hw : WM σ) (z m p : Int32) : ROP M (jC (d + 11) 253 [.ref M, .int z, .int m, .int p] μ) μ (o_chance σ z m p) := by
  have r8 : jC (d + 10) 165 [.int m, .int 1, .int 8] μ = some (some (.int (if m < N 1 ∨ N 8 < m then N 0 else N 1)), μ) := r_btw m (N 1) (N 8)
  have r1 : jC (d + 10) 165 [.int p, .int 0, .int 1] μ = some (some (.int (if p < N 0 ∨ N 1 < p then N 0 else N 1)), μ) := r_btw p (N 0) (N 1)
  have bad : ∀ u v w, jR (d + 11) 253 19 [.ref M, .int z, .int m, .int p, u, v, w] [] μ = some (some (.int aBAD), μ) := fun u v w => b253_19 ..
  have st : jC (d + 11) 253 [.ref M, .int z, .int m, .int p] μ = jR (d + 11) 253 7 [.ref M, .int z, .int m, .int p, .retAddr 0, .retAddr 0, .retAddr 0] [.int (if m < N 1 ∨ N 8 < m then N 0 else N 1)] μ := by
    rw [jC_run (by decide)]
    show jR (d + 11) 253 0 [.ref M, .int z, .int m, .int p, .retAddr 0, .retAddr 0, .retAddr 0] [] μ = _
    rw [b253_0, r8]
    rfl
  rw [st, b253_7]
  unfold o_chance
  have hx : (¬ m < N 1 ∧ ¬ N 8 < m) ↔ ∃ k, ix 8 (m - N 1) = some k ∧ m = N (k + 1) ∧ k < 8 := by
    constructor
    · rintro ⟨g1, g2⟩
      have h0 : ¬ m < N 0 := fun g => g1 (by
        rw [Int32.lt_iff_toInt_lt] at g ⊢
        rw [N_toInt (by decide)] at g ⊢
        omega)
      obtain ⟨b, hb, rfl⟩ := N_of h0
      rw [N_lt hb (by decide)] at g1
      rw [N_lt (by decide) hb] at g2
      refine ⟨b - 1, ?_, by congr 1; omega, by omega⟩
      rw [N_sub (by omega)]
      exact ix_N (by decide) (by omega)
    · rintro ⟨k, h1, rfl, h3⟩
      rw [N_lt (by omega) (by decide), N_lt (by decide) (by omega)]
      omega
  cases e : ix 8 (m - N 1) with
  | none =>
    have em : m < N 1 ∨ N 8 < m := Classical.byContradiction fun g => by
      obtain ⟨k, hk, -⟩ := hx.mp ⟨fun q => g (Or.inl q), fun q => g (Or.inr q)⟩
      rw [e] at hk; cases hk
    rw [if_pos em, if_pos (show N 0 = 0 from rfl)]
    exact ⟨μ, bad _ _ _, FR.refl, h⟩
  | some k =>
    have hxm : m = N (k + 1) ∧ k < 8 := by
      obtain ⟨e1, e2⟩ := ix_some (by decide) e
      refine ⟨?_, e2⟩
      have : m = (m - N 1) + N 1 := by rw [Int32.sub_add_cancel]
      rw [this, e1, N_add]
    obtain ⟨rfl, hm8⟩ := hxm
    obtain ⟨em1, em2⟩ := hx.mpr ⟨k, e, rfl, hm8⟩
    rw [if_neg (show ¬ (N (k + 1) < N 1 ∨ N 8 < N (k + 1)) from fun g => g.elim em1 em2), if_neg (show ¬ N 1 = 0 by decide), r1]
    show ROP M (jR (d + 11) 253 16 [.ref M, .int z, .int (N (k + 1)), .int p, .retAddr 0, .retAddr 0, .retAddr 0] [.int (if p < N 0 ∨ N 1 < p then N 0 else N 1)] μ) μ (if p < N 0 ∨ N 1 < p then (aBAD, σ) else (((pFree σ z (k + 1)).map fun f => N ((if p = N 0 then f else k + 1) / Nat.gcd f (k + 1))).getD aFULL, σ))
    rw [b253_16]
    by_cases e3 : p < N 0 ∨ N 1 < p
    · rw [if_pos e3, if_pos e3, if_pos (show N 0 = 0 from rfl)]
      exact ⟨μ, bad _ _ _, FR.refl, h⟩
    · rw [if_neg e3, if_neg e3, if_neg (show ¬ N 1 = 0 by decide)]
      obtain ⟨pt, rfl, hpt⟩ : ∃ pt, p = N pt ∧ pt < 2 := by
        obtain ⟨b, hb, rfl⟩ := N_of (x := p) (fun g => e3 (Or.inl g))
        have h2 : ¬ N 1 < N b := fun g => e3 (Or.inr g)
        rw [N_lt (by decide) hb] at h2
        exact ⟨b, rfl, by omega⟩
      have l8 := (h.gq (g := 1) (by decide)).2.2.2
      obtain ⟨μ', w1, w2, w3⟩ := ch_answer (d := d) (D := fun i => pDraw σ (z + N i) 3) (x := k + 1) (i3 := pt) (u6 := .retAddr 0) (μ := μ) (M := M) (σ := σ) (z := z) (fun i k hk => pDraw_lt hk (by omega)) (fun i μ1 h1 => by
        obtain ⟨μ2, y1, y2, y3⟩ := r_byLot (d := d + 4) (z := z + N i) (n := 3) h1 hw (by decide)
        exact ⟨μ2, y1, y2, y3⟩) (by omega) (by omega) h hpt
      refine ⟨μ', ?_, w2, w3⟩
      have w1 : jR (d + 11) 253 28 [.ref M, .int z, .int (N (k + 1)), .int (N pt), .int 0, .int 0, .retAddr 0] [] μ = _ := w1
      rw [w1]
      have ep : (N pt = N 0) = (pt = 0) := N_inj (by omega) (by decide)
      simp only [ep]
      rfl
end LAY
