/-! THE BOARD: grids, rules, what can be undone -/
def FI (lo hi : Nat) (μ μ' : jM) : Prop := Fx (fun a => lo ≤ a ∧ a < hi) (fun a _ => lo ≤ a ∧ a < hi) μ μ'
/-- grids, rules, what was ahead of the latest changes -/
abbrev PB : Type := (Nat → DG) × (Nat → Nat × Nat) × List (Nat → DG)
/-- the place of a grid kept for undo -/
def bG (b i : Nat) : Nat := b + 29 + 6 * i
def BS (μ : jM) (b : Nat) : Prop :=
  (jk μ b = 3 ∧ jk μ (b + 28) = 31 ∧ jl μ (b + 28) = 18) ∧ (jrv μ b 0 = some (b + 1) ∧ jrv μ b 1 = some (b + 7) ∧ jrv μ b 2 = some (b + 13) ∧ jrv μ b 3 = some (b + 19) ∧ jrv μ b 4 = some (b + 25) ∧ jrv μ b 5 = some (b + 28)) ∧
  ∀ i, i < 18 → jrv μ (b + 28) i = some (bG b i)
def BR (μ : jM) (D b : Nat) (s : PB) : Prop :=
  b + 137 ≤ D ∧ BS μ b ∧ (∀ g, g < 4 → GV μ D (b + 1 + 6 * g) ∧ dG μ (xA (b + 1 + 6 * g)) = s.1 g) ∧ (RV μ (b + 25) ∧ ∀ c, c < 3 → rL μ (b + 25) c = s.2.1 c) ∧
  (∀ i, i < 18 → GV μ D (bG b i)) ∧
  ∃ nc, nc < 6 ∧ jiv μ b 6 = N nc ∧ jiv μ b 7 = N s.2.2.length ∧ s.2.2.length ≤ 6 ∧ ∀ j h, s.2.2[j]? = some h → ∀ g, g < 3 → dG μ (xA (bG b (((nc + 6 - 1 - j) % 6) * 3 + g))) = h g
section BOARD
variable {μ μ' μ'' : jM} {B D b b' g d lo hi : Nat} {s : PB}
theorem FI.trans (a : FI lo hi μ μ') (c : FI lo hi μ' μ'') : FI lo hi μ μ'' := Fx.trans a c
theorem FI.refl : FI lo hi μ μ := Fx.refl
theorem FG.fi (F : FG g μ μ') (h1 : lo ≤ g) (h2 : g + 6 ≤ hi) : FI lo hi μ μ' := Fx.mono F (fun a h => ⟨by omega, by omega⟩) (fun a j h => ⟨by omega, by omega⟩)
theorem FI.mono {lo' hi' : Nat} (F : FI lo hi μ μ') (h1 : lo' ≤ lo) (h2 : hi ≤ hi') : FI lo' hi' μ μ' := Fx.mono F (fun a h => ⟨by omega, by omega⟩) (fun a j h => ⟨by omega, by omega⟩)
theorem FI.fd (F : FI lo hi μ μ') (h : hi ≤ D) : FD D μ μ' := Fx.fd F (fun a ha => by omega) (fun a j ha => by omega)
theorem BS.out {S : Nat → Prop} {T : Nat → Nat → Prop} (h : BS μ b) (F : Fx S T μ μ') (hT : ∀ a j, T a j → a ≠ b ∧ a ≠ b + 28) : BS μ' b := by
  obtain ⟨h1, h2, h3⟩ := h
  have r1 : ∀ j, jrv μ' b j = jrv μ b j := fun j => F.rv (fun k => (hT _ _ k).1 rfl)
  have r2 : ∀ j, jrv μ' (b + 28) j = jrv μ (b + 28) j := fun j => F.rv (fun k => (hT _ _ k).2 rfl)
  exact ⟨by rw [F.kk, F.ll]; exact h1, by simp only [r1]; exact h2, fun i hi => by rw [r2]; exact h3 i hi⟩
theorem BR.out {S : Nat → Prop} {T : Nat → Nat → Prop} (h : BR μ D b s) (F : Fx S T μ μ') (hS : ∀ a, S a → a < D ∧ (a < b ∨ b + 137 ≤ a)) (hT : ∀ a j, T a j → a < D ∧ (a < b ∨ b + 137 ≤ a)) : BR μ' D b s := by
  obtain ⟨h0, h1, h2, h3, h4, nc, h5, h6, h7, h8, h9⟩ := h
  have e1 : jiv μ' b = jiv μ b := F.iv (fun k => by have := hS _ k; omega)
  have gg : ∀ x, b ≤ x → x + 6 ≤ b + 137 → GV μ D x → GV μ' D x ∧ dG μ' (xA x) = dG μ (xA x) := fun x h1 h2 hx => hx.outx F (fun a ha => by have := hS a ha; omega) (fun a j ha => by have := hT a j ha; omega)
  obtain ⟨q1, q2⟩ := h3.1.out F (fun a ha => by have := hS a ha; omega) (fun a j ha => by have := hT a j ha; omega)
  refine ⟨h0, h1.out F (fun a j ha => by have := hT a j ha; omega), fun g hg => ?_, ⟨q1, fun c hc => by rw [q2]; exact h3.2 c hc⟩, fun i hi => (gg _ (by unfold bG; omega) (by unfold bG; omega) (h4 i hi)).1, nc, h5, by rw [e1]; exact h6, by rw [e1]; exact h7, h8, fun j h hj g hg => ?_⟩
  · obtain ⟨p1, p2⟩ := gg _ (by omega) (by omega) (h2 g hg).1
    exact ⟨p1, by rw [p2]; exact (h2 g hg).2⟩
  · have hi : ((nc + 6 - 1 - j) % 6) * 3 + g < 18 := by have := Nat.mod_lt (nc + 6 - 1 - j) (show 6 > 0 by decide); omega
    rw [(gg _ (by unfold bG; omega) (by unfold bG; omega) (h4 _ hi)).2]
    exact h9 j h hj g hg
theorem d_gridAt (h : BS μ b) (hg : g < 4) : jC d 69 [.ref b, .int (N g)] μ = some (some (.ref (b + 1 + 6 * g)), μ) := by
  obtain ⟨⟨h1, -⟩, h2, -⟩ := h
  rw [jC_run (by decide)]
  show jR d 69 0 [.ref b, .int (N g)] [] μ = _
  have bg : g < 2147483648 := by omega
  simp only [b69_0, b69_39, gI3, gR3, pI3, pR3, rv3, aI_eq, aB_eq, aR_eq, sI_eq, sB_eq, sR_eq, Option.bind_some, Option.bind_none, if_true, if_false, true_or, or_true, false_or, or_false, true_and, and_true, false_and, and_false, decide_eq_true_eq, decide_true, decide_false, eq_self, not_true_eq_false, not_false_eq_true, jfit0, N_lit, N_add, N_mul, NEG_eq, pl_none, pl_some, rf_some, rf_none, jun_ref, jun_null, ir_ref, ir_null, jr_rf, jun_rf, Option.toList_some, Option.toList_none, List.nil_append, List.cons_append, h1, h2, N_inj bg (show 0 < 2147483648 by decide), N_inj bg (show 1 < 2147483648 by decide), N_inj bg (show 2 < 2147483648 by decide)]
  obtain rfl | rfl | rfl | rfl : g = 0 ∨ g = 1 ∨ g = 2 ∨ g = 3 := by omega
  all_goals simp
/-- a grid of the board that is another one now -/
theorem BR.setG {i : Nat} {v : DG} (h : BR μ D b s) (hi : i < 4) (F : FG (b + 1 + 6 * i) μ μ') (hv : GV μ' D (b + 1 + 6 * i)) (e : dG μ' (xA (b + 1 + 6 * i)) = v) : BR μ' D b (updf s.1 i v, s.2) := by
  obtain ⟨h0, h1, h2, h3, h4, nc, h5, h6, h7, h8, h9⟩ := h
  have e1 : jiv μ' b = jiv μ b := F.iv (by omega)
  have gg : ∀ x, (b + 1 + 6 * i + 6 ≤ x ∨ x + 6 ≤ b + 1 + 6 * i) → GV μ D x → GV μ' D x ∧ dG μ' (xA x) = dG μ (xA x) := fun x hd hx => hx.out F (by omega) hd
  obtain ⟨q1, q2⟩ := h3.1.out F (fun a ha => by omega) (fun a j ha => by omega)
  refine ⟨h0, h1.out F (fun a j ha => by omega), fun g hg => ?_, ⟨q1, fun c hc => by rw [q2]; exact h3.2 c hc⟩, fun j hj => (gg _ (by unfold bG; omega) (h4 j hj)).1, nc, h5, by rw [e1]; exact h6, by rw [e1]; exact h7, h8, fun j h hj g hg => ?_⟩
  · by_cases eg : g = i
    · subst eg
      exact ⟨hv, by rw [e]; show v = updf s.1 g v g; unfold updf; rw [if_pos rfl]⟩
    · obtain ⟨p1, p2⟩ := gg _ (by omega) (h2 g hg).1
      exact ⟨p1, by rw [p2]; show _ = updf s.1 i v g; unfold updf; rw [if_neg eg]; exact (h2 g hg).2⟩
  · have hi' : ((nc + 6 - 1 - j) % 6) * 3 + g < 18 := by have := Nat.mod_lt (nc + 6 - 1 - j) (show 6 > 0 by decide); omega
    rw [(gg _ (by unfold bG; omega) (h4 _ hi')).2]
    exact h9 j h hj g hg
theorem BR.congr {s' : PB} (h : BR μ D b s) (h1 : ∀ g, g < 4 → s.1 g = s'.1 g) (h2 : ∀ c, c < 3 → s.2.1 c = s'.2.1 c) (h3 : s.2.2 = s'.2.2) : BR μ D b s' := by
  obtain ⟨h0, k1, k2, k3, k4, nc, h5, h6, h7, h8, h9⟩ := h
  exact ⟨h0, k1, fun g hg => ⟨(k2 g hg).1, by rw [← h1 g hg]; exact (k2 g hg).2⟩, ⟨k3.1, fun c hc => by rw [← h2 c hc]; exact k3.2 c hc⟩, k4, nc, h5, h6, by rw [← h3]; exact h7, by rw [← h3]; exact h8, by rw [← h3]; exact h9⟩
theorem three_cases {P : Nat → Prop} (h0 : P 0) (h1 : P 1) (h2 : P 2) : ∀ g, g < 3 → P g := by
  intro g hg
  obtain rfl | rfl | rfl : g = 0 ∨ g = 1 ∨ g = 2 := by omega
  all_goals assumption
/-- the three grids kept, the latest ahead -/
theorem d_keepForUndo (h : BR μ D b s) : ∃ μ', jC (d + 2) 70 [.ref b] μ = some (none, μ') ∧ FI b (b + 137) μ μ' ∧ BR μ' D b (s.1, s.2.1, (s.1 :: s.2.2).take 6) := by
  obtain ⟨h0, h1, h2, h3, h4, nc, h5, h6, h7, h8, h9⟩ := h
  have b3 : (3 : Nat) < 2147483648 := by decide
  -- what the loop keeps
  have loop : ∀ n i m, i + n = 3 → FI b (b + 137) μ m → jiv m b = jiv μ b → BS m b → RV m (b + 25) → rL m (b + 25) = rL μ (b + 25) → (∀ g, g < 4 → GV m D (b + 1 + 6 * g) ∧ dG m (xA (b + 1 + 6 * g)) = s.1 g) → (∀ j, j < 18 → GV m D (bG b j)) → (∀ j, j < 18 → ¬ (nc * 3 ≤ j ∧ j < nc * 3 + 3) → dG m (xA (bG b j)) = dG μ (xA (bG b j))) → (∀ g, g < i → dG m (xA (bG b (nc * 3 + g))) = s.1 g) →
      ∃ m', jR (d + 2) 70 2 [.ref b, .int (N i)] [] m = jR (d + 2) 70 2 [.ref b, .int (N 3)] [] m' ∧ FI b (b + 137) μ m' ∧ jiv m' b = jiv μ b ∧ BS m' b ∧ RV m' (b + 25) ∧ rL m' (b + 25) = rL μ (b + 25) ∧ (∀ g, g < 4 → GV m' D (b + 1 + 6 * g) ∧ dG m' (xA (b + 1 + 6 * g)) = s.1 g) ∧ (∀ j, j < 18 → GV m' D (bG b j)) ∧ (∀ j, j < 18 → ¬ (nc * 3 ≤ j ∧ j < nc * 3 + 3) → dG m' (xA (bG b j)) = dG μ (xA (bG b j))) ∧ (∀ g, g < 3 → dG m' (xA (bG b (nc * 3 + g))) = s.1 g) := by
    intro n
    induction n with
    | zero =>
      intro i m hi q1 q2 q3 q4 q5 q6 q7 q8 q9
      have hi : i = 3 := hi
      subst hi
      exact ⟨m, rfl, q1, q2, q3, q4, q5, q6, q7, q8, q9⟩
    | succ n ih =>
      intro i m hi q1 q2 q3 q4 q5 q6 q7 q8 q9
      have bi : i < 2147483648 := by omega
      have hi3 : i < 3 := by omega
      have hx : nc * 3 + i < 18 := by omega
      have bx : nc * 3 + i < 2147483648 := by omega
      obtain ⟨m', r1, r2, r3, r4⟩ := d_become (d := d) (g := bG b (nc * 3 + i)) (q7 _ hx).2.1 (q7 _ hx).1 (q6 i (by omega)).1 (by unfold bG; omega)
      have e6 : jiv m b 6 = N nc := by rw [q2]; exact h6
      have run : jR (d + 2) 70 2 [.ref b, .int (N i)] [] m = jR (d + 2) 70 2 [.ref b, .int (N (i + 1))] [] m' := by
        rw [b70_2]
        simp only [gI3, gR3, pI3, pR3, rv3, aI_eq, aB_eq, aR_eq, sI_eq, sB_eq, sR_eq, Option.bind_some, Option.bind_none, if_true, if_false, true_or, or_true, false_or, or_false, true_and, and_true, false_and, and_false, decide_eq_true_eq, decide_true, decide_false, eq_self, not_true_eq_false, not_false_eq_true, jfit0, N_lit, N_add, N_mul, NEG_eq, pl_none, pl_some, rf_some, rf_none, jun_ref, jun_null, ir_ref, ir_null, jr_rf, jun_rf, Option.toList_some, Option.toList_none, List.nil_append, List.cons_append, N_lt bi b3, hi3, q3.1, q3.2.1, e6, jinb_N bx, hx, N_nat bx, show 30 ≤ 31 ∧ 31 < 36 by decide, q3.2.2 _ hx, d_gridAt q3 (show i < 4 by omega), b70_25, rv6, (q7 _ hx).2.1.1, r1, b70_28]
      have out : ∀ x, GV m D x → (bG b (nc * 3 + i) + 6 ≤ x ∨ x + 6 ≤ bG b (nc * 3 + i)) → GV m' D x ∧ dG m' (xA x) = dG m (xA x) := fun x hx hd => hx.out r2 (q7 _ (by omega)).1 hd
      obtain ⟨z, z1⟩ := ih (i + 1) m' (by omega) (q1.trans (r2.fi (by unfold bG; omega) (by unfold bG; omega))) ((r2.iv (show ¬ (bG b (nc * 3 + i) ≤ b ∧ _) by unfold bG; omega)).trans q2) (q3.out r2 (fun a j ha => by unfold bG at ha; omega)) (q4.out r2 (fun a ha => by unfold bG at ha; omega) (fun a j ha => by unfold bG at ha; omega)).1 (by rw [(q4.out r2 (fun a ha => by unfold bG at ha; omega) (fun a j ha => by unfold bG at ha; omega)).2]; exact q5)
        (fun g hg => by
          obtain ⟨o1, o2⟩ := out _ (q6 g hg).1 (by unfold bG; omega)
          exact ⟨o1, by rw [o2]; exact (q6 g hg).2⟩)
        (fun j hj => by
          by_cases e : j = nc * 3 + i
          · rw [e]; exact r3
          · exact (out _ (q7 j hj) (by unfold bG; omega)).1)
        (fun j hj hn => by rw [(out _ (q7 j hj) (by unfold bG; omega)).2]; exact q8 j hj hn)
        (fun g hg => by
          by_cases e : g = i
          · rw [e, r4]; exact (q6 i (by omega)).2
          · rw [(out _ (q7 _ (by omega)) (by unfold bG; omega)).2]; exact q9 g (by omega))
      exact ⟨z, by rw [run]; exact z1.1, z1.2⟩
  obtain ⟨m, a1, a2, a3, a4, a5, a6, a7, a8, a9, a10⟩ := loop 3 0 μ rfl FI.refl rfl h1 h3.1 rfl h2 h4 (fun _ _ _ => rfl) (fun g hg => absurd hg (Nat.not_lt_zero g))
  have hn6 : (nc + 1) % 6 < 6 := Nat.mod_lt _ (by decide)
  have bn : nc + 1 < 2147483648 := by omega
  have ediv : N (nc + 1) / N 6 = N ((nc + 1) / 6) := by
    refine Int32.toInt_inj.mp ?_
    rw [Int32.toInt_div_of_ne_right _ _ (by decide), N_toInt bn, N_toInt (by decide), N_toInt (by omega)]
    rw [Int.tdiv_eq_ediv_of_nonneg (by omega)]
    omega
  have emod : N (nc + 1) - N ((nc + 1) / 6 * 6) = N ((nc + 1) % 6) := by
    rw [N_sub (by omega)]
    congr 1; omega
  obtain ⟨l, hl⟩ : ∃ l, l = ((s.1 :: s.2.2).take 6).length := ⟨_, rfl⟩
  have hl6 : l = min (s.2.2.length + 1) 6 := by rw [hl, List.length_take, List.length_cons]; omega
  have emin : imin (N (s.2.2.length + 1)) (N 6) = N l := by
    unfold imin
    simp only [N_lt (show 6 < 2147483648 by decide) (show s.2.2.length + 1 < 2147483648 by omega)]
    by_cases e : 6 < s.2.2.length + 1
    · rw [if_pos e]; congr 1; omega
    · rw [if_neg e]; congr 1; omega
  obtain ⟨μ', hμ'⟩ : ∃ μ', μ' = jsetI (jsetI m b 6 (N ((nc + 1) % 6))) b 7 (N l) := ⟨_, rfl⟩
  have F : Fx (fun a => a = b) (fun _ _ => False) m μ' := by
    rw [hμ']
    refine Fx.setI (Fx.setI Fx.refl ?_) ?_
    · show b = b; rfl
    · show b = b; rfl
  refine ⟨μ', ?_, a2.trans (Fx.mono F (fun a h => ⟨by omega, by omega⟩) (fun a j h => h.elim)), h0, a4.out F (fun a j h => h.elim), fun g hg => ?_, ?_, fun i hi => ?_, (nc + 1) % 6, hn6, ?_, ?_, ?_, ?_⟩
  · rw [jC_run (by decide)]
    show jR (d + 2) 70 0 [.ref b, .retAddr 0] [] μ = _
    rw [b70_0, N_lit, a1, b70_2, hμ']
    have e6 : jiv m b 6 = N nc := by rw [a3]; exact h6
    have e7 : jiv m b 7 = N s.2.2.length := by rw [a3]; exact h7
    simp only [gI3, gR3, pI3, pR3, rv3, aI_eq, aB_eq, aR_eq, sI_eq, sB_eq, sR_eq, Option.bind_some, Option.bind_none, if_true, if_false, true_or, or_true, false_or, or_false, true_and, and_true, false_and, and_false, decide_eq_true_eq, decide_true, decide_false, eq_self, not_true_eq_false, not_false_eq_true, jfit0, N_lit, N_add, N_mul, NEG_eq, pl_none, pl_some, rf_some, rf_none, jun_ref, jun_null, ir_ref, ir_null, jr_rf, jun_rf, Option.toList_some, Option.toList_none, List.nil_append, List.cons_append, ty_setI, ty_setR, ty_rowI, ty_rowR, jk_setI, jk_setR, jk_rowI, jk_rowR, jl_setI, jl_setR, jl_rowI, jl_rowR, sz_setI, sz_setR, sz_rowI, sz_rowR, ext_setI, ext_setR, iv_setI, iv_setR, iv_rowI, iv_rowR, rv_setI, rv_setR, rv_rowI, rv_rowR, iv_setIn, iv_rowIn, rv_setRn, rv_rowRn, iv_rowIe, rv_rowRe, N_lt b3 b3, Nat.lt_irrefl, a4.1, e6, ediv, emod, true_and, Nat.reduceEqDiff, e7, math_min, emin, b70_59]
  · obtain ⟨p1, p2⟩ := (a7 g hg).1.outx F (fun a ha => by have h : a = b := ha; subst h; exact ⟨by omega, by omega⟩) (fun a j ha => ha.elim)
    exact ⟨p1, by rw [p2]; exact (a7 g hg).2⟩
  · obtain ⟨p1, p2⟩ := a5.out F (fun a ha => by have h : a = b := ha; omega) (fun a j ha => ha.elim)
    exact ⟨p1, fun c hc => by rw [p2, a6]; exact h3.2 c hc⟩
  · exact ((a8 i hi).outx F (fun a ha => by have h : a = b := ha; subst h; exact ⟨by omega, by unfold bG; omega⟩) (fun a j ha => ha.elim)).1
  · rw [hμ']; simp only [ty_setI, ty_setR, ty_rowI, ty_rowR, jk_setI, jk_setR, jk_rowI, jk_rowR, jl_setI, jl_setR, jl_rowI, jl_rowR, sz_setI, sz_setR, sz_rowI, sz_rowR, ext_setI, ext_setR, iv_setI, iv_setR, iv_rowI, iv_rowR, rv_setI, rv_setR, rv_rowI, rv_rowR, iv_setIn, iv_rowIn, rv_setRn, rv_rowRn, iv_rowIe, rv_rowRe, true_and, Nat.reduceEqDiff, if_true, if_false]
  · rw [hμ']
    simp only [ty_setI, ty_setR, ty_rowI, ty_rowR, jk_setI, jk_setR, jk_rowI, jk_rowR, jl_setI, jl_setR, jl_rowI, jl_rowR, sz_setI, sz_setR, sz_rowI, sz_rowR, ext_setI, ext_setR, iv_setI, iv_setR, iv_rowI, iv_rowR, rv_setI, rv_setR, rv_rowI, rv_rowR, iv_setIn, iv_rowIn, rv_setRn, rv_rowRn, iv_rowIe, rv_rowRe, true_and, Nat.reduceEqDiff, if_true, if_false]
    rw [hl]
  · show ((s.1 :: s.2.2).take 6).length ≤ 6
    rw [List.length_take]; omega
  · intro j h hj g hg
    have hj6 : j < 6 := by
      have := (List.getElem?_eq_some_iff.mp hj).1
      have h2 : j < ((s.1 :: s.2.2).take 6).length := this
      rw [List.length_take] at h2; omega
    have hj2 : (s.1 :: s.2.2)[j]? = some h := by
      have h3 : ((s.1 :: s.2.2).take 6)[j]? = some h := hj
      rw [List.getElem?_take, if_pos hj6] at h3; exact h3
    have hm6 := Nat.mod_lt ((nc + 1) % 6 + 6 - 1 - j) (show 6 > 0 by decide)
    have hx : (((nc + 1) % 6 + 6 - 1 - j) % 6) * 3 + g < 18 := by omega
    rw [((a8 _ hx).outx F (fun a ha => by have h : a = b := ha; subst h; exact ⟨by omega, by unfold bG; omega⟩) (fun a j ha => ha.elim)).2]
    cases j with
    | zero =>
      have e : ((nc + 1) % 6 + 6 - 1 - 0) % 6 = nc := by omega
      rw [e, a10 g hg]
      have : s.1 = h := by simpa using hj2
      rw [this]
    | succ j =>
      have e : ((nc + 1) % 6 + 6 - 1 - (j + 1)) % 6 = (nc + 6 - 1 - j) % 6 := by omega
      have hne : (nc + 6 - 1 - j) % 6 ≠ nc := by omega
      have hm7 := Nat.mod_lt (nc + 6 - 1 - j) (show 6 > 0 by decide)
      rw [e, a9 _ (by omega) (by omega)]
      exact h9 j h (by simpa using hj2) g hg
end BOARD
