/-! THE CLASS's CALLS: what a sheet tells -/
theorem mem_ins {α : Type} {l : List α} {i : Nat} {a b : α} (h : a ∈ l.insertIdx i b) : a = b ∨ a ∈ l := by
  by_cases hi : i ≤ l.length
  · exact (List.mem_insertIdx hi).mp h
  · rw [List.insertIdx_of_length_lt (by omega)] at h
    exact Or.inr h
/-- the keys of what is merged are among those of the two -/
theorem thW_keys {gb gx gt : DG} : ∀ (ks : List Int32) (W : DG) (b : Nat) (W' : DG), thW gb gx gt ks W b = some W' → ∀ w, w ∈ W' → w.1 ∈ W.map (fun w => w.1) ∨ w.1 ∈ ks
  | [], W, b, W', h, w, hw => by
    cases h
    exact Or.inl (List.mem_map.mpr ⟨w, hw, rfl⟩)
  | k :: ks, W, b, W', h, w, hw => by
    unfold thW at h
    split at h
    · split at h
      · rcases thW_keys ks _ _ _ h w hw with g | g
        · rw [List.mem_map] at g
          obtain ⟨v, hv, e⟩ := g
          rcases mem_ins hv with rfl | hv
          · exact Or.inr (by rw [← e]; exact List.mem_cons_self ..)
          · exact Or.inl (List.mem_map.mpr ⟨v, hv, e⟩)
        · exact Or.inr (List.mem_cons_of_mem _ g)
      · cases h
    · rcases thW_keys ks _ _ _ h w hw with g | g
      · exact Or.inl g
      · exact Or.inr (List.mem_cons_of_mem _ g)
theorem pMerge_KK {R : Nat → Nat × Nat} {gb gx gt : DG} {M : DG × List CL} (hx : KK gx) (ht : KK gt) (h : pMerge R gb gx gt = some M) : KK M.1 := by
  unfold pMerge at h
  cases e : thW gb gx gt (gt.map fun w => w.1) (mineW gb gx gt gx) 0 with
  | none => rw [e] at h; cases h
  | some W =>
    rw [e] at h
    cases h
    have hk := keys_pRows (R := R) (gb := gb) (gx := gx) (gt := gt) (W := W) 99
    intro w hw
    have hw1 : w.1 ∈ (pRows R gb gx gt W 99).map (fun w => w.1) := List.mem_map.mpr ⟨w, hw, rfl⟩
    rw [hk, List.mem_map] at hw1
    obtain ⟨v, hv, e1⟩ := hw1
    rw [← e1]
    rcases thW_keys _ _ _ _ e v hv with g | g
    · unfold mineW at g
      rw [List.map_map, List.mem_map] at g
      obtain ⟨k, hk, e2⟩ := g
      have hk := (List.mem_filter.mp hk).1
      rw [List.mem_map] at hk
      obtain ⟨u, hu, e3⟩ := hk
      have e2 : k = v.1 := e2
      rw [← e2, ← e3]
      exact hx u hu
    · rw [List.mem_map] at g
      obtain ⟨u, hu, e3⟩ := g
      rw [← e3]
      exact ht u hu
section TOP
variable {μ μ' μ'' : jM} {n w m v lo hi a b r q s D d X i k p c : Nat} {σ σ' : SG} {x y z u g : Int32} {bs : List Nat}
/-- the asking's frame -/
def FQ (X : Nat) (μ μ' : jM) : Prop := Fx (fun a => X + 285 ≤ a ∧ a < X + 285 + 4) (fun a j => a = X + 285 ∧ j = 0) μ μ'
theorem t_fst {G : DG} {tb : Nat} (hb : BI μ X) (h : XR μ X σ) (hs : s < 4) (hg : GV μ (X + 766) k) (e : dG μ (xA k) = G) (hz : KZ G) (hd : k + 6 ≤ X + 285 ∨ X + 289 ≤ k) (hc : c < 3) (ht : tb = X + 334 + 2 * s) : ∃ μ', jC (d + 103) 49 [.ref X, .ref tb, .ref k, .int (N c)] μ = some (some (.int (fstO G c (σ.2.2.2.2.2 s).2 0)), μ') ∧ XT μ X μ' σ 0 0 ∧ FQ X μ μ' := by
  subst ht
  obtain ⟨k9, vs, n1, l40⟩ := h.sk hs
  obtain ⟨sv, s0, sl⟩ := h.sh hs
  have hl8 : G.length ≤ 8 := by rw [← e, len_dG]; exact hg.2.2.1.2
  have kn : ∀ μ0, GV μ0 (X + 766) k → dG μ0 (xA k) = G → jk μ0 k = 6 ∧ jiv μ0 k 0 = N G.length := fun μ0 h0 e0 => ⟨h0.2.1.1.1, by rw [← e0, len_dG]; exact h0.2.2.1.1⟩
  have sget : ∀ j, j < (σ.2.2.2.2.2 s).2.length → (σ.2.2.2.2.2 s).2[j]? = some (jiv μ (X + 334 + 2 * s + 1) j) := fun j hj => by
    rw [← sl]; unfold shL
    rw [List.getElem?_map, List.getElem?_range (by rw [vs]; exact hj)]; rfl
  obtain ⟨B, hB⟩ : ∃ B, B = min (σ.2.2.2.2.2 s).2.length G.length := ⟨_, rfl⟩
  have loop : ∀ (j i : Nat) (μ1 : jM) (u6 : Value), i + j = B → XT μ X μ1 σ 0 0 → FQ X μ μ1 → ∃ μ', jR (d + 103) 49 16 [.ref X, .ref (X + 334 + 2 * s), .ref k, .int (N c), .int (N B), .int (N i), u6] [] μ1 = some (some (.int (fstO G c ((σ.2.2.2.2.2 s).2.drop i) i)), μ') ∧ XT μ X μ' σ 0 0 ∧ FQ X μ μ' := by
    intro j
    induction j with
    | zero =>
      intro i μ1 u6 hi T1 F1
      rw [Nat.add_zero] at hi
      subst hi
      have h1 := T1.2.2
      obtain ⟨hg1, e1⟩ := hg.outx F1 (fun a ha => by
        have ha : X + 285 ≤ a ∧ a < X + 285 + 4 := ha
        omega) (fun a j ha => by
        have ha : a = X + 285 ∧ j = 0 := ha
        omega)
      obtain ⟨q6, q0⟩ := kn μ1 hg1 (e1.trans e)
      obtain ⟨p9, -, p1, -⟩ := h1.sk hs
      refine ⟨μ1, ?_, T1, F1⟩
      rw [b49_16 (h1 := ir_ref) (h2 := ir_ref), if_neg (by rw [N_lt (by omega) (by omega)]; omega)]
      simp only [gI9, gR9, pI9, pR9, rv9, gI6, gR6, pI6, pR6, rv6, aI_eq, aB_eq, aR_eq, sI_eq, sB_eq, sR_eq, Option.bind_some, Option.bind_none, if_true, if_false, true_or, or_true, false_or, or_false, true_and, and_true, false_and, and_false, decide_eq_true_eq, decide_true, decide_false, eq_self, not_true_eq_false, not_false_eq_true, jfit0, N_lit, N_add, N_mul, NEG_eq, pl_none, pl_some, rf_some, rf_none, jun_ref, jun_null, ir_ref, ir_null, jr_rf, jun_rf, Option.toList_some, Option.toList_none, List.nil_append, List.cons_append, p9, p1, q6, q0, N_inj (show (σ.2.2.2.2.2 s).2.length < 2147483648 by omega) (show G.length < 2147483648 by omega), b49_84]
      by_cases eq : (σ.2.2.2.2.2 s).2.length = G.length
      · rw [if_pos eq]
        have : (σ.2.2.2.2.2 s).2.drop i = [] := List.drop_eq_nil_of_le (by omega)
        rw [this]
        unfold fstO
        rw [if_pos (by omega)]
      · rw [if_neg eq]
        by_cases hlt : (σ.2.2.2.2.2 s).2.length < G.length
        · have : (σ.2.2.2.2.2 s).2.drop i = [] := List.drop_eq_nil_of_le (by omega)
          rw [this]
          unfold fstO
          rw [if_neg (by omega)]
        · rw [List.drop_eq_getElem_cons (show i < (σ.2.2.2.2.2 s).2.length by omega)]
          unfold fstO
          rw [if_pos (by omega)]
    | succ j ih =>
      intro i μ1 u6 hi T1 F1
      have h1 := T1.2.2
      obtain ⟨hg1, e1⟩ := hg.outx F1 (fun a ha => by
        have ha : X + 285 ≤ a ∧ a < X + 285 + 4 := ha
        omega) (fun a j ha => by
        have ha : a = X + 285 ∧ j = 0 := ha
        omega)
      obtain ⟨q6, q0⟩ := kn μ1 hg1 (e1.trans e)
      obtain ⟨μ2, c2, T2, v2, F2⟩ := t_valueOf (d := d) (G := G) T1.2.1 h1 hg1 (e1.trans e) hz hd (show i < G.length by omega) hc
      have h2 := T2.2.2
      obtain ⟨p9, pvs, p1, -⟩ := h2.sk hs
      obtain ⟨psv, -, psl⟩ := h2.sh hs
      obtain ⟨i12, _, _, _, _, i5, -⟩ := h1.s0
      obtain ⟨j12, _, _, _, _, j5, -⟩ := h2.s0
      have hil : i < (σ.2.2.2.2.2 s).2.length := by omega
      have pget : (σ.2.2.2.2.2 s).2[i]? = some (jiv μ2 (X + 334 + 2 * s + 1) i) := by
        rw [← psl]; unfold shL
        rw [List.getElem?_map, List.getElem?_range (by rw [pvs]; exact hil)]; rfl
      have hdr : (σ.2.2.2.2.2 s).2.drop i = jiv μ2 (X + 334 + 2 * s + 1) i :: (σ.2.2.2.2.2 s).2.drop (i + 1) := by
        rw [List.drop_eq_getElem_cons hil]
        congr 1
        rw [List.getElem?_eq_getElem hil] at pget
        exact Option.some.inj pget
      have ge := ent_get (μ := μ2) psv.1.2.2.1 psv.1.2.2.2 (show i < 40 by omega) (by decide)
      have FF : FQ X μ μ2 := Fx.trans F1 F2
      rw [hdr]
      unfold fstO
      rw [if_neg (show ¬ G.length ≤ i by omega), b49_16 (h1 := ir_ref) (h2 := ir_ref), if_pos (by rw [N_lt (by omega) (by omega)]; omega)]
      simp only [gI12, gR12, pI12, pR12, rv12, gI2, gR2, pI2, pR2, rv2, Option.bind_some, Option.bind_none, if_true, if_false, true_or, or_true, false_or, or_false, true_and, and_true, false_and, and_false, decide_eq_true_eq, decide_true, decide_false, eq_self, not_true_eq_false, not_false_eq_true, jfit0, N_lit, N_add, N_mul, NEG_eq, pl_none, pl_some, rf_some, rf_none, jun_ref, jun_null, ir_ref, ir_null, jr_rf, jun_rf, Option.toList_some, Option.toList_none, List.nil_append, List.cons_append, i12, i5, h1.k2, c2]
      rw [b49_34 (h1 := ir_ref) (h2 := ir_ref)]
      simp only [gI12, gR12, pI12, pR12, rv12, gI2, gR2, pI2, pR2, rv2, gI9, gR9, pI9, pR9, rv9, Option.bind_some, Option.bind_none, if_true, if_false, true_or, or_true, false_or, or_false, true_and, and_true, false_and, and_false, decide_eq_true_eq, decide_true, decide_false, eq_self, not_true_eq_false, not_false_eq_true, jfit0, N_lit, N_add, N_mul, NEG_eq, pl_none, pl_some, rf_some, rf_none, jun_ref, jun_null, ir_ref, ir_null, jr_rf, jun_rf, Option.toList_some, Option.toList_none, List.nil_append, List.cons_append, j12, j5, h2.k2, v2, p9, psv.1.2.1, ge]
      by_cases w1 : (vlC G i c).1 = N 0
      · rw [if_pos w1]
        by_cases w2 : (vlC G i c).2 = jiv μ2 (X + 334 + 2 * s + 1) i
        · rw [if_pos w2, if_pos ⟨w1, w2⟩]
          exact ih (i + 1) μ2 _ (by omega) (T1.trans T2) FF
        · rw [if_neg w2, if_neg (fun g => w2 g.2), b49_58]
          exact ⟨μ2, rfl, T1.trans T2, FF⟩
      · rw [if_neg w1, if_neg (fun g => w1 g.1), b49_58]
        exact ⟨μ2, rfl, T1.trans T2, FF⟩
  obtain ⟨μ', q1, q2⟩ := loop B 0 μ (.retAddr 0) (by omega) (XT.refl hb h) Fx.refl
  refine ⟨μ', ?_, q2⟩
  obtain ⟨q6, q0⟩ := kn μ hg e
  rw [jC_run (by decide)]
  show jR (d + 103) 49 0 [.ref X, .ref (X + 334 + 2 * s), .ref k, .int (N c), .retAddr 0, .retAddr 0, .retAddr 0] [] μ = _
  rw [b49_0 (h1 := ir_ref) (h2 := ir_ref)]
  simp only [gI9, gR9, pI9, pR9, rv9, gI6, gR6, pI6, pR6, rv6, aI_eq, aB_eq, aR_eq, sI_eq, sB_eq, sR_eq, Option.bind_some, Option.bind_none, if_true, if_false, true_or, or_true, false_or, or_false, true_and, and_true, false_and, and_false, decide_eq_true_eq, decide_true, decide_false, eq_self, not_true_eq_false, not_false_eq_true, jfit0, N_lit, N_add, N_mul, NEG_eq, pl_none, pl_some, rf_some, rf_none, jun_ref, jun_null, ir_ref, ir_null, jr_rf, jun_rf, Option.toList_some, Option.toList_none, List.nil_append, List.cons_append, k9, n1, q6, q0, math_min, imin_N (show (σ.2.2.2.2.2 s).2.length < 2147483648 by omega) (show G.length < 2147483648 by omega), ← hB]
  rw [b49_11 (h1 := ir_ref) (h2 := ir_ref)]
  simp only [N_lit]
  exact q1
theorem or_bit : ∀ (k : Fin 6) (b : Fin 64), b.val < 2 ^ k.val → (N b.val ||| (N 1 <<< (N k.val &&& N 31))) = N (b.val + 2 ^ k.val) := by decide
theorem pRt_lt {t : List Int32} : ∀ (k b : Nat), pRt σ t c k = some b → b < 2 ^ k
  | 0, b, h => by cases h; decide
  | k + 1, b, h => by
    unfold pRt at h
    cases e : pRt σ t c k with
    | none => rw [e] at h; cases h
    | some b0 =>
      rw [e] at h
      have := pRt_lt k b0 e
      simp only [Option.bind_some] at h
      cases e2 : pMerge (updf σ.1.2.1 c (k, (σ.1.2.1 c).2)) (σ.1.1 0) (σ.1.1 1) (σ.1.1 2) with
      | none => rw [e2] at h; cases h
      | some W =>
        rw [e2] at h
        simp only [Option.map_some, Option.some.injEq] at h
        rw [Nat.pow_succ]
        split at h <;> omega
theorem pRt_none {t : List Int32} {j : Nat} : ∀ (k : Nat), pRt σ t c j = none → pRt σ t c (j + k) = none
  | 0, h => h
  | k + 1, h => by
    have := pRt_none k h
    show (pRt σ t c (j + k)).bind _ = none
    rw [this]; rfl
theorem t_rulesTold {tb : Nat} (hb : BI μ X) (h : XR μ X σ) (hs : s < 4) (hc : c < 3) (ht : tb = X + 334 + 2 * s) (hw1 : KK (σ.1.1 1)) (hw2 : KK (σ.1.1 2)) : ∃ μ', jC (d + 104) 50 [.ref X, .ref tb, .int (N c)] μ = some (some (.int (((pRt σ (σ.2.2.2.2.2 s).2 c 6).map N).getD aFULL)), μ') ∧ XT μ X μ' σ 0 0 := by
  obtain ⟨k12, r0, r1, r3, r4, r5, r6, r8, r9, r10, r11, r12, r14⟩ := h.s0
  obtain ⟨hru, hrl, hr4⟩ := h.ru
  have htr : RV μ (X + 330) := h 10 (by decide)
  obtain ⟨μ1, c1, F1, V1, e1⟩ := d_rbecome (d := d + 102) htr hru (by omega)
  have e1 : ∀ c, c < 3 → rL μ1 (X + 330) c = σ.1.2.1 c := fun c hc => (e1 c hc).trans (hrl c hc)
  have T1 : XT μ X μ1 σ 0 0 := by
    refine XR.one (k := 10) hb h (by decide) (Fx.fa F1 hb.1) (fun a g => ?_) (fun a j g => g.elim) V1 (fun i hi hne h => h)
    have g : X + 330 ≤ a ∧ a < X + 330 + 3 := g
    show X + 330 ≤ a ∧ a < X + 333; omega
  -- kind after kind
  have loop : ∀ (j i b : Nat) (μ2 : jM), i + j = 6 → pRt σ (σ.2.2.2.2.2 s).2 c i = some b → XT μ X μ2 σ 0 0 → (∀ c', c' < 3 → (c' ≠ c → rL μ2 (X + 330) c' = σ.1.2.1 c') ∧ (rL μ2 (X + 330) c').2 = (σ.1.2.1 c').2) → ∃ μ', jR (d + 104) 50 19 [.ref X, .ref tb, .int (N c), .int (N b), .int (N i)] [] μ2 = some (some (.int (((pRt σ (σ.2.2.2.2.2 s).2 c 6).map N).getD aFULL)), μ') ∧ XT μ X μ' σ 0 0 := by
    intro j
    induction j with
    | zero =>
      intro i b μ2 hi hp T2 _
      rw [Nat.add_zero] at hi
      subst hi
      refine ⟨μ2, ?_, T2⟩
      rw [b50_19 (h1 := ir_ref), if_neg (by decide), hp]; rfl
    | succ j ih =>
      intro i b μ2 hi hp T2 hL
      have hi6 : i < 6 := by omega
      have h2 := T2.2.2
      obtain ⟨j12, j0, j1, j3, j4, j5, j6, j8, j9, j10, j11, jr12, j14⟩ := h2.s0
      obtain ⟨q0, q1, q2, q3, q4⟩ := h2.br
      have V2 : RV μ2 (X + 330) := h2 10 (by decide)
      obtain ⟨⟨w8, w1, wl1, w2, wl2⟩, ⟨p0, p1⟩, pv⟩ := id V2
      have s1 := ent_set (μ := μ2) (v := N i) w1 wl1 hc (by decide)
      have F3 : Fx (fun x => X + 330 ≤ x ∧ x < X + 330 + 3) (fun _ _ => False) μ2 (jsetI μ2 (X + 330 + 1) c (N i)) := by
        refine Fx.setI Fx.refl ?_
        show X + 330 ≤ X + 330 + 1 ∧ _; omega
      have V3 : RV (jsetI μ2 (X + 330 + 1) c (N i)) (X + 330) := by
        refine ⟨⟨w8, w1, wl1, w2, wl2⟩, ⟨p0, p1⟩, fun c' hc' => ?_⟩
        obtain ⟨k', f', a1, a2, a3, a4⟩ := pv c' hc'
        by_cases ec : c' = c
        · subst ec
          exact ⟨i, f', hi6, a2, by simp [iv_setI], by simp [iv_setI]; exact a4⟩
        · exact ⟨k', f', a1, a2, by simp [iv_setI, ec]; exact a3, by simp [iv_setI]; exact a4⟩
      have R3 : ∀ c', c' < 3 → rL (jsetI μ2 (X + 330 + 1) c (N i)) (X + 330) c' = updf σ.1.2.1 c (i, (σ.1.2.1 c).2) c' := fun c' hc' => by
        obtain ⟨g1, g2⟩ := hL c' hc'
        unfold updf
        by_cases ec : c' = c
        · subst ec
          rw [if_pos rfl, ← g2]
          unfold rL
          have a1 : jiv (jsetI μ2 (X + 330 + 1) c' (N i)) (X + 330 + 1) c' = N i := by simp [iv_setI]
          have a2 : jiv (jsetI μ2 (X + 330 + 1) c' (N i)) (X + 330 + 2) c' = jiv μ2 (X + 330 + 2) c' := by simp [iv_setI]
          rw [a1, a2, N_nat (by omega)]
        · rw [if_neg ec, ← g1 ec]
          unfold rL
          have a1 : jiv (jsetI μ2 (X + 330 + 1) c (N i)) (X + 330 + 1) c' = jiv μ2 (X + 330 + 1) c' := by simp [iv_setI, ec]
          have a2 : jiv (jsetI μ2 (X + 330 + 1) c (N i)) (X + 330 + 2) c' = jiv μ2 (X + 330 + 2) c' := by simp [iv_setI]
          rw [a1, a2]
      have T3 : XT μ2 X (jsetI μ2 (X + 330 + 1) c (N i)) σ 0 0 := by
        refine XR.one (k := 10) T2.2.1 h2 (by decide) (Fx.fa F3 T2.2.1.1) (fun a g => ?_) (fun a j g => g.elim) V3 (fun i hi hne h => h)
        have g : X + 330 ≤ a ∧ a < X + 330 + 3 := g
        show X + 330 ≤ a ∧ a < X + 333; omega
      have h3 := T3.2.2
      obtain ⟨l12, l0, _, _, _, _, _, l8, l9, l10, l11, lr12, l14⟩ := h3.s0
      obtain ⟨x0, x1, x2, x3, x4⟩ := h3.br
      obtain ⟨m1, m2, m3, -⟩ := h3.mt
      obtain ⟨μ4, c4, T4, F4, G4, C4, v4⟩ := t_make (d := d + 98) (m := X + 294) (k := 6) (r := X + 330) T3.2.1 h3 (Or.inl ⟨rfl, rfl⟩) (h3.gg (i := 0) (by decide)).1 (h3.gg (i := 1) (by decide)).1 (h3.gg (i := 2) (by decide)).1 (h3.gg (i := 0) (by decide)).2 (h3.gg (i := 1) (by decide)).2 (h3.gg (i := 2) (by decide)).2 V3 R3 (by unfold gA; omega) (by unfold gA; omega) (by unfold gA; omega) (by omega)
      have h4 := T4.2.2
      obtain ⟨o12, o0, _, _, _, _, _, o8, -⟩ := h4.s0
      obtain ⟨y1, y2, y3, -⟩ := h4.mt
      have pre : ∀ Z, jR (d + 104) 50 69 [.ref X, .ref tb, .int (N c), .int (N b), .int (N i)] [.int (mkR (pMerge (updf σ.1.2.1 c (i, (σ.1.2.1 c).2)) (σ.1.1 0) (σ.1.1 1) (σ.1.1 2)))] μ4 = Z → jR (d + 104) 50 19 [.ref X, .ref tb, .int (N c), .int (N b), .int (N i)] [] μ2 = Z := by
        intro Z hZ
        rw [← hZ, b50_19 (h1 := ir_ref), if_pos (show N i < 6 by show N i < N 6; rw [N_lt (by omega) (by decide)]; exact hi6)]
        simp only [gI12, gR12, pI12, pR12, rv12, gI8, gR8, pI8, pR8, rv8, gI3, gR3, pI3, pR3, rv3, gI7, gR7, pI7, pR7, rv7, Option.bind_some, Option.bind_none, if_true, if_false, true_or, or_true, false_or, or_false, true_and, and_true, false_and, and_false, decide_eq_true_eq, decide_true, decide_false, eq_self, not_true_eq_false, not_false_eq_true, jfit0, N_lit, N_add, N_mul, NEG_eq, pl_none, pl_some, rf_some, rf_none, jun_ref, jun_null, ir_ref, ir_null, jr_rf, jun_rf, Option.toList_some, Option.toList_none, List.nil_append, List.cons_append, j12, jr12, w8, p0, s1, l12, l8, l0, lr12, h3.k3, x0, x1, x2, m1, c4]
      have hstep : pRt σ (σ.2.2.2.2.2 s).2 c (i + 1) = (pMerge (updf σ.1.2.1 c (i, (σ.1.2.1 c).2)) (σ.1.1 0) (σ.1.1 1) (σ.1.1 2)).map fun W => if fstO W.1 c (σ.2.2.2.2.2 s).2 0 = NEG then b + 2 ^ i else b := by
        show (pRt σ _ c i).bind _ = _
        rw [hp]; rfl
      cases e : pMerge (updf σ.1.2.1 c (i, (σ.1.2.1 c).2)) (σ.1.1 0) (σ.1.1 1) (σ.1.1 2) with
      | none =>
        rw [e] at hstep pre
        have hnone := pRt_none (c := c) (σ := σ) (5 - i) (show pRt σ (σ.2.2.2.2.2 s).2 c (i + 1) = none from hstep)
        rw [show i + 1 + (5 - i) = 6 by omega] at hnone
        refine ⟨μ4, pre _ ?_, (T2.trans T3).trans T4⟩
        rw [b50_69 (h1 := ir_ref), hnone]
        simp only [mkR, N_lit, if_true]; rfl
      | some W =>
        rw [e] at hstep pre
        obtain ⟨w4, -⟩ := v4 W e
        have w4 : dG μ4 (xA (X + 295)) = W.1 := w4
        have G4 : GV μ4 (X + 766) (X + 295) := G4
        have k295 : jk μ4 (X + 295) = 6 := G4.2.1.1.1
        obtain ⟨μ5, c5, T5, F5⟩ := t_fst (d := d) (G := W.1) T4.2.1 h4 hs G4 w4 (pMerge_KK hw1 hw2 e).kz (by omega) hc ht
        have hL5 : ∀ c', c' < 3 → (c' ≠ c → rL μ5 (X + 330) c' = σ.1.2.1 c') ∧ (rL μ5 (X + 330) c').2 = (σ.1.2.1 c').2 := fun c' hc' => by
          have a1 : rL μ4 (X + 330) = rL (jsetI μ2 (X + 330 + 1) c (N i)) (X + 330) := (V3.out F4 (fun x g => by
            have g : X + 294 ≤ x ∧ x < X + 294 + 12 := g
            omega) (fun x j g => by
            have g : x = X + 294 + 5 ∨ (x = X + 294 ∧ 2 ≤ j ∧ j < 6) := g
            omega)).2
          have V4 : RV μ4 (X + 330) := h4 10 (by decide)
          have a2 : rL μ5 (X + 330) = rL μ4 (X + 330) := (V4.out F5 (fun x g => by
            have g : X + 285 ≤ x ∧ x < X + 285 + 4 := g
            omega) (fun x j g => by
            have g : x = X + 285 ∧ j = 0 := g
            omega)).2
          rw [a2, a1, R3 c' hc']
          unfold updf
          by_cases ec : c' = c
          · subst ec
            rw [if_pos rfl]
            exact ⟨fun g => absurd rfl g, rfl⟩
          · rw [if_neg ec]
            exact ⟨fun _ => rfl, rfl⟩
        have hblt := pRt_lt i b hp
        have h64 : (2 : Nat) ^ i ≤ 32 := by rcases (show i = 0 ∨ i = 1 ∨ i = 2 ∨ i = 3 ∨ i = 4 ∨ i = 5 by omega) with rfl | rfl | rfl | rfl | rfl | rfl <;> decide
        have hor := or_bit ⟨i, hi6⟩ ⟨b, by omega⟩ hblt
        have hor : (N b ||| (N 1 <<< (N i &&& N 31))) = N (b + 2 ^ i) := hor
        have TT := ((T2.trans T3).trans T4).trans T5
        have go2 : ∀ Z, jR (d + 104) 50 88 [.ref X, .ref tb, .int (N c), .int (N b), .int (N i)] [.int (fstO W.1 c (σ.2.2.2.2.2 s).2 0)] μ5 = Z → jR (d + 104) 50 69 [.ref X, .ref tb, .int (N c), .int (N b), .int (N i)] [.int (mkR (some W))] μ4 = Z := by
          intro Z hZ
          rw [← hZ, b50_69 (h1 := ir_ref)]
          simp only [mkR, N_lit, n10, if_false, gI12, gR12, pI12, pR12, rv12, gI7, gR7, pI7, pR7, rv7, aI_eq, aB_eq, aR_eq, sI_eq, sB_eq, sR_eq, Option.bind_some, Option.bind_none, if_true, if_false, true_or, or_true, false_or, or_false, true_and, and_true, false_and, and_false, decide_eq_true_eq, decide_true, decide_false, eq_self, not_true_eq_false, not_false_eq_true, jfit0, N_lit, N_add, N_mul, NEG_eq, pl_none, pl_some, rf_some, rf_none, jun_ref, jun_null, ir_ref, ir_null, jr_rf, jun_rf, Option.toList_some, Option.toList_none, List.nil_append, List.cons_append, o12, o8, y1, y2, c5]
        by_cases ef : fstO W.1 c (σ.2.2.2.2.2 s).2 0 = NEG
        · have hp1 : pRt σ (σ.2.2.2.2.2 s).2 c (i + 1) = some (b + 2 ^ i) := by rw [hstep, Option.map_some, if_pos ef]
          obtain ⟨μ', u1, u2⟩ := ih (i + 1) (b + 2 ^ i) μ5 (by omega) hp1 TT hL5
          refine ⟨μ', pre _ (go2 _ ?_), u2⟩
          rw [b50_88 (h1 := ir_ref), ef]
          simp only [N_lit, NEG_eq, if_true, hor]
          rw [b50_99 (h1 := ir_ref)]
          simp only [N_lit, N_add]
          exact u1
        · have hp1 : pRt σ (σ.2.2.2.2.2 s).2 c (i + 1) = some b := by rw [hstep, Option.map_some, if_neg ef]
          obtain ⟨μ', u1, u2⟩ := ih (i + 1) b μ5 (by omega) hp1 TT hL5
          refine ⟨μ', pre _ (go2 _ ?_), u2⟩
          rw [b50_88 (h1 := ir_ref)]
          simp only [N_lit, NEG_eq, ef, if_false]
          rw [b50_99 (h1 := ir_ref)]
          simp only [N_lit, N_add]
          exact u1
  obtain ⟨μ', q1, q2⟩ := loop 6 0 0 μ1 rfl rfl T1 (fun c' hc' => ⟨fun _ => e1 c' hc', by rw [e1 c' hc']⟩)
  refine ⟨μ', ?_, q2⟩
  rw [jC_run (by decide)]
  show jR (d + 104) 50 0 [.ref X, .ref tb, .int (N c), .retAddr 0, .retAddr 0] [] μ = _
  rw [b50_0 (h1 := ir_ref)]
  have k8 : jk μ (X + 330) = 8 := htr.1.1
  simp only [gI12, gR12, pI12, pR12, rv12, gI3, gR3, pI3, pR3, rv3, gI8, gR8, pI8, pR8, rv8, aI_eq, aB_eq, aR_eq, sI_eq, sB_eq, sR_eq, Option.bind_some, Option.bind_none, if_true, if_false, true_or, or_true, false_or, or_false, true_and, and_true, false_and, and_false, decide_eq_true_eq, decide_true, decide_false, eq_self, not_true_eq_false, not_false_eq_true, jfit0, N_lit, N_add, N_mul, NEG_eq, pl_none, pl_some, rf_some, rf_none, jun_ref, jun_null, ir_ref, ir_null, jr_rf, jun_rf, Option.toList_some, Option.toList_none, List.nil_append, List.cons_append, k12, r12, r0, h.k3, hr4, k8, c1]
  rw [b50_16 (h1 := ir_ref)]
  simp only [N_lit]
  exact q1
theorem t_tells (hb : BI μ X) (h : XR μ X σ) (hw : ∀ i, i < 4 → KK (σ.1.1 i)) : OP (d + 105) 47 [.ref X, .int x, .int y, .int z, .int u] μ X (o_tells σ x y z u) 0 0 := by
  obtain ⟨k12, r0, r1, r3, r4, r5, r6, r8, r9, r10, r11, r12, r14⟩ := h.s0
  unfold OP
  rw [jC_run (by decide)]
  show ∃ μ', jR (d + 105) 47 0 [.ref X, .int x, .int y, .int z, .int u, .retAddr 0] [] μ = _ ∧ _
  rw [b47_0]
  simp only [x_isSheet, aI_eq, aB_eq, aR_eq, sI_eq, sB_eq, sR_eq, Option.bind_some, Option.bind_none, if_true, if_false, true_or, or_true, false_or, or_false, true_and, and_true, false_and, and_false, decide_eq_true_eq, decide_true, decide_false, eq_self, not_true_eq_false, not_false_eq_true, jfit0, N_lit, N_add, N_mul, NEG_eq, pl_none, pl_some, rf_some, rf_none, jun_ref, jun_null, ir_ref, ir_null, jr_rf, jun_rf, Option.toList_some, Option.toList_none, List.nil_append, List.cons_append]
  rw [b47_4]
  unfold o_tells
  cases e : ix 4 x with
  | none =>
    refine ⟨μ, ?_, XT.refl hb h⟩
    simp only [Option.isSome_none, bN_false, N_lit, if_true, b47_36]
  | some s =>
    obtain ⟨rfl, hs⟩ := ix_some (by decide) e
    simp only [Option.isSome_some, bN_true, N_lit, n10, if_false, x_isColumn, aI_eq, aB_eq, aR_eq, sI_eq, sB_eq, sR_eq, Option.bind_some, Option.bind_none, if_true, if_false, true_or, or_true, false_or, or_false, true_and, and_true, false_and, and_false, decide_eq_true_eq, decide_true, decide_false, eq_self, not_true_eq_false, not_false_eq_true, jfit0, N_lit, N_add, N_mul, NEG_eq, pl_none, pl_some, rf_some, rf_none, jun_ref, jun_null, ir_ref, ir_null, jr_rf, jun_rf, Option.toList_some, Option.toList_none, List.nil_append, List.cons_append]
    rw [b47_11]
    cases e2 : ix 3 z with
    | none =>
      refine ⟨μ, ?_, XT.refl hb h⟩
      simp only [Option.isSome_none, bN_false, N_lit, if_true, b47_36]
    | some c =>
      obtain ⟨rfl, hc⟩ := ix_some (by decide) e2
      simp only [Option.isSome_some, bN_true, N_lit, n10, if_false, x_isIn, aI_eq, aB_eq, aR_eq, sI_eq, sB_eq, sR_eq, Option.bind_some, Option.bind_none, if_true, if_false, true_or, or_true, false_or, or_false, true_and, and_true, false_and, and_false, decide_eq_true_eq, decide_true, decide_false, eq_self, not_true_eq_false, not_false_eq_true, jfit0, N_lit, N_add, N_mul, NEG_eq, pl_none, pl_some, rf_some, rf_none, jun_ref, jun_null, ir_ref, ir_null, jr_rf, jun_rf, Option.toList_some, Option.toList_none, List.nil_append, List.cons_append]
      rw [b47_21]
      cases e3 : ix 2 u with
      | none =>
        refine ⟨μ, ?_, XT.refl hb h⟩
        have hx := ix_none (by decide) e3
        rw [pN_neg (fun g => ?_), if_pos (by rfl), b47_36]; rfl
        rcases hx with h1 | h1
        · exact g.1 h1
        · obtain ⟨b, hb, rfl⟩ := N_of g.1
          have g2 := g.2
          rw [N_lt (by decide) hb] at g2
          rw [N_lt hb (by decide)] at h1
          omega
      | some w =>
        obtain ⟨rfl, hw2⟩ := ix_some (by decide) e3
        obtain ⟨k9, vs, n1, l40⟩ := h.sk hs
        obtain ⟨sv, s0, sl⟩ := h.sh hs
        have cm := x_isMissing (d := d + 104) sv
        rw [s0] at cm
        rw [pN_pos ⟨by rw [N_lt (by omega) (by decide)]; omega, by rw [N_lt (by decide) (by omega)]; omega⟩]
        simp only [N_lit, n10, if_false, N_inj (show w < 2147483648 by omega) (show 0 < 2147483648 by decide), x_isGrid, aI_eq, aB_eq, aR_eq, sI_eq, sB_eq, sR_eq, Option.bind_some, Option.bind_none, if_true, if_false, true_or, or_true, false_or, or_false, true_and, and_true, false_and, and_false, decide_eq_true_eq, decide_true, decide_false, eq_self, not_true_eq_false, not_false_eq_true, jfit0, N_lit, N_add, N_mul, NEG_eq, pl_none, pl_some, rf_some, rf_none, jun_ref, jun_null, ir_ref, ir_null, jr_rf, jun_rf, Option.toList_some, Option.toList_none, List.nil_append, List.cons_append]
        -- from the sheet on
        have core : (w = 0 → ∃ g, y = N g ∧ g < 4) → ∃ μ', jR (d + 105) 47 39 [.ref X, .int (N s), .int y, .int (N c), .int (N w), .retAddr 0] [] μ = some (some (.int (if (σ.2.2.2.2.2 s).1 = NEG then aGONE else if 8 < (σ.2.2.2.2.2 s).2.length then aBAD else if w = 0 then fstO (σ.1.1 y.toNatClampNeg) c (σ.2.2.2.2.2 s).2 0 else ((pRt σ (σ.2.2.2.2.2 s).2 c 6).map N).getD aFULL)), μ') ∧ XT μ X μ' σ 0 0 := by
          intro hy
          have pre : ∀ Z, jR (d + 105) 47 52 [.ref X, .int (N s), .int y, .int (N c), .int (N w), .ref (X + 334 + 2 * s)] [.int (pN ((σ.2.2.2.2.2 s).1 = NEG))] μ = Z → jR (d + 105) 47 39 [.ref X, .int (N s), .int y, .int (N c), .int (N w), .retAddr 0] [] μ = Z := by
            intro Z hZ
            rw [← hZ, b47_39]
            simp only [gI12, gR12, pI12, pR12, rv12, gI9, gR9, pI9, pR9, rv9, Option.bind_some, Option.bind_none, if_true, if_false, true_or, or_true, false_or, or_false, true_and, and_true, false_and, and_false, decide_eq_true_eq, decide_true, decide_false, eq_self, not_true_eq_false, not_false_eq_true, jfit0, N_lit, N_add, N_mul, NEG_eq, pl_none, pl_some, rf_some, rf_none, jun_ref, jun_null, ir_ref, ir_null, jr_rf, jun_rf, Option.toList_some, Option.toList_none, List.nil_append, List.cons_append, k12, r14, h.sa hs, k9, cm]
          by_cases em : (σ.2.2.2.2.2 s).1 = NEG
          · rw [if_pos em]
            refine ⟨μ, pre _ ?_, XT.refl hb h⟩
            rw [b47_52 (h5 := ir_ref), pN_pos em, if_neg (by decide)]; rfl
          · rw [if_neg em]
            by_cases e8 : 8 < (σ.2.2.2.2.2 s).2.length
            · rw [if_pos e8]
              refine ⟨μ, pre _ ?_, XT.refl hb h⟩
              rw [b47_52 (h5 := ir_ref), pN_neg em, if_pos (by rfl)]
              simp only [N_lit, gI9, gR9, pI9, pR9, rv9, aI_eq, aB_eq, aR_eq, sI_eq, sB_eq, sR_eq, Option.bind_some, Option.bind_none, if_true, if_false, true_or, or_true, false_or, or_false, true_and, and_true, false_and, and_false, decide_eq_true_eq, decide_true, decide_false, eq_self, not_true_eq_false, not_false_eq_true, jfit0, N_lit, N_add, N_mul, NEG_eq, pl_none, pl_some, rf_some, rf_none, jun_ref, jun_null, ir_ref, ir_null, jr_rf, jun_rf, Option.toList_some, Option.toList_none, List.nil_append, List.cons_append, k9, n1, N_lt (show 8 < 2147483648 by decide) (show (σ.2.2.2.2.2 s).2.length < 2147483648 by omega), e8]
            · rw [if_neg e8]
              have e0 : (N w = N 0) = (w = 0) := N_inj (by omega) (by decide)
              have mid : ∀ Z, (if w = 0 then (jC (d + 104) 69 [.ref (X + 1), .int y] μ).bind fun p4 => jR (d + 105) 47 87 [.ref X, .int (N s), .int y, .int (N c), .int (N w), .ref (X + 334 + 2 * s)] (p4.1.toList ++ [.ref (X + 334 + 2 * s), .ref X]) p4.2 else (jC (d + 104) 50 [.ref X, .ref (X + 334 + 2 * s), .int (N c)] μ).bind fun p2 => jR (d + 105) 47 101 [.ref X, .int (N s), .int y, .int (N c), .int (N w), .ref (X + 334 + 2 * s)] (p2.1.toList ++ []) p2.2) = Z → jR (d + 105) 47 52 [.ref X, .int (N s), .int y, .int (N c), .int (N w), .ref (X + 334 + 2 * s)] [.int (pN ((σ.2.2.2.2.2 s).1 = NEG))] μ = Z := by
                intro Z hZ
                rw [← hZ, b47_52 (h5 := ir_ref), pN_neg em, if_pos (by rfl)]
                simp only [N_lit, gI9, gR9, pI9, pR9, rv9, gI12, gR12, pI12, pR12, rv12, gI3, gR3, pI3, pR3, rv3, aI_eq, aB_eq, aR_eq, sI_eq, sB_eq, sR_eq, Option.bind_some, Option.bind_none, if_true, if_false, true_or, or_true, false_or, or_false, true_and, and_true, false_and, and_false, decide_eq_true_eq, decide_true, decide_false, eq_self, not_true_eq_false, not_false_eq_true, jfit0, N_lit, N_add, N_mul, NEG_eq, pl_none, pl_some, rf_some, rf_none, jun_ref, jun_null, ir_ref, ir_null, jr_rf, jun_rf, Option.toList_some, Option.toList_none, List.nil_append, List.cons_append, k9, n1, N_lt (show 8 < 2147483648 by decide) (show (σ.2.2.2.2.2 s).2.length < 2147483648 by omega), e8, e0, k12, r0, h.k3]
              by_cases w0 : w = 0
              · rw [if_pos w0]
                obtain ⟨g, rfl, hg⟩ := hy w0
                rw [N_nat (by omega)]
                obtain ⟨μ', c1, T1, -⟩ := t_fst (d := d + 1) (G := σ.1.1 g) hb h hs (h.gg hg).1 (h.gg hg).2 (hw g hg).kz (by unfold gA; omega) hc rfl
                refine ⟨μ', pre _ (mid _ ?_), T1⟩
                rw [if_pos w0, t_gridAt h hg]
                simp only [aI_eq, aB_eq, aR_eq, sI_eq, sB_eq, sR_eq, Option.bind_some, Option.bind_none, if_true, if_false, true_or, or_true, false_or, or_false, true_and, and_true, false_and, and_false, decide_eq_true_eq, decide_true, decide_false, eq_self, not_true_eq_false, not_false_eq_true, jfit0, N_lit, N_add, N_mul, NEG_eq, pl_none, pl_some, rf_some, rf_none, jun_ref, jun_null, ir_ref, ir_null, jr_rf, jun_rf, Option.toList_some, Option.toList_none, List.nil_append, List.cons_append]
                rw [b47_87 (hs2 := ir_ref) (hs1 := ir_ref) (hs0 := ir_ref)]
                simp only [gI12, gR12, pI12, pR12, rv12, aI_eq, aB_eq, aR_eq, sI_eq, sB_eq, sR_eq, Option.bind_some, Option.bind_none, if_true, if_false, true_or, or_true, false_or, or_false, true_and, and_true, false_and, and_false, decide_eq_true_eq, decide_true, decide_false, eq_self, not_true_eq_false, not_false_eq_true, jfit0, N_lit, N_add, N_mul, NEG_eq, pl_none, pl_some, rf_some, rf_none, jun_ref, jun_null, ir_ref, ir_null, jr_rf, jun_rf, Option.toList_some, Option.toList_none, List.nil_append, List.cons_append, k12, c1, b47_91, b47_101]
              · rw [if_neg w0]
                obtain ⟨μ', c1, T1⟩ := t_rulesTold (d := d) hb h hs hc rfl (hw 1 (by decide)) (hw 2 (by decide))
                refine ⟨μ', pre _ (mid _ ?_), T1⟩
                rw [if_neg w0, c1]
                simp only [aI_eq, aB_eq, aR_eq, sI_eq, sB_eq, sR_eq, Option.bind_some, Option.bind_none, if_true, if_false, true_or, or_true, false_or, or_false, true_and, and_true, false_and, and_false, decide_eq_true_eq, decide_true, decide_false, eq_self, not_true_eq_false, not_false_eq_true, jfit0, N_lit, N_add, N_mul, NEG_eq, pl_none, pl_some, rf_some, rf_none, jun_ref, jun_null, ir_ref, ir_null, jr_rf, jun_rf, Option.toList_some, Option.toList_none, List.nil_append, List.cons_append, b47_101]
        cases e4 : ix 4 y with
        | none =>
          by_cases w0 : w = 0
          · simp only [if_pos w0, Option.isSome_none, bN_false]
            refine ⟨μ, ?_, XT.refl hb h⟩
            rw [b47_33, if_pos (by rfl), b47_36]; rfl
          · simp only [if_neg w0]
            obtain ⟨μ', q1, q2⟩ := core (fun g => absurd g w0)
            rw [if_neg w0] at q1
            refine ⟨μ', q1.trans ?_, ?_⟩
            · split
              · rfl
              · split <;> rfl
            · split
              · exact q2
              · split <;> exact q2
        | some g =>
          obtain ⟨rfl, hg⟩ := ix_some (by decide) e4
          obtain ⟨μ', q1, q2⟩ := core (fun _ => ⟨g, rfl, hg⟩)
          rw [N_nat (show g < 2147483648 by omega)] at q1
          refine ⟨μ', ?_, ?_⟩
          · by_cases w0 : w = 0
            · simp only [if_pos w0, Option.isSome_some, bN_true] at q1 ⊢
              rw [b47_33, if_neg (by decide)]
              refine q1.trans ?_
              split
              · rfl
              · split <;> rfl
            · simp only [if_neg w0] at q1 ⊢
              refine q1.trans ?_
              split
              · rfl
              · split <;> rfl
          · dsimp only
            split
            · exact q2
            · split
              · exact q2
              · split <;> exact q2
end TOP
