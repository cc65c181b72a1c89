/-! THE REFERENCE, MERGING: all of it -/
/-- the clashes as they are set down: none settled -/
def unS (l : List CL) : Prop := ∀ c, c ∈ l → c.2.2.2 = N 0
section LAY
variable {μ μ' μ'' ν : jM} {S S' : Nat → Prop} {T T' : Nat → Nat → Prop} {M g h t s n w d D i j k x y a b c f q : Nat} {A B C : GA} {σ : SG} {G : Nat → DG} {o o' ob ox ot : Option Nat} {R : Nat → Nat × Nat} {l l' : List CL} {V : Nat → DC} {K : List Int32} {W Wf : DG}
theorem un_app (h1 : unS l) (h2 : unS l') : unS (l ++ l') := by
  intro c hc
  rcases List.mem_append.mp hc with q | q
  · exact h1 c q
  · exact h2 c q
theorem un_clc {gb gx gt : DG} {kk : Int32} : unS (pClc R gb gx gt ob ox ot kk c) := by
  unfold pClc
  refine un_app ?_ ?_ <;> split <;> intro c hc
  · rw [List.mem_singleton.mp hc]
  · cases hc
  · rw [List.mem_singleton.mp hc]
  · cases hc
theorem un_rowK {gb gx gt : DG} {kk : Int32} : unS (pRowK R gb gx gt kk) := by
  unfold pRowK
  split
  · split <;> intro c hc
    · cases hc
    · rw [List.mem_singleton.mp hc]
  · exact un_app (un_app un_clc un_clc) un_clc
theorem un_cls {gb gx gt : DG} : ∀ n, unS (pCls R gb gx gt W n)
  | 0 => fun c hc => by cases hc
  | n + 1 => by
    unfold pCls
    cases lfind (N (n + 1)) W with
    | none => exact un_cls n
    | some i => exact un_app (un_cls n) un_rowK
theorem un_map (h : unS l) : l.map uns0 = l := by
  have : l.map uns0 = l.map id := List.map_congr_left fun c hc => by
    obtain ⟨a, b, e, f⟩ := c
    have := h _ hc
    have this : f = N 0 := this
    subst this; rfl
  rw [this, List.map_id]
/-- the keys of what is merged -/
theorem wf_facts {gb gx gt : DG} (kx : KK gx) (kt : KK gt) (nx : (ky1 gx).Nodup) (nt : (ky1 gt).Nodup) (l8 : gx.length ≤ 8) (h : thW gb gx gt (gt.map fun w => w.1) (mineW gb gx gt gx) 0 = some Wf) : Wf.length ≤ 8 ∧ KK Wf ∧ (ky1 Wf).Nodup ∧ ∀ k, k ∈ ky1 Wf → lfind k gx ≠ none ∨ lfind k gt ≠ none := by
  have ml : (mineW gb gx gt gx).length ≤ 8 := Nat.le_trans mineW_len l8
  obtain ⟨a1, a2, a3⟩ := thW_some _ _ _ _ (Nat.zero_le _) ml h
  have mem : ∀ k, k ∈ ky1 Wf → k ∈ ky1 gx ∨ k ∈ ky1 gt := by
    intro k hk
    rcases (a2 k).mp hk with q | q
    · rw [ky1_mine] at q
      exact Or.inl ((List.mem_filter.mp q).1)
    · exact Or.inr q.1
  refine ⟨a1, fun w hw => ?_, a3 ?_ nt (fun k hk hi q => ?_), fun k hk => ?_⟩
  · rcases mem w.1 (List.mem_map_of_mem hw) with q | q
    · exact kx.ky _ q
    · exact kt.ky _ q
  · rw [ky1_mine]
    exact nx.sublist List.filter_sublist
  · rw [ky1_mine] at q
    have q := (List.mem_filter.mp q).1
    unfold inB at hi
    have := Option.isNone_iff_eq_none.mp ((Bool.and_eq_true _ _).mp hi).1
    exact (lfind_nin.mp this) q
  · rcases mem k hk with q | q
    · exact Or.inl fun z => (lfind_nin.mp z) q
    · exact Or.inr fun z => (lfind_nin.mp z) q
/-- rows merged, key by key -/
theorem mg_rows (h : GG μ M G) (hr : RG μ M R) (n8 : Wf.length ≤ 8) (nW : (ky1 Wf).Nodup) (inW : ∀ k, k ∈ ky1 Wf → lfind k (G 1) ≠ none ∨ lfind k (G 2) ≠ none) : ∀ (m n : Nat) (μ1 : jM), n + m = 99 → FMe M μ μ1 → KS μ1 M (ky1 Wf) → MRc μ1 M (pCls R (G 0) (G 1) (G 2) Wf n) → (∀ (i : Nat) (w : RW (List Tk)) (z : Nat), Wf[i]? = some w → w.1 = N z → 1 ≤ z → z ≤ n → ∀ c, c < 3 → MCO μ1 (M + 424) (rc μ1 (mA M 3) (i * 3 + c)) ∧ rcm (mF μ1) (rc μ1 (mA M 3) (i * 3 + c)) = pRowC R (G 0) (G 1) (G 2) w.1 c) → ∃ μ2, jR (d + 5) 225 16 [.ref M, .int (N (n + 1))] [] μ1 = some (some (.int (N 1)), μ2) ∧ FMe M μ μ2 ∧ KS μ2 M (ky1 Wf) ∧ MRc μ2 M (pCls R (G 0) (G 1) (G 2) Wf 99) ∧ (∀ (i : Nat) (w : RW (List Tk)) (z : Nat), Wf[i]? = some w → w.1 = N z → 1 ≤ z → z ≤ 99 → ∀ c, c < 3 → MCO μ2 (M + 424) (rc μ2 (mA M 3) (i * 3 + c)) ∧ rcm (mF μ2) (rc μ2 (mA M 3) (i * 3 + c)) = pRowC R (G 0) (G 1) (G 2) w.1 c) := by
  intro m
  induction m with
  | zero =>
    intro n μ1 hn F hk hl hc
    have : n = 99 := by omega
    subst this
    exact ⟨μ1, by rw [b225_16, if_neg (by decide)]; rfl, F, hk, hl, hc⟩
  | succ m ih =>
    intro n μ1 hn F hk hl hc
    have h1 := F.gg h
    have hr1 := F.rg hr
    have hq := h1.1
    have k13 := hq.k13
    have p3 := r_placeOf (d := d + 4) hq hk.gq (N (n + 1))
    rw [hk.find] at p3
    have p3 : jC (d + 4) 194 [.ref M, .int 3, .int (N (n + 1))] μ1 = _ := p3
    have n3 : (pl (lfind (N (n + 1)) Wf) = -1) = (lfind (N (n + 1)) Wf = none) := plo_ne n8
    have st : jR (d + 5) 225 16 [.ref M, .int (N (n + 1))] [] μ1 = jR (d + 5) 225 28 [.ref M, .int (N (n + 1))] [.int (pl (lfind (N (n + 1)) Wf))] μ1 := by
      rw [b225_16, if_pos (by show N (n + 1) < N 100; rw [N_lt (by omega) (by decide)]; omega)]
      simp only [gI13, gR13, pI13, pR13, rv13, k13, p3, if_true, Option.bind_some]
      rfl
    have nxt : ∀ μ2, jR (d + 5) 225 37 [.ref M, .int (N (n + 1))] [] μ2 = jR (d + 5) 225 16 [.ref M, .int (N (n + 1 + 1))] [] μ2 := fun μ2 => by
      rw [b225_37]
      simp only [show (1 : Int32) = N 1 from rfl, N_add]
    rw [st, b225_28]
    cases e : lfind (N (n + 1)) Wf with
    | none =>
      rw [if_pos (show pl none = -1 from rfl), nxt]
      have ec : pCls R (G 0) (G 1) (G 2) Wf (n + 1) = pCls R (G 0) (G 1) (G 2) Wf n := by
        show (match lfind (N (n + 1)) Wf with | none => _ | some _ => _) = _
        rw [e]
      refine ih (n + 1) μ1 (by omega) F hk (by rw [ec]; exact hl) (fun i w z hi hw h1 h2 => ?_)
      have : z ≠ n + 1 := by
        rintro rfl
        rw [← hw, lfind_of nW hi] at e; cases e
      exact hc i w z hi hw h1 (by omega)
    | some i =>
      rw [if_neg (show ¬ pl (some i) = -1 by rw [← e, n3, e]; intro q; cases q)]
      have ec : pCls R (G 0) (G 1) (G 2) Wf (n + 1) = pCls R (G 0) (G 1) (G 2) Wf n ++ pRowK R (G 0) (G 1) (G 2) (N (n + 1)) := by
        show (match lfind (N (n + 1)) Wf with | none => _ | some _ => _) = _
        rw [e]
      have lc := len_pCls (R := R) (gb := G 0) (gx := G 1) (gt := G 2) (W := Wf) n (by omega)
      have lp : Wf.countP (upTo n) ≤ Wf.length := List.countP_le_length
      obtain ⟨w0, hw0, hw1⟩ := lfind_key e
      have hin := inW (N (n + 1)) (by rw [← hw1]; exact List.mem_map_of_mem (List.mem_of_getElem? hw0))
      obtain ⟨μ2, c2, a1, a2, a3, a4, a5, X, a6, a7⟩ := r_mergeRow (d := d) (i := i) (kk := N (n + 1)) h1 hr1 hk.2.2.2 hk.gq hl (by omega) (by rw [hk.find]; exact e) hin
      simp only [gI13, gR13, pI13, pR13, rv13, k13, c2, if_true, Option.bind_some]
      show ∃ μ2, jR (d + 5) 225 37 [.ref M, .int (N (n + 1))] [] _ = _ ∧ _
      rw [nxt]
      refine ih (n + 1) μ2 (by omega) (F.trans a1) ⟨hk.1, by rw [a3]; exact hk.2.1, by rw [a2]; exact hk.2.2.1, a4⟩ (by rw [ec]; exact a5) (fun i' w z hi hw h1 h2 c hc3 => ?_)
      rw [a7]
      by_cases ei : i' = i
      · subst ei
        rw [hw0] at hi
        cases hi
        rw [if_pos (by omega), show (i' * 3 + c) % 3 = c by omega, hw1]
        exact a6 c hc3
      · have : z ≠ n + 1 := by
          rintro rfl
          rw [← hw, lfind_of nW hi] at e
          cases e; exact ei rfl
        rw [if_neg (by omega)]
        obtain ⟨y1, y2⟩ := hc i' w z hi hw h1 (by omega) c hc3
        obtain ⟨y3, y4⟩ := a1.fd.mco y1
        exact ⟨y3, y4.trans y2⟩
theorem r_merges (h : GG μ M G) (hr : RG μ M R) (k3 : K3 μ M) (kx : KK (G 1)) (kt : KK (G 2)) (nx : (ky1 (G 1)).Nodup) (nt : (ky1 (G 2)).Nodup) : (pMerge R (G 0) (G 1) (G 2) = none ∧ jC (d + 5) 225 [.ref M] μ = some (some (.int (N 0)), μ)) ∨ ∃ W μ', pMerge R (G 0) (G 1) (G 2) = some W ∧ jC (d + 5) 225 [.ref M] μ = some (some (.int (N 1)), μ') ∧ FMe M μ μ' ∧ GVR μ' (M + 424) (mA M 3) ∧ dM μ' (mA M 3) = W.1 ∧ MRc μ' M W.2 ∧ unS W.2 := by
  have hq := h.1
  have st : jC (d + 5) 225 [.ref M] μ = jR (d + 5) 225 0 [.ref M, .retAddr 0] [] μ := by
    rw [jC_run (by decide)]; rfl
  rcases r_places (d := d) h k3 kx kt nx nt with ⟨a1, a2⟩ | ⟨Wf, μ1, a1, a2, a3, a4⟩
  · refine Or.inl ⟨?_, ?_⟩
    · unfold pMerge
      rw [a1]; rfl
    · rw [st, b225_0]
      simp only [gI13, gR13, pI13, pR13, rv13, hq.k13, a2, if_true, Option.bind_some]
      show jR (d + 5) 225 4 [.ref M, .retAddr 0] [.int (N 0)] μ = _
      rw [b225_4, if_pos (show N 0 = 0 from rfl)]
      rfl
  · refine Or.inr ?_
    have h1 := a3.me.gg h
    obtain ⟨w1, w2, w3, w4⟩ := wf_facts kx kt nx nt (h.gq (g := 1) (by decide)).2.2 a1
    have F2 : FMe M μ1 (jsetI μ1 M 35 (N 0)) := ⟨Fx.setI Fx.refl (Or.inl rfl), fun j _ => congrFun (iv_setIn (by omega)) j, fun j hj => ivj hj⟩
    have q1 := h1.1
    have ks2 : KS (jsetI μ1 M 35 (N 0)) M (ky1 Wf) := ⟨a4.1, by rw [iv_setIn (by omega)]; exact a4.2.1, by rw [iv_setIn (by omega)]; exact a4.2.2.1, a4.2.2.2⟩
    have l2 : MRc (jsetI μ1 M 35 (N 0)) M (pCls R (G 0) (G 1) (G 2) Wf 0) := ⟨Nat.zero_le _, if_pos ⟨rfl, rfl⟩, fun i c hi => by cases hi⟩
    obtain ⟨μ2, c1, c2, c3, c4, c5⟩ := mg_rows (d := d) h hr w1 w3 w4 99 0 (jsetI μ1 M 35 (N 0)) (by decide) (a3.me.trans F2) ks2 l2 (fun i w z _ _ h1 h2 => by omega)
    have len : (pRows R (G 0) (G 1) (G 2) Wf 99).length = Wf.length := by
      have := congrArg List.length (keys_pRows (R := R) (gb := G 0) (gx := G 1) (gt := G 2) (W := Wf) 99)
      rwa [List.length_map, List.length_map] at this
    have vn : vN μ2 (mA M 3) = Wf.length := by rw [c3.vn]; exact List.length_map ..
    have cell : ∀ i, i < Wf.length → ∀ c, c < 3 → MCO μ2 (M + 424) (rc μ2 (mA M 3) (i * 3 + c)) ∧ rcm (mF μ2) (rc μ2 (mA M 3) (i * 3 + c)) = pRowC R (G 0) (G 1) (G 2) (keyO Wf i) c := by
      intro i hi c hc
      have e := List.getElem?_eq_getElem hi
      obtain ⟨z, z1, z2, z3⟩ := w2 _ (List.getElem_mem hi)
      have := c5 i _ z e z3 z1 (by omega) c hc
      unfold keyO
      rw [e]
      exact this
    refine ⟨(pRows R (G 0) (G 1) (G 2) Wf 99, pCls R (G 0) (G 1) (G 2) Wf 99), μ2, ?_, ?_, c2, ⟨⟨c3.gq.2.1, c3.gq.2.2.1, c3.2.2.2⟩, fun w hw => ?_⟩, ?_, c4, un_cls 99⟩
    · unfold pMerge
      rw [a1]; rfl
    · rw [st, b225_0]
      simp only [gI13, gR13, pI13, pR13, rv13, hq.k13, a2, if_true, Option.bind_some]
      show jR (d + 5) 225 4 [.ref M, .retAddr 0] [.int (N 1)] μ1 = _
      rw [b225_4, if_neg (by decide)]
      simp only [gI13, gR13, pI13, pR13, rv13, Option.bind_some, Option.bind_none, if_true, if_false, true_or, or_true, false_or, or_false, true_and, and_true, false_and, and_false, decide_eq_true_eq, decide_true, decide_false, eq_self, not_true_eq_false, not_false_eq_true, jfit0, N_lit, N_add, N_mul, NEG_eq, pl_none, pl_some, rf_some, rf_none, jun_ref, jun_null, ir_ref, ir_null, jr_rf, jun_rf, Option.toList_some, Option.toList_none, List.nil_append, List.cons_append, q1.k13, jfit0]
      exact c1
    · obtain ⟨i, hi⟩ := List.mem_iff_getElem?.mp hw
      have hil : i < vN μ2 (mA M 3) := by
        have := (List.getElem?_eq_some_iff.mp hi).1
        rwa [len_rG] at this
      have e : (rG μ2 (mA M 3))[i]? = some (rowAt μ2 (mA M 3) i) := RWN_get (n := vN μ2 (mA M 3)) hil
      rw [e] at hi
      cases hi
      exact ⟨(cell i (by omega) 0 (by decide)).1, (cell i (by omega) 1 (by decide)).1, (cell i (by omega) 2 (by decide)).1⟩
    · apply List.ext_getElem?
      intro i
      by_cases hi : i < Wf.length
      · have e := List.getElem?_eq_getElem hi
        obtain ⟨z, z1, z2, z3⟩ := w2 _ (List.getElem_mem hi)
        have pr := pRows_get (R := R) (gb := G 0) (gx := G 1) (gt := G 2) w3 e z3 (by omega) 99 (by decide)
        rw [if_pos (by omega)] at pr
        show _ = (pRows R (G 0) (G 1) (G 2) Wf 99)[i]?
        rw [pr]
        unfold dM
        rw [List.getElem?_map, show (rG μ2 (mA M 3))[i]? = some (rowAt μ2 (mA M 3) i) from RWN_get (n := vN μ2 (mA M 3)) (by omega)]
        have ek : jiv μ2 (M + 3 + 3) i = Wf[i].1 := c3.2.2.1 i _ (by rw [ky1_get, e]; rfl)
        have k0 : keyO Wf i = Wf[i].1 := by unfold keyO; rw [e]; rfl
        have x0 := (cell i hi 0 (by decide)).2
        have x1 := (cell i hi 1 (by decide)).2
        have x2 := (cell i hi 2 (by decide)).2
        rw [k0] at x0 x1 x2
        show some (jiv μ2 (M + 3 + 3) i, rcm (mF μ2) (rc μ2 (mA M 3) (i * 3)), rcm (mF μ2) (rc μ2 (mA M 3) (i * 3 + 1)), rcm (mF μ2) (rc μ2 (mA M 3) (i * 3 + 2))) = _
        rw [ek, x1, x2]
        have x0 : rcm (mF μ2) (rc μ2 (mA M 3) (i * 3)) = _ := x0
        rw [x0]
      · rw [List.getElem?_eq_none (by rw [len_dM, vn]; omega), List.getElem?_eq_none (by show (pRows R (G 0) (G 1) (G 2) Wf 99).length ≤ i; rw [len]; omega)]
end LAY
