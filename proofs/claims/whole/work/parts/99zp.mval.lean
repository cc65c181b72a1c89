/-! THE REFERENCE: values; what is read, a ref -/
def FE (M : Nat) (μ μ' : jM) : Prop := Fx (fun a => a = M ∨ (M + 401 ≤ a ∧ a < M + 405)) (fun a j => a = M ∧ j = 34) μ μ' ∧ ∀ j, j ≠ 32 → j ≠ 33 → jiv μ' M j = jiv μ M j
/-- the grid that values are told of -/
def EV (μ : jM) (M g : Nat) (G : DG) : Prop := QS μ M ∧ g < 4 ∧ (GVR μ (M + 424) (mA M g) ∧ dM μ (mA M g) = G) ∧ jiv μ M 31 = N g
/-- what is known of each cell -/
def EI (G : DG) (μ : jM) (M : Nat) (S : List Nat) : Prop := ∀ c, c < 24 → (jiv μ (M + 404) c = N 1 ∧ c ∈ S) ∨ (jiv μ (M + 404) c = N 0 ∧ c ∉ S ∧ (jiv μ (M + 403) c = N 0 ∨ (jiv μ (M + 403) c = N 1 ∧ (vlC G (c / 3) (c % 3)).1 = jiv μ (M + 402) c ∧ (jiv μ (M + 402) c = N 0 → jiv μ (M + 401) c = (vlC G (c / 3) (c % 3)).2))))
/-- the formula that is read -/
def RDg (μ : jM) (M f : Nat) (L : List (Int32 × Int32)) : Prop := jrv μ M 34 = some f ∧ jk μ f = 20 ∧ M + 424 ≤ f ∧ prs2 μ f = L ∧ jl μ f = 2 * L.length ∧ L.length ≤ 39
/-- behind a cell's asking, or a ref's -/
def RA (G : DG) (M : Nat) (S : List Nat) (r : VT) (v : Int32) (μ μ' : jM) : Prop := FE M μ μ' ∧ jiv μ' M 33 = r.1 ∧ (r.1 = N 0 → v = r.2) ∧ jiv μ' M 32 = jiv μ M 32 ∧ jrv μ' M 34 = jrv μ M 34 ∧ EI G μ' M S
/-- a cell can be asked -/
def AskR (G : DG) (M g H k : Nat) : Prop := ∀ (D : Nat) (μ : jM) (S : List Nat) (p c : Nat), H ≤ D → EV μ M g G → S.Nodup → (∀ s, s ∈ S → s < 24) → S.length + k = 24 → p < G.length → c < 3 → jiv μ M 33 = N 0 → EI G μ M S → (∀ s, s ∈ S → Nd G (s / 3, s % 3) (fun n => evC G n p c)) → ∃ μ' v, jC D 210 [.ref M, .int (N (p * 3 + c))] μ = some (some (.int v), μ') ∧ RA G M S (vlC G p c) v μ μ'
section LAY
variable {μ μ' μ'' ν : jM} {S : List Nat} {M g h t s n w d D i j k x y a b c f q p H : Nat} {G : DG} {L A B : List (Int32 × Int32)} {v : Int32} {r : VT}
theorem FE.refl : FE M μ μ := ⟨Fx.refl, fun _ _ _ => rfl⟩
theorem FE.trans (a : FE M μ μ') (b : FE M μ' μ'') : FE M μ μ'' := ⟨a.1.trans b.1, fun j h1 h2 => (b.2 j h1 h2).trans (a.2 j h1 h2)⟩
theorem FE.fn (F : FE M μ μ') : FN M μ μ' := ⟨F.1.mono (fun a k => by unfold SN; omega) (fun a j k => Or.inr (Or.inr k)), fun j hj => F.2 j (by omega) (by omega)⟩
theorem FE.ev (F : FE M μ μ') (h : EV μ M g G) : EV μ' M g G := by
  obtain ⟨h1, h2, ⟨h3, h4⟩, h5⟩ := h
  obtain ⟨y1, y2⟩ := F.fn.main h2 h3.gw
  obtain ⟨x1, x2⟩ := h3.to F.fn.fd y1 y2
  exact ⟨F.fn.qs h1, h2, ⟨x1, x2.trans h4⟩, by rw [F.2 31 (by decide) (by decide)]; exact h5⟩
theorem FE.slot {v : Int32} (hj : j = 32 ∨ j = 33) : FE M μ (jsetI μ M j v) := ⟨Fx.setI Fx.refl (Or.inl rfl), fun i h1 h2 => ivj (by omega)⟩
theorem EI.same (h : EI G μ M S) (e : ∀ a, M + 401 ≤ a → a < M + 405 → jiv μ' a = jiv μ a) : EI G μ' M S := by
  intro c hc
  rw [e (M + 401) (by omega) (by omega), e (M + 402) (by omega) (by omega), e (M + 403) (by omega) (by omega), e (M + 404) (by omega) (by omega)]
  exact h c hc
theorem EI.slot {v : Int32} (h : EI G μ M S) : EI G (jsetI μ M j v) M S := h.same fun a h1 h2 => iv_setIn (by omega)
theorem RDg.fe (h : RDg μ M f L) (F : FE M μ μ') (e : jrv μ' M 34 = jrv μ M 34) : RDg μ' M f L := by
  obtain ⟨h1, h2, h3, h4, h5, h6⟩ := h
  obtain ⟨a1, a2, a3⟩ := F.fn.fd f (ne99 h2 (by decide))
  obtain ⟨a3, -⟩ := a3 h3
  refine ⟨by rw [e]; exact h1, by rw [a1]; exact h2, h3, ?_, by rw [a2]; exact h5, h6⟩
  rw [← h4]
  unfold prs2
  rw [a2, a3]
theorem RDg.get {x : Int32 × Int32} (h : RDg μ M f L) (hi : L[i]? = some x) : jaI μ (.ref f) (N (2 * i)) = some x.1 ∧ jaI μ (.ref f) (N (2 * i + 1)) = some x.2 := by
  obtain ⟨h1, h2, h3, h4, h5, h6⟩ := h
  have hil : i < L.length := (List.getElem?_eq_some_iff.mp hi).1
  have e : (prs2 μ f)[i]? = some (jiv μ f (2 * i), jiv μ f (2 * i + 1)) := by
    unfold prs2
    rw [List.getElem?_map, List.getElem?_range (by omega)]
    rfl
  rw [h4, hi] at e
  have e := Option.some.inj e
  have g1 := ent_get (μ := μ) (i := 2 * i) h2 h5 (by omega) (by omega)
  have g2 := ent_get (μ := μ) (i := 2 * i + 1) h2 h5 (by omega) (by omega)
  rw [e]
  exact ⟨g1, g2⟩
theorem RDg.at {x : Int32 × Int32} (h : RDg μ M f (A ++ x :: B)) : jaI μ (.ref f) (N (2 * A.length)) = some x.1 ∧ jaI μ (.ref f) (N (2 * A.length + 1)) = some x.2 := h.get (by simp)
theorem RA.trans {r' : VT} {v' : Int32} (a : FE M μ μ') (b : RA G M S r' v' μ' μ'') (e1 : jiv μ' M 32 = jiv μ M 32) (e2 : jrv μ' M 34 = jrv μ M 34) : RA G M S r' v' μ μ'' := ⟨a.trans b.1, b.2.1, b.2.2.1, b.2.2.2.1.trans e1, b.2.2.2.2.1.trans e2, b.2.2.2.2.2⟩
/-- whether a sign comes now -/
theorem r_isNow {ch : Nat} (hq : QS μ M) (hr : RDg μ M f (A ++ B)) (hp : jiv μ M 32 = N (2 * A.length)) (hw : jiv μ M 33 = N 0) : jC d 217 [.ref M, .int (N ch)] μ = some (some (.int (pN (B.head? = some (N 1, N ch)))), μ) := by
  have k13 := hq.k13
  have al := alen_of (μ := μ) hr.2.1 (by decide)
  have l39 := hr.2.2.2.2.2
  rw [List.length_append] at l39
  rw [hr.2.2.2.2.1, List.length_append] at al
  have no : jR d 217 51 [.ref M, .int (N ch)] [] μ = some (some (.int (N 0)), μ) := by
    rw [b217_51, b217_52]; exact if_pos (show jrf 4 (N 0) = true from rfl)
  rw [jC_run (by decide)]
  show jR d 217 0 [.ref M, .int (N ch)] [] μ = _
  rw [b217_0]
  simp only [gI13, gR13, pI13, pR13, rv13, k13, hw, hp, hr.1, if_true, Option.bind_some, rf_some, al]
  rw [if_pos (show N 0 = 0 from rfl)]
  cases B with
  | nil =>
    rw [if_neg (by rw [N_lt (by omega) (by omega)]; simp)]
    rw [no, pN_neg (fun q => by cases q)]
  | cons x B =>
    have l39 : A.length + (B.length + 1) ≤ 39 := l39
    obtain ⟨g1, g2⟩ := hr.at
    rw [if_pos (by show N (2 * A.length) < N (2 * (A.length + (B.length + 1))); rw [N_lt (by omega) (by omega)]; omega)]
    have e1 : N (2 * A.length) + 1 = N (2 * A.length + 1) := by rw [show (1 : Int32) = N 1 from rfl, N_add]
    simp only [g1, e1, g2, Option.bind_some]
    by_cases z1 : x.1 = N 1
    · rw [if_pos (show x.1 = 1 from z1)]
      by_cases z2 : x.2 = N ch
      · rw [if_pos z2, b217_52, pN_pos (by show some x = _; rw [← z1, ← z2])]
        exact if_pos (show jrf 4 (N 1) = true from rfl)
      · rw [if_neg z2, no, pN_neg (show ¬ (x :: B).head? = some (N 1, N ch) from fun q => z2 (congrArg Prod.snd (Option.some.inj q)))]
    · rw [if_neg (show ¬ x.1 = 1 from z1), no, pN_neg (show ¬ (x :: B).head? = some (N 1, N ch) from fun q => z1 (congrArg Prod.fst (Option.some.inj q)))]
/-- behind something wrong no sign comes -/
theorem r_isNow0 {ch : Int32} (hq : QS μ M) (hw : jiv μ M 33 ≠ N 0) : jC d 217 [.ref M, .int ch] μ = some (some (.int (N 0)), μ) := by
  rw [jC_run (by decide)]
  show jR d 217 0 [.ref M, .int ch] [] μ = _
  rw [b217_0]
  simp only [gI13, gR13, pI13, pR13, rv13, hq.k13, if_true, Option.bind_some]
  rw [if_neg (show ¬ jiv μ M 33 = 0 from hw), b217_51, b217_52]
  exact if_pos (show jrf 4 (N 0) = true from rfl)
theorem EV.place (h : EV μ M g G) (kk : Int32) : jC d 194 [.ref M, .int (N g), .int kk] μ = some (some (.int (pl (lfind kk G))), μ) := by
  obtain ⟨h1, h2, ⟨h3, h4⟩, h5⟩ := h
  rw [r_placeOf h1 ⟨h2, h3.1⟩ kk, ← h4, lfind_dM]
theorem EV.len (h : EV μ M g G) : G.length ≤ 8 ∧ vN μ (mA M g) = G.length := by
  obtain ⟨h1, h2, ⟨h3, h4⟩, h5⟩ := h
  have e : vN μ (mA M g) = G.length := by rw [← h4]; exact len_dM.symm
  exact ⟨by rw [← e]; exact h3.1.2.1, e⟩
theorem EV.cell (h : EV μ M g G) (hc : c < 3) (hi : i < G.length) : i < 8 ∧ cO [] G (some i) c = rcm (mF μ) (rc μ (mA M g) (i * 3 + c)) ∧ MCO μ (M + 424) (rc μ (mA M g) (i * 3 + c)) := by
  obtain ⟨l1, l2⟩ := h.len
  obtain ⟨h1, h2, ⟨h3, h4⟩, h5⟩ := h
  have e := cO_rc (μ := μ) (A := mA M g) (r0 := i) hc (by omega)
  have m := h3.2.cO (p := some i) (c := c)
  rw [e] at m
  refine ⟨by omega, ?_, m⟩
  rw [← h4, cO_dM, e]
/-- where a ref leads, asked -/
theorem r_refNow {i : Nat} {w7 : Value} (ha : AskR G M g H k) (hD : H + 1 ≤ D) (hv : EV μ M g G) (hS : S.Nodup) (hS2 : ∀ s, s ∈ S → s < 24) (hk : S.length + k = 24) (hr : rK i) (hcan : rcan i = i) (hw : jiv μ M 33 = N 0) (hi : EI G μ M S) (nd : ∀ s, s ∈ S → Nd G (s / 3, s % 3) (fun n => evL G (evC G n) i)) : ∃ μ' v, jC D 216 [.ref M, .int (N i)] μ = some (some (.int v), μ') ∧ RA G M S (tL G i) v μ μ' := by
  obtain ⟨D, rfl⟩ : ∃ D', D = D' + 1 := ⟨D - 1, by omega⟩
  have hq := hv.1
  have k13 := hq.k13
  have i1000 := rK_lt hr
  have lost : ∀ u, ∃ μ' v, jR (D + 1) 216 20 [.ref M, .int (N i), u] [.int NEG] μ = some (some (.int v), μ') ∧ RA G M S (LO, N 0) v μ μ' := by
    intro u
    refine ⟨jsetI μ M 33 LO, N 0, ?_, FE.slot (Or.inr rfl), if_pos ⟨rfl, rfl⟩, fun q => rfl, ivj (by decide), rfl, hi.slot⟩
    rw [b216_20, if_pos (show NEG = -1 from rfl)]
    simp only [gI13, gR13, pI13, pR13, rv13, k13, jfit0, and_true, if_true, Option.bind_some]
    rfl
  have st : jC (D + 1) 216 [.ref M, .int (N i)] μ = jR (D + 1) 216 0 [.ref M, .int (N i), .retAddr 0] [] μ := by
    rw [jC_run (by decide)]; rfl
  unfold tL
  unfold evL at nd
  rw [st, b216_0]
  by_cases e0 : i = 0
  · subst e0
    rw [if_pos (show N 0 = 0 from rfl), show refC G 0 = none from rfl]
    exact lost _
  · have h8 : ¬ i / 8 = 0 := by
      intro q
      unfold rcan at hcan
      rw [if_pos q] at hcan
      omega
    have er : refC G i = (lfind (N (i / 8)) G).map fun p => (p, i / 2 % 4) := by
      unfold refC
      rw [if_neg h8]
    have ed : N i / 8 = N (i / 8) := N_divL (b := 8) (by omega) (by decide) (by decide)
    have em : N i - N (i / 8) * 8 = N (i % 8) := by
      rw [← ed]
      exact N_modL (b := 8) (by omega) (by decide) (by decide)
    have em2 : N (i % 8) / 2 = N (i % 8 / 2) := N_divL (b := 2) (by omega) (by decide) (by decide)
    have pf := hv.place (d := D) (N (i / 8))
    rw [if_neg (show ¬ N i = 0 by show ¬ N i = N 0; rw [N_inj (by omega) (by decide)]; exact e0)]
    simp only [gI13, gR13, pI13, pR13, rv13, k13, hv.2.2.2, ed, pf, if_true, Option.bind_some]
    show ∃ μ' v, jR (D + 1) 216 20 [.ref M, .int (N i), .retAddr 0] [.int (pl (lfind (N (i / 8)) G))] μ = _ ∧ _
    rw [er] at nd ⊢
    cases e : lfind (N (i / 8)) G with
    | none => exact lost _
    | some p =>
      rw [e] at nd
      have hpl := lfind_lt e
      have l8 := hv.len.1
      obtain ⟨μ', v, c1, c2⟩ := ha D μ S p (i / 2 % 4) (by omega) hv hS hS2 hk hpl hr.2.1 hw hi nd
      refine ⟨μ', v, ?_, c2⟩
      have ex : (3 : Int32) * N p + N (i % 8 / 2) = N (p * 3 + i / 2 % 4) := by
        rw [show (3 : Int32) = N 3 from rfl, N_mul, N_add, Nat.mul_comm 3, show i % 8 / 2 = i / 2 % 4 by omega]
      rw [b216_20, if_neg (show ¬ pl (some p) = -1 from N_neg1 (by omega))]
      simp only [gI13, gR13, pI13, pR13, rv13, k13, pl_some, ed, em, em2, ex, c1, if_true, Option.bind_some]
      exact b216_48 ..
end LAY
