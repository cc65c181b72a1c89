/-! THE REFERENCE, MERGING: what is read -/
/-- the three grids that are merged -/
def GG (μ : jM) (M : Nat) (G : Nat → DG) : Prop := QS μ M ∧ ∀ g, g < 3 → GVR μ (M + 424) (mA M g) ∧ dM μ (mA M g) = G g
/-- a place in a grid, if there's one -/
def smG (G : Nat → DG) (g : Nat) (o : Option Nat) : Prop := ∀ i, o = some i → i < (G g).length
section LAY
variable {μ μ' ν : jM} {S S' : Nat → Prop} {T T' : Nat → Nat → Prop} {M g h t s n w d D i j k x y a b c f : Nat} {A B C : GA} {σ : SG} {G : Nat → DG} {o o' : Option Nat} {e e' : Ex}
theorem smG_none : smG G g none := fun i h => by cases h
theorem smG_find {kk : Int32} : smG G g (lfind kk (G g)) := fun i h => lfind_lt h
theorem GG.gq (h : GG μ M G) (hg : g < 3) : GQ μ M g ∧ vN μ (mA M g) = (G g).length ∧ (G g).length ≤ 8 := by
  obtain ⟨z1, z2⟩ := h.2 g hg
  have e : vN μ (mA M g) = (G g).length := by rw [← z2]; exact len_dM.symm
  exact ⟨⟨by omega, z1.1⟩, e, by rw [← e]; exact z1.1.2.1⟩
theorem GG.cell (h : GG μ M G) (hg : g < 3) (hc : c < 3) (hi : i < (G g).length) : i < 8 ∧ cO [] (G g) (some i) c = rcm (mF μ) (rc μ (mA M g) (i * 3 + c)) ∧ MCO μ (M + 424) (rc μ (mA M g) (i * 3 + c)) := by
  obtain ⟨z1, z2⟩ := h.2 g hg
  obtain ⟨z3, z4, z5⟩ := h.gq hg
  have e := cO_rc (μ := μ) (A := mA M g) (r0 := i) hc (by omega)
  have m := z1.2.cO (p := some i) (c := c)
  rw [e] at m
  refine ⟨by omega, ?_, m⟩
  rw [← z2, cO_dM, e]
theorem GG.place (h : GG μ M G) (hg : g < 3) (kk : Int32) : jC d 194 [.ref M, .int (N g), .int kk] μ = some (some (.int (pl (lfind kk (G g)))), μ) := by
  rw [r_placeOf h.1 (h.gq hg).1 kk, ← (h.2 g hg).2, lfind_dM]
theorem cO_z {l : DG} : cO [] l none c = (N 0, N 0, [], N 0) := rfl
theorem neg1 : (-1 : Int32) = NEG := rfl
theorem N_neg1 (hi : i < 2147483648) : ¬ N i = -1 := by
  rw [neg1, N_NEG hi]; exact id
theorem r_kindAt (h : GG μ M G) (hg : g < 3) (hc : c < 3) (ho : smG G g o) : jC d 230 [.ref M, .int (N g), .int (pl o), .int (N c)] μ = some (some (.int (cO [] (G g) o c).1), μ) := by
  rw [jC_run (by decide)]
  show jR d 230 0 [.ref M, .int (N g), .int (pl o), .int (N c)] [] μ = _
  rw [b230_0]
  cases o with
  | none => rw [if_pos (show pl none = -1 from rfl), b230_21]; rfl
  | some i =>
    obtain ⟨i8, e, -⟩ := h.cell hg hc (ho i rfl)
    have hq := h.1
    have gg := hq.gk (g := g) (by omega)
    have e1 := ent_get (μ := μ) (i := i * 3 + c) gg.2.1.1 gg.2.1.2 (by omega) (by decide)
    rw [if_neg (show ¬ pl (some i) = -1 from N_neg1 (by omega))]
    simp only [gI13, gR13, pI13, pR13, rv13, Option.bind_some, Option.bind_none, if_true, if_false, true_or, or_true, false_or, or_false, true_and, and_true, false_and, and_false, decide_eq_true_eq, decide_true, decide_false, eq_self, not_true_eq_false, not_false_eq_true, jfit0, N_lit, N_add, N_mul, NEG_eq, pl_none, pl_some, rf_some, rf_none, jun_ref, jun_null, ir_ref, ir_null, jr_rf, jun_rf, Option.toList_some, Option.toList_none, List.nil_append, List.cons_append, Nat.mul_comm 3, hq.k13, hq.f.2.2.1, (hq.gr (show g < 4 by omega)).2.1, e1]
    rw [b230_21, e]
    rfl
theorem r_noteAt (h : GG μ M G) (hg : g < 3) (hc : c < 3) (ho : smG G g o) : jC d 232 [.ref M, .int (N g), .int (pl o), .int (N c)] μ = some (some (.int (cO [] (G g) o c).2.2.2), μ) := by
  rw [jC_run (by decide)]
  show jR d 232 0 [.ref M, .int (N g), .int (pl o), .int (N c)] [] μ = _
  rw [b232_0]
  cases o with
  | none => rw [if_pos (show pl none = -1 from rfl), b232_21]; rfl
  | some i =>
    obtain ⟨i8, e, -⟩ := h.cell hg hc (ho i rfl)
    have hq := h.1
    have gg := hq.gk (g := g) (by omega)
    have e1 := ent_get (μ := μ) (i := i * 3 + c) gg.2.2.2.1.1 gg.2.2.2.1.2 (by omega) (by decide)
    rw [if_neg (show ¬ pl (some i) = -1 from N_neg1 (by omega))]
    simp only [gI13, gR13, pI13, pR13, rv13, Option.bind_some, Option.bind_none, if_true, if_false, true_or, or_true, false_or, or_false, true_and, and_true, false_and, and_false, decide_eq_true_eq, decide_true, decide_false, eq_self, not_true_eq_false, not_false_eq_true, jfit0, N_lit, N_add, N_mul, NEG_eq, pl_none, pl_some, rf_some, rf_none, jun_ref, jun_null, ir_ref, ir_null, jr_rf, jun_rf, Option.toList_some, Option.toList_none, List.nil_append, List.cons_append, Nat.mul_comm 3, hq.k13, hq.f.2.2.2.2.1, (hq.gr (show g < 4 by omega)).2.2.2.1, e1]
    rw [b232_21, e]
    rfl
/-- a number alone is one -/
theorem r_numberAt (h : GG μ M G) (hg : g < 3) (hc : c < 3) (ho : smG G g o) : jC (d + 1) 238 [.ref M, .int (N g), .int (pl o), .int (N c)] μ = some (some (.int (cO [] (G g) o c).2.1), μ) := by
  have hq := h.1
  have k1 := r_kindAt (d := d) h hg hc ho
  rw [jC_run (by decide)]
  show jR (d + 1) 238 0 [.ref M, .int (N g), .int (pl o), .int (N c)] [] μ = _
  rw [b238_0]
  simp only [gI13, gR13, pI13, pR13, rv13, hq.k13, if_true, Option.bind_some, k1]
  show jR (d + 1) 238 7 [.ref M, .int (N g), .int (pl o), .int (N c)] [.int (cO [] (G g) o c).1] μ = _
  rw [b238_7]
  by_cases e1 : (cO [] (G g) o c).1 = N 1
  · rw [if_pos (show (cO [] (G g) o c).1 = 1 from e1)]
    cases o with
    | none => exact absurd (show N 0 = N 1 from e1) (by decide)
    | some i =>
      obtain ⟨i8, e, -⟩ := h.cell hg hc (ho i rfl)
      have gg := hq.gk (g := g) (by omega)
      have e2 := ent_get (μ := μ) (i := i * 3 + c) gg.2.2.1.1 gg.2.2.1.2 (by omega) (by decide)
      simp only [gI13, gR13, pI13, pR13, rv13, Option.bind_some, Option.bind_none, if_true, if_false, true_or, or_true, false_or, or_false, true_and, and_true, false_and, and_false, decide_eq_true_eq, decide_true, decide_false, eq_self, not_true_eq_false, not_false_eq_true, jfit0, N_lit, N_add, N_mul, NEG_eq, pl_none, pl_some, rf_some, rf_none, jun_ref, jun_null, ir_ref, ir_null, jr_rf, jun_rf, Option.toList_some, Option.toList_none, List.nil_append, List.cons_append, Nat.mul_comm 3, hq.k13, hq.f.2.2.2.1, (hq.gr (show g < 4 by omega)).2.2.1, e2]
      rw [b238_27, e]
      rfl
  · rw [if_neg (show ¬ (cO [] (G g) o c).1 = 1 from e1), b238_27]
    have : (cO [] (G g) o c).2.1 = N 0 := by
      cases o with
      | none => rfl
      | some i =>
        obtain ⟨i8, e, m⟩ := h.cell hg hc (ho i rfl)
        rw [e] at e1 ⊢
        rcases m with ⟨-, m, -⟩ | ⟨m, -⟩ | ⟨-, m, -⟩
        · exact m
        · exact absurd m e1
        · exact m
    rw [this]; rfl
/-- two formulas -/
theorem r_same (ha : MFS μ D a e) (hb : MFS μ D b e') : jC d 231 [.ref a, .ref b] μ = some (some (.int (pN (tks e = tks e'))), μ) := by
  obtain ⟨a1, a2, a3, a4, a5, a6, a7, a8⟩ := ha
  obtain ⟨b1, b2, b3, b4, b5, b6, b7, b8⟩ := hb
  have la := Nat.le_trans (len_tw (tks e)) a6
  have lb := Nat.le_trans (len_tw (tks e')) b6
  have al := alen_of (μ := μ) a1 (by decide)
  have bl := alen_of (μ := μ) b1 (by decide)
  have key : tks e = tks e' ↔ jl μ a = jl μ b ∧ ∀ j, j < jl μ a → jiv μ a j = jiv μ b j := by
    constructor
    · intro q
      have ee := tks_inj a3 b3 q
      subst ee
      have l : jl μ a = jl μ b := by rw [a7, b7]
      refine ⟨l, fun j hj => ?_⟩
      have pe : prs2 μ a = prs2 μ b := a8.trans b8.symm
      have q1 : (prs2 μ a)[j / 2]? = (prs2 μ b)[j / 2]? := by rw [pe]
      unfold prs2 at q1
      rw [List.getElem?_map, List.getElem?_map, List.getElem?_range (by omega), List.getElem?_range (by omega)] at q1
      have q1 : some (jiv μ a (2 * (j / 2)), jiv μ a (2 * (j / 2) + 1)) = some (jiv μ b (2 * (j / 2)), jiv μ b (2 * (j / 2) + 1)) := q1
      have q1 := Option.some.inj q1
      rcases Nat.mod_two_eq_zero_or_one j with z | z
      · have := congrArg Prod.fst q1
        rwa [show 2 * (j / 2) = j by omega] at this
      · have := congrArg Prod.snd q1
        have this : jiv μ a (2 * (j / 2) + 1) = jiv μ b (2 * (j / 2) + 1) := this
        rwa [show 2 * (j / 2) + 1 = j by omega] at this
    · rintro ⟨l, q⟩
      have pe : prs2 μ a = prs2 μ b := by
        unfold prs2
        rw [← l]
        refine List.map_congr_left fun i hi => ?_
        have hi := List.mem_range.mp hi
        rw [q (2 * i) (by omega), q (2 * i + 1) (by omega)]
      rw [a8, b8] at pe
      rw [← dc_e a3, ← dc_e b3, pe]
  rw [jC_run (by decide)]
  show jR d 231 0 [.ref a, .ref b, .retAddr 0] [] μ = _
  rw [b231_0 (h0 := ir_ref) (h1 := ir_ref)]
  simp only [al, bl, Option.bind_some]
  by_cases el : jl μ a = jl μ b
  · rw [if_pos (by rw [el])]
    have loop : ∀ m i, i + m = jl μ a → (∀ j, j < i → jiv μ a j = jiv μ b j) → jR d 231 11 [.ref a, .ref b, .int (N i)] [] μ = some (some (.int (pN (tks e = tks e'))), μ) := by
      intro m
      induction m with
      | zero =>
        intro i hi hv
        rw [b231_11 (h0 := ir_ref) (h1 := ir_ref)]
        simp only [al, Option.bind_some]
        rw [if_neg (by rw [N_lt (by omega) (by omega)]; omega), pN_pos (key.mpr ⟨el, fun j hj => hv j (by omega)⟩)]
        rfl
      | succ m ih =>
        intro i hi hv
        have g1 := ent_get (μ := μ) (i := i) a1 rfl (by omega) (by omega)
        have g2 := ent_get (μ := μ) (i := i) b1 rfl (by omega) (by omega)
        rw [b231_11 (h0 := ir_ref) (h1 := ir_ref)]
        simp only [al, Option.bind_some]
        rw [if_pos (by rw [N_lt (by omega) (by omega)]; omega)]
        simp only [g1, g2, Option.bind_some]
        by_cases ev : jiv μ a i = jiv μ b i
        · rw [if_pos ev, show (1 : Int32) = N 1 from rfl, N_add]
          exact ih (i + 1) (by omega) (fun j hj => by
            by_cases ej : j = i
            · subst ej; exact ev
            · exact hv j (by omega))
        · rw [if_neg ev, pN_neg (fun q => ev ((key.mp q).2 i (by omega)))]
          rfl
    exact loop (jl μ a) 0 (by omega) (fun j hj => by omega)
  · rw [if_neg (by rw [N_inj (by omega) (by omega)]; exact el), pN_neg (fun q => el (key.mp q).1)]
    rfl
theorem r_areAlike (h : GG μ M G) (hg : g < 3) (hh : w < 3) (hc : c < 3) (ho : smG G g o) (ho' : smG G w o') : jC (d + 1) 229 [.ref M, .int (N g), .int (pl o), .int (N w), .int (pl o'), .int (N c)] μ = some (some (.int (pN (cnt (cO [] (G g) o c) = cnt (cO [] (G w) o' c)))), μ) := by
  have hq := h.1
  have k1 := r_kindAt (d := d) h hg hc ho
  have k2 := r_kindAt (d := d) h hh hc ho'
  rw [jC_run (by decide)]
  show jR (d + 1) 229 0 [.ref M, .int (N g), .int (pl o), .int (N w), .int (pl o'), .int (N c), .retAddr 0, .retAddr 0, .retAddr 0] [] μ = _
  rw [b229_0]
  simp only [gI13, gR13, pI13, pR13, rv13, hq.k13, if_true, Option.bind_some, k1]
  show jR (d + 1) 229 8 [.ref M, .int (N g), .int (pl o), .int (N w), .int (pl o'), .int (N c), .retAddr 0, .retAddr 0, .retAddr 0] [.int (cO [] (G g) o c).1] μ = _
  rw [b229_8]
  simp only [gI13, gR13, pI13, pR13, rv13, hq.k13, if_true, Option.bind_some, k2]
  show jR (d + 1) 229 21 [.ref M, .int (N g), .int (pl o), .int (N w), .int (pl o'), .int (N c), .int (cO [] (G g) o c).1, .retAddr 0, .retAddr 0] [.int (cO [] (G w) o' c).1, .int (cO [] (G g) o c).1] μ = _
  rw [b229_21]
  by_cases ek : (cO [] (G g) o c).1 = (cO [] (G w) o' c).1
  · rw [if_pos ek]
    by_cases e0 : (cO [] (G g) o c).1 = N 0
    · rw [if_pos (show (cO [] (G g) o c).1 = 0 from e0), pN_pos]
      · rfl
      · have z : ∀ {g o}, g < 3 → smG G g o → (cO [] (G g) o c).1 = N 0 → cnt (cO [] (G g) o c) = (N 0, N 0, []) := by
          intro g o hg ho e0
          cases o with
          | none => rfl
          | some i =>
            obtain ⟨i8, e, m⟩ := h.cell hg hc (ho i rfl)
            rw [e] at e0 ⊢
            rcases m with ⟨m1, m2, m3⟩ | ⟨m, -⟩ | ⟨m, -⟩
            · unfold cnt rcm
              rw [m1, m2, m3]; rfl
            · have e0 : (rc μ (mA M g) (i * 3 + c)).1 = N 0 := e0
              rw [m] at e0; exact absurd e0 (by decide)
            · have e0 : (rc μ (mA M g) (i * 3 + c)).1 = N 0 := e0
              rw [m] at e0; exact absurd e0 (by decide)
        rw [z hg ho e0, z hh ho' (by rw [← ek]; exact e0)]
    · rw [if_neg (show ¬ (cO [] (G g) o c).1 = 0 from e0)]
      have e0' : ¬ (cO [] (G w) o' c).1 = N 0 := by rw [← ek]; exact e0
      cases o with
      | none => exact absurd rfl e0
      | some i =>
        cases o' with
        | none => exact absurd rfl e0'
        | some i' =>
          obtain ⟨i8, e, m⟩ := h.cell hg hc (ho i rfl)
          obtain ⟨i8', e', m'⟩ := h.cell hh hc (ho' i' rfl)
          rw [e, e'] at ek
          rw [e] at e0
          rw [e, e']
          have ek : (rc μ (mA M g) (i * 3 + c)).1 = (rc μ (mA M w) (i' * 3 + c)).1 := ek
          have e0 : ¬ (rc μ (mA M g) (i * 3 + c)).1 = N 0 := e0
          have gg := hq.gk (g := g) (by omega)
          have gw := hq.gk (g := w) (by omega)
          show (if (rc μ (mA M g) (i * 3 + c)).1 = 1 then _ else _) = some (some (Value.int (pN (cnt (rcm (mF μ) (rc μ (mA M g) (i * 3 + c))) = cnt (rcm (mF μ) (rc μ (mA M w) (i' * 3 + c)))))), μ)
          rcases m with ⟨m1, -⟩ | ⟨m1, m3⟩ | ⟨m1, m2, f, ef, m3, m4⟩
          · exact absurd m1 e0
          · rcases m' with ⟨n1, -⟩ | ⟨n1, n3⟩ | ⟨n1, -⟩
            · rw [m1, n1] at ek; exact absurd ek (by decide)
            · rw [if_pos (show (rc μ (mA M g) (i * 3 + c)).1 = 1 from m1)]
              have t1 := ent_get (μ := μ) (i := i * 3 + c) gg.2.2.1.1 gg.2.2.1.2 (by omega) (by decide)
              have t2 := ent_get (μ := μ) (i := i' * 3 + c) gw.2.2.1.1 gw.2.2.1.2 (by omega) (by decide)
              have j0 : jrf 4 (N 0) = true := rfl
              have j1 : jrf 4 (N 1) = true := rfl
              simp only [gI13, gR13, pI13, pR13, rv13, Option.bind_some, Option.bind_none, if_true, if_false, true_or, or_true, false_or, or_false, true_and, and_true, false_and, and_false, decide_eq_true_eq, decide_true, decide_false, eq_self, not_true_eq_false, not_false_eq_true, jfit0, N_lit, N_add, N_mul, NEG_eq, pl_none, pl_some, rf_some, rf_none, jun_ref, jun_null, ir_ref, ir_null, jr_rf, jun_rf, Option.toList_some, Option.toList_none, List.nil_append, List.cons_append, Nat.mul_comm 3, hq.k13, hq.f.2.2.2.1, (hq.gr (show g < 4 by omega)).2.2.1, (hq.gr (show w < 4 by omega)).2.2.1, t1, t2]
              have cq : cnt (rcm (mF μ) (rc μ (mA M g) (i * 3 + c))) = cnt (rcm (mF μ) (rc μ (mA M w) (i' * 3 + c))) ↔ jiv μ (M + 13 + g) (i * 3 + c) = jiv μ (M + 13 + w) (i' * 3 + c) := by
                unfold cnt rcm
                rw [m1, n1, m3, n3]
                constructor
                · intro q
                  exact congrArg (fun p : Int32 × Int32 × List Tk => p.2.1) q
                · intro q
                  have q : (rc μ (mA M g) (i * 3 + c)).2.1 = (rc μ (mA M w) (i' * 3 + c)).2.1 := q
                  rw [q]
              rw [pN_congr cq]
              by_cases ev : jiv μ (M + 13 + g) (i * 3 + c) = jiv μ (M + 13 + w) (i' * 3 + c)
              · rw [if_pos ev, b229_106, if_pos j1, pN_pos ev]
              · rw [if_neg ev, b229_106, if_pos j0, pN_neg ev]
            · rw [m1, n1] at ek; exact absurd ek (by decide)
          · rcases m' with ⟨n1, -⟩ | ⟨n1, n3⟩ | ⟨n1, n2, f', ef', n3, n4⟩
            · rw [m1, n1] at ek; exact absurd ek (by decide)
            · rw [m1, n1] at ek; exact absurd ek (by decide)
            · rw [if_neg (show ¬ (rc μ (mA M g) (i * 3 + c)).1 = 1 by rw [m1]; decide)]
              have m3 : jrv μ (M + 23 + g) (i * 3 + c) = some f := m3
              have n3 : jrv μ (M + 23 + w) (i' * 3 + c) = some f' := n3
              have t1 := refGet (μ := μ) (i := i * 3 + c) (by rw [gg.2.2.2.2.1.1]; decide) gg.2.2.2.2.1.2 (by omega) (by decide) m3
              have t2 := refGet (μ := μ) (i := i' * 3 + c) (by rw [gw.2.2.2.2.1.1]; decide) gw.2.2.2.2.1.2 (by omega) (by decide) n3
              have t3 := r_same (d := d) m4 n4
              simp only [gI13, gR13, pI13, pR13, rv13, Option.bind_some, Option.bind_none, if_true, if_false, true_or, or_true, false_or, or_false, true_and, and_true, false_and, and_false, decide_eq_true_eq, decide_true, decide_false, eq_self, not_true_eq_false, not_false_eq_true, jfit0, N_lit, N_add, N_mul, NEG_eq, pl_none, pl_some, rf_some, rf_none, jun_ref, jun_null, ir_ref, ir_null, jr_rf, jun_rf, Option.toList_some, Option.toList_none, List.nil_append, List.cons_append, Nat.mul_comm 3, hq.k13, hq.f.2.2.2.2.2, (hq.gr (show g < 4 by omega)).2.2.2.2.1, (hq.gr (show w < 4 by omega)).2.2.2.2.1, t1, t2, t3]
              rw [b229_106, if_pos pN_jrf]
              refine congrArg (fun x => some (some (Value.int x), μ)) (pN_congr ?_)
              have f1 : mF μ (rc μ (mA M g) (i * 3 + c)).2.2.1 = tks ef := by
                rw [show (rc μ (mA M g) (i * 3 + c)).2.2.1 = some f from m3]; exact m4.tk
              have f2 : mF μ (rc μ (mA M w) (i' * 3 + c)).2.2.1 = tks ef' := by
                rw [show (rc μ (mA M w) (i' * 3 + c)).2.2.1 = some f' from n3]; exact n4.tk
              unfold cnt rcm
              rw [m1, n1, m2, n2, f1, f2]
              constructor
              · intro q; rw [q]
              · intro q
                exact congrArg (fun p : Int32 × Int32 × List Tk => p.2.2) q
  · rw [if_neg ek, pN_neg (fun q => ek (congrArg (fun p : Int32 × Int32 × List Tk => p.1) q))]
    rfl
end LAY
