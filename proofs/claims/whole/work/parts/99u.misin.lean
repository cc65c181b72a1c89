/-! THE REFERENCE, MERGING: which keys are in -/
section LAY
variable {μ μ' ν : jM} {S S' : Nat → Prop} {T T' : Nat → Nat → Prop} {M g h t s n w d D i j k x y a b c f : Nat} {A B C : GA} {σ : SG} {G : Nat → DG} {o o' ob ox ot : Option Nat} {R : Nat → Nat × Nat}
/-- a row of one's own or the other's against the base's -/
theorem r_changedRow (h : GG μ M G) (hg : g < 3) (ho : smG G g o) (ho' : smG G 0 o') : jC (d + 2) 228 [.ref M, .int (N g), .int (pl o), .int (pl o')] μ = some (some (.int (pN (¬ ∀ c, c < 3 → cO [] (G 0) o' c = cO [] (G g) o c))), μ) := by
  have hq := h.1
  have k13 := hq.k13
  have eqv : ∀ x y : DC, x = y ↔ cnt y = cnt x ∧ y.2.2.2 = x.2.2.2 := by
    rintro ⟨x1, x2, x3, x4⟩ ⟨y1, y2, y3, y4⟩
    constructor
    · intro q; cases q; exact ⟨rfl, rfl⟩
    · rintro ⟨q1, q2⟩
      have q1 : (y1, y2, y3) = (x1, x2, x3) := q1
      have q2 : y4 = x4 := q2
      cases q1; cases q2; rfl
  have loop : ∀ m c, c + m = 3 → (∀ j, j < c → cO [] (G 0) o' j = cO [] (G g) o j) → jR (d + 2) 228 3 [.ref M, .int (N g), .int (pl o), .int (pl o'), .int (N c)] [] μ = some (some (.int (pN (¬ ∀ c, c < 3 → cO [] (G 0) o' c = cO [] (G g) o c))), μ) := by
    intro m
    induction m with
    | zero =>
      intro c hc hv
      have : c = 3 := by omega
      subst this
      rw [b228_3, if_neg (by decide), pN_neg (fun q => q hv)]
      rfl
    | succ m ih =>
      intro c hc hv
      have hc3 : c < 3 := by omega
      have t1 := r_areAlike (d := d) h hg (show 0 < 3 by decide) hc3 ho ho'
      have t2 := r_noteAt (d := d + 1) h hg hc3 ho
      have t3 := r_noteAt (d := d + 1) h (show 0 < 3 by decide) hc3 ho'
      have t1 : jC (d + 1) 229 [.ref M, .int (N g), .int (pl o), .int 0, .int (pl o'), .int (N c)] μ = _ := t1
      have t3 : jC (d + 1) 232 [.ref M, .int 0, .int (pl o'), .int (N c)] μ = _ := t3
      have out : ∀ a b c e f, ¬ cO [] (G 0) o' c = cO [] (G g) o c → c < 3 → jR (d + 2) 228 41 [a, b, e, f, .int (N c)] [] μ = some (some (.int (pN (¬ ∀ c, c < 3 → cO [] (G 0) o' c = cO [] (G g) o c))), μ) := by
        intro a b c e f hne hc
        rw [b228_41, pN_pos (fun q => hne (q c hc))]
        rfl
      rw [b228_3, if_pos (by show N c < N 3; rw [N_lt (by omega) (by decide)]; omega)]
      simp only [gI13, gR13, pI13, pR13, rv13, k13, if_true, Option.bind_some, t1]
      show jR (d + 2) 228 19 [.ref M, .int (N g), .int (pl o), .int (pl o'), .int (N c)] [.int (pN (cnt (cO [] (G g) o c) = cnt (cO [] (G 0) o' c)))] μ = _
      rw [b228_19]
      by_cases e1 : cnt (cO [] (G g) o c) = cnt (cO [] (G 0) o' c)
      · rw [pN_pos e1, if_neg (by decide)]
        simp only [gI13, gR13, pI13, pR13, rv13, k13, if_true, Option.bind_some, t2]
        show jR (d + 2) 228 30 [.ref M, .int (N g), .int (pl o), .int (pl o'), .int (N c)] [.int (cO [] (G g) o c).2.2.2] μ = _
        rw [b228_30]
        simp only [gI13, gR13, pI13, pR13, rv13, k13, if_true, Option.bind_some, t3]
        show jR (d + 2) 228 38 [.ref M, .int (N g), .int (pl o), .int (pl o'), .int (N c)] [.int (cO [] (G 0) o' c).2.2.2, .int (cO [] (G g) o c).2.2.2] μ = _
        rw [b228_38]
        by_cases e2 : (cO [] (G g) o c).2.2.2 = (cO [] (G 0) o' c).2.2.2
        · rw [if_pos e2, show (1 : Int32) = N 1 from rfl, N_add]
          exact ih (c + 1) (by omega) (fun j hj => by
            by_cases e : j = c
            · subst e; exact (eqv _ _).mpr ⟨e1, e2⟩
            · exact hv j (by omega))
        · rw [if_neg e2]
          exact out _ _ _ _ _ (fun q => e2 ((eqv _ _).mp q).2) hc3
      · rw [pN_neg e1, if_pos (by decide)]
        exact out _ _ _ _ _ (fun q => e1 ((eqv _ _).mp q).1) hc3
  rw [jC_run (by decide)]
  show jR (d + 2) 228 0 [.ref M, .int (N g), .int (pl o), .int (pl o'), .retAddr 0] [] μ = _
  rw [b228_0]
  exact loop 3 0 (by omega) (fun j hj => by omega)
theorem plo_ne {l : DG} (h8 : l.length ≤ 8) {kk : Int32} : (pl (lfind kk l) = -1) = (lfind kk l = none) := by
  rw [neg1]
  exact pl_ne (fun i hi => by have := lfind_lt hi; omega)
/-- whether a key is in what is merged -/
theorem r_isIn (h : GG μ M G) (kk : Int32) : jC (d + 3) 227 [.ref M, .int kk] μ = some (some (.int (pN (keepK (G 0) (G 1) (G 2) kk))), μ) := by
  have hq := h.1
  have k13 := hq.k13
  have p0 := h.place (d := d + 2) (g := 0) (by decide) kk
  have p1 := h.place (d := d + 2) (g := 1) (by decide) kk
  have p2 := h.place (d := d + 2) (g := 2) (by decide) kk
  have p0 : jC (d + 2) 194 [.ref M, .int 0, .int kk] μ = _ := p0
  have p1 : jC (d + 2) 194 [.ref M, .int 1, .int kk] μ = _ := p1
  have p2 : jC (d + 2) 194 [.ref M, .int 2, .int kk] μ = _ := p2
  have n0 := plo_ne (kk := kk) (h.gq (g := 0) (by decide)).2.2
  have n1 := plo_ne (kk := kk) (h.gq (g := 1) (by decide)).2.2
  have n2 := plo_ne (kk := kk) (h.gq (g := 2) (by decide)).2.2
  have c1 := r_changedRow (d := d) (g := 1) h (by decide) (smG_find (kk := kk)) (smG_find (g := 0) (kk := kk))
  have c2 := r_changedRow (d := d) (g := 2) h (by decide) (smG_find (kk := kk)) (smG_find (g := 0) (kk := kk))
  have c1 : jC (d + 2) 228 [.ref M, .int 1, .int (pl (lfind kk (G 1))), .int (pl (lfind kk (G 0)))] μ = _ := c1
  have c2 : jC (d + 2) 228 [.ref M, .int 2, .int (pl (lfind kk (G 2))), .int (pl (lfind kk (G 0)))] μ = _ := c2
  have yes : ∀ a b c e f, jR (d + 3) 227 82 [a, b, c, e, f] [] μ = some (some (.int (N 1)), μ) := fun a b c e f => by
    rw [b227_82, b227_87]; exact if_pos (show jrf 4 (N 1) = true from rfl)
  have no : ∀ a b c e f, jR (d + 3) 227 86 [a, b, c, e, f] [] μ = some (some (.int (N 0)), μ) := fun a b c e f => by
    rw [b227_86, b227_87]; exact if_pos (show jrf 4 (N 0) = true from rfl)
  rw [jC_run (by decide)]
  show jR (d + 3) 227 0 [.ref M, .int kk, .retAddr 0, .retAddr 0, .retAddr 0] [] μ = _
  rw [b227_0]
  simp only [gI13, gR13, pI13, pR13, rv13, k13, if_true, Option.bind_some, p0]
  show jR (d + 3) 227 6 [.ref M, .int kk, .retAddr 0, .retAddr 0, .retAddr 0] [.int (pl (lfind kk (G 0)))] μ = _
  rw [b227_6]
  simp only [gI13, gR13, pI13, pR13, rv13, k13, if_true, Option.bind_some, p1]
  show jR (d + 3) 227 13 [.ref M, .int kk, .int (pl (lfind kk (G 0))), .retAddr 0, .retAddr 0] [.int (pl (lfind kk (G 1)))] μ = _
  rw [b227_13]
  simp only [gI13, gR13, pI13, pR13, rv13, k13, if_true, Option.bind_some, p2]
  show jR (d + 3) 227 20 [.ref M, .int kk, .int (pl (lfind kk (G 0))), .int (pl (lfind kk (G 1))), .retAddr 0] [.int (pl (lfind kk (G 2)))] μ = _
  rw [b227_20]
  have kd : keepK (G 0) (G 1) (G 2) kk ↔ match lfind kk (G 1), lfind kk (G 2) with
    | some _, some _ => True
    | none, none => False
    | some i, none => lfind kk (G 0) = none ∨ ¬ ∀ c, c < 3 → cO [] (G 0) (lfind kk (G 0)) c = cO [] (G 1) (some i) c
    | none, some j => lfind kk (G 0) = none ∨ ¬ ∀ c, c < 3 → cO [] (G 0) (lfind kk (G 0)) c = cO [] (G 2) (some j) c := Iff.rfl
  rw [pN_congr kd]
  cases e1 : lfind kk (G 1) with
  | some i1 =>
    rw [e1] at n1 c1
    rw [if_neg (show ¬ pl (some i1) = -1 by rw [n1]; intro q; cases q)]
    cases e2 : lfind kk (G 2) with
    | some i2 =>
      rw [e2] at n2
      rw [if_neg (show ¬ pl (some i2) = -1 by rw [n2]; intro q; cases q), pN_pos trivial]
      rfl
    | none =>
      rw [if_pos (show pl none = -1 from rfl), b227_35, if_neg (show ¬ pl (some i1) = -1 by rw [n1]; intro q; cases q), b227_48]
      by_cases e0 : lfind kk (G 0) = none
      · rw [if_pos (show pl (lfind kk (G 0)) = -1 by rw [n0]; exact e0), yes, pN_pos (Or.inl e0)]
      · rw [if_neg (show ¬ pl (lfind kk (G 0)) = -1 by rw [n0]; exact e0), if_neg (show ¬ pl (some i1) = -1 by rw [n1]; intro q; cases q)]
        simp only [gI13, gR13, pI13, pR13, rv13, k13, if_true, Option.bind_some, c1]
        show jR (d + 3) 227 65 _ [.int (pN (¬ ∀ c, c < 3 → cO [] (G 0) (lfind kk (G 0)) c = cO [] (G 1) (some i1) c))] μ = _
        rw [b227_65]
        by_cases ea : ∀ c, c < 3 → cO [] (G 0) (lfind kk (G 0)) c = cO [] (G 1) (some i1) c
        · rw [pN_neg (fun q => q ea), if_pos (by decide), no, pN_neg (fun q => q.elim e0 (fun q => q ea))]
        · rw [pN_pos ea, if_neg (by decide), yes, pN_pos (Or.inr ea)]
  | none =>
    rw [e1] at n1
    rw [if_pos (show pl none = -1 from rfl), b227_35, if_pos (show pl none = -1 from rfl)]
    cases e2 : lfind kk (G 2) with
    | none =>
      rw [if_pos (show pl none = -1 from rfl), pN_neg id]
      rfl
    | some i2 =>
      rw [e2] at n2 c2
      rw [if_neg (show ¬ pl (some i2) = -1 by rw [n2]; intro q; cases q), b227_48]
      by_cases e0 : lfind kk (G 0) = none
      · rw [if_pos (show pl (lfind kk (G 0)) = -1 by rw [n0]; exact e0), yes, pN_pos (Or.inl e0)]
      · rw [if_neg (show ¬ pl (lfind kk (G 0)) = -1 by rw [n0]; exact e0), if_pos (show pl none = -1 from rfl)]
        simp only [gI13, gR13, pI13, pR13, rv13, k13, if_true, Option.bind_some, c2]
        show jR (d + 3) 227 79 _ [.int (pN (¬ ∀ c, c < 3 → cO [] (G 0) (lfind kk (G 0)) c = cO [] (G 2) (some i2) c))] μ = _
        rw [b227_79]
        by_cases ea : ∀ c, c < 3 → cO [] (G 0) (lfind kk (G 0)) c = cO [] (G 2) (some i2) c
        · rw [pN_neg (fun q => q ea), if_pos (by decide), no, pN_neg (fun q => q.elim e0 (fun q => q ea))]
        · rw [pN_pos ea, if_neg (by decide), yes, pN_pos (Or.inr ea)]
/-- the rules' kinds and figures -/
def RG (μ : jM) (M : Nat) (R : Nat → Nat × Nat) : Prop := MRr μ M R ∧ ∀ c, c < 3 → (R c).1 < 6 ∧ (R c).2 < 100
theorem RG.rule (h : RG μ M R) (hq : QS μ M) (hc : c < 3) : jaI μ (.ref (M + 27)) (N c) = some (N (R c).1) ∧ jaI μ (.ref (M + 28)) (N c) = some (N (R c).2) := by
  obtain ⟨a1, a2⟩ := h.1 c hc
  obtain ⟨q6, q7, k27, k28⟩ := hq.fr
  have e1 := ent_get (μ := μ) k27.1 k27.2 hc (by decide)
  have e2 := ent_get (μ := μ) k28.1 k28.2 hc (by decide)
  rw [a1] at e1
  rw [a2] at e2
  exact ⟨e1, e2⟩
theorem r_adds (h : GG μ M G) (hr : RG μ M R) (hc : c < 3) (hb : smG G 0 ob) (hx : smG G 1 ox) (ht : smG G 2 ot) : jC (d + 1) 239 [.ref M, .int (pl ob), .int (pl ox), .int (pl ot), .int (N c)] μ = some (some (.int (pN (((cO [] (G 1) ox c).1 = N 1 ∧ (cO [] (G 2) ot c).1 = N 1) ∧ ((R c).1 = 3 ∨ (R c).1 = 4) ∧ (cO [] (G 0) ob c).1 ≠ N 2))), μ) := by
  have hq := h.1
  have k13 := hq.k13
  obtain ⟨r1, r2⟩ := hr.rule hq hc
  have r6 := (hr.2 c hc).1
  have t0 := r_kindAt (d := d) (g := 0) h (by decide) hc hb
  have t1 := r_kindAt (d := d) (g := 1) h (by decide) hc hx
  have t2 := r_kindAt (d := d) (g := 2) h (by decide) hc ht
  have t0 : jC d 230 [.ref M, .int 0, .int (pl ob), .int (N c)] μ = _ := t0
  have t1 : jC d 230 [.ref M, .int 1, .int (pl ox), .int (N c)] μ = _ := t1
  have t2 : jC d 230 [.ref M, .int 2, .int (pl ot), .int (N c)] μ = _ := t2
  have no : ∀ a b c e f, jR (d + 1) 239 62 [a, b, c, e, f] [] μ = some (some (.int (N 0)), μ) := fun a b c e f => by
    rw [b239_62, b239_63]; exact if_pos (show jrf 4 (N 0) = true from rfl)
  have on : (R c).1 = 3 ∨ (R c).1 = 4 → jR (d + 1) 239 22 [.ref M, .int (pl ob), .int (pl ox), .int (pl ot), .int (N c)] [] μ = some (some (.int (pN (((cO [] (G 1) ox c).1 = N 1 ∧ (cO [] (G 2) ot c).1 = N 1) ∧ ((R c).1 = 3 ∨ (R c).1 = 4) ∧ (cO [] (G 0) ob c).1 ≠ N 2))), μ) := by
    intro hR
    rw [b239_22]
    simp only [gI13, gR13, pI13, pR13, rv13, k13, if_true, Option.bind_some, t1]
    show jR (d + 1) 239 30 [.ref M, .int (pl ob), .int (pl ox), .int (pl ot), .int (N c)] [.int (cO [] (G 1) ox c).1] μ = _
    rw [b239_30]
    by_cases e1 : (cO [] (G 1) ox c).1 = N 1
    · rw [if_pos (show (cO [] (G 1) ox c).1 = 1 from e1)]
      simp only [gI13, gR13, pI13, pR13, rv13, k13, if_true, Option.bind_some, t2]
      show jR (d + 1) 239 42 [.ref M, .int (pl ob), .int (pl ox), .int (pl ot), .int (N c)] [.int (cO [] (G 2) ot c).1] μ = _
      rw [b239_42]
      by_cases e2 : (cO [] (G 2) ot c).1 = N 1
      · rw [if_pos (show (cO [] (G 2) ot c).1 = 1 from e2)]
        simp only [gI13, gR13, pI13, pR13, rv13, k13, if_true, Option.bind_some, t0]
        show jR (d + 1) 239 54 [.ref M, .int (pl ob), .int (pl ox), .int (pl ot), .int (N c)] [.int (cO [] (G 0) ob c).1] μ = _
        rw [b239_54]
        by_cases e0 : (cO [] (G 0) ob c).1 = N 2
        · rw [if_pos (show (cO [] (G 0) ob c).1 = 2 from e0), no, pN_neg (fun q => q.2.2 e0)]
        · rw [if_neg (show ¬ (cO [] (G 0) ob c).1 = 2 from e0), b239_63, pN_pos ⟨⟨e1, e2⟩, hR, e0⟩]
          exact if_pos (show jrf 4 (N 1) = true from rfl)
      · rw [if_neg (show ¬ (cO [] (G 2) ot c).1 = 1 from e2), no, pN_neg (fun q => e2 q.1.2)]
    · rw [if_neg (show ¬ (cO [] (G 1) ox c).1 = 1 from e1), no, pN_neg (fun q => e1 q.1.1)]
  rw [jC_run (by decide)]
  show jR (d + 1) 239 0 [.ref M, .int (pl ob), .int (pl ox), .int (pl ot), .int (N c)] [] μ = _
  rw [b239_0]
  simp only [gI13, gR13, pI13, pR13, rv13, k13, if_true, Option.bind_some, rf_some, hq.fr.1, r1]
  by_cases e3 : (R c).1 = 3
  · rw [if_pos (by rw [e3]; rfl)]
    exact on (Or.inl e3)
  · rw [if_neg (show ¬ N (R c).1 = 3 by show ¬ N (R c).1 = N 3; rw [N_inj (by omega) (by decide)]; exact e3)]
    by_cases e4 : (R c).1 = 4
    · rw [if_pos (by rw [e4]; rfl)]
      exact on (Or.inr e4)
    · rw [if_neg (show ¬ N (R c).1 = 4 by show ¬ N (R c).1 = N 4; rw [N_inj (by omega) (by decide)]; exact e4), no, pN_neg (fun q => q.2.1.elim e3 e4)]
end LAY
