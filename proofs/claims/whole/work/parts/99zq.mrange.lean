/-! THE REFERENCE: values; ranges -/
def fiA : Option Int32 → Int32
  | none => N 1
  | some _ => N 0
section LAY
variable {μ μ' μ'' ν : jM} {S : List Nat} {M g h t s n w d D i j k x y a b c f q p H rt : Nat} {G : DG} {L A B : List (Int32 × Int32)} {v : Int32} {r : VT}
/-- what a place's value makes of what there is -/
theorem rg_join {i4 i5 i6 i7 : Int32} {u2 u3 u12 : Value} {acc : Option Int32} (hw : w < 3) (hq : QS μ M) (hz : jiv μ M 33 = N 0) : ∃ v13, jR (D + 1) 215 215 [.ref M, .int (N w), u2, u3, .int i4, .int i5, .int i6, .int i7, .int (acc.getD (N 0)), .int (fiA acc), .int (N p), .int (N c), u12, v13] [.int v] μ = jR (D + 1) 215 165 [.ref M, .int (N w), u2, u3, .int i4, .int i5, .int i6, .int i7, .int ((some (jn w acc v)).getD (N 0)), .int (fiA (some (jn w acc v))), .int (N p), .int (N (c + 1)), u12, .int v] [] μ := by
  refine ⟨.int v, ?_⟩
  have fin : ∀ (u8 u9 : Value) (x : Int32), jR (D + 1) 215 275 [.ref M, .int (N w), u2, u3, .int i4, .int i5, .int i6, .int i7, u8, u9, .int (N p), .int (N c), u12, .int v] [.int x] μ = jR (D + 1) 215 165 [.ref M, .int (N w), u2, u3, .int i4, .int i5, .int i6, .int i7, .int x, .int (N 0), .int (N p), .int (N (c + 1)), u12, .int v] [] μ := by
    intro u8 u9 x
    rw [b215_275, show (1 : Int32) = N 1 from rfl, N_add]
    rfl
  rw [b215_215]
  simp only [gI13, gR13, pI13, pR13, rv13, hq.k13, hz, if_true, Option.bind_some]
  rw [if_pos (show N 0 = 0 from rfl)]
  rcases (show w = 0 ∨ w = 1 ∨ w = 2 by omega) with rfl | rfl | rfl
  · rw [if_pos (show N 0 = 0 from rfl), b215_235, fin]
    cases acc with
    | none =>
      show jR (D + 1) 215 165 [_, _, _, _, _, _, _, _, .int (N 0 + v), _, _, _, _, _] [] μ = jR (D + 1) 215 165 [_, _, _, _, _, _, _, _, .int v, _, _, _, _, _] [] μ
      rw [show N 0 + v = v from Int32.zero_add v]
      rfl
    | some x => rfl
  · rw [if_neg (show ¬ N 1 = 0 by decide), if_neg (show ¬ N 1 = 3 by decide)]
    cases acc with
    | none =>
      rw [if_neg (show ¬ fiA none = 0 by decide), fin]
      rfl
    | some x =>
      rw [if_pos (show fiA (some x) = 0 from rfl), if_pos (show N 1 = 1 from rfl)]
      simp only [math_max, Option.bind_some]
      show jR (D + 1) 215 265 [.ref M, .int (N 1), u2, u3, .int i4, .int i5, .int i6, .int i7, _, _, .int (N p), .int (N c), u12, .int v] [.int _] μ = _
      rw [b215_265, fin]
      rfl
  · rw [if_neg (show ¬ N 2 = 0 by decide), if_neg (show ¬ N 2 = 3 by decide)]
    cases acc with
    | none =>
      rw [if_neg (show ¬ fiA none = 0 by decide), fin]
      rfl
    | some x =>
      rw [if_pos (show fiA (some x) = 0 from rfl), if_neg (show ¬ N 2 = 1 by decide)]
      simp only [math_min, Option.bind_some]
      show jR (D + 1) 215 275 [.ref M, .int (N 2), u2, u3, .int i4, .int i5, .int i6, .int i7, _, _, .int (N p), .int (N c), u12, .int v] [.int _] μ = _
      rw [fin]
      rfl
theorem fe_all (F : FE M μ μ') (G1 : jiv μ' M 33 = jiv μ M 33) (G2 : jiv μ' M 32 = jiv μ M 32) : ∀ j, jiv μ' M j = jiv μ M j := by
  intro j
  by_cases e1 : j = 32
  · subst e1; exact G2
  · by_cases e2 : j = 33
    · subst e2; exact G1
    · exact F.2 j e1 e2
theorem rg_row {i4 i5 i6 : Int32} {u2 u3 : Value} (hw : w < 3) (ha : AskR G M g H k) (hD : H ≤ D) (hS : S.Nodup) (hS2 : ∀ s, s ∈ S → s < 24) (hk : S.length + k = 24) (hp : p < G.length) (hrt : rt < 3) (rest : List (Nat × Nat)) : ∀ (n c : Nat) (acc : Option Int32) (μ : jM) (u12 u13 : Value), c + n = rt + 1 → EV μ M g G → jiv μ M 33 = N 0 → EI G μ M S → (∀ s, s ∈ S → Nd G (s / 3, s % 3) (fun m => rfd w (evC G m) (((List.range' c n).map fun c => (p, c)) ++ rest) acc)) →
    (∃ μ' acc' v12 v13, jR (D + 1) 215 165 [.ref M, .int (N w), u2, u3, .int i4, .int i5, .int i6, .int (N rt), .int (acc.getD (N 0)), .int (fiA acc), .int (N p), .int (N c), u12, u13] [] μ = jR (D + 1) 215 165 [.ref M, .int (N w), u2, u3, .int i4, .int i5, .int i6, .int (N rt), .int (acc'.getD (N 0)), .int (fiA acc'), .int (N p), .int (N (rt + 1)), v12, v13] [] μ' ∧ FE M μ μ' ∧ jiv μ' M 33 = N 0 ∧ jiv μ' M 32 = jiv μ M 32 ∧ jrv μ' M 34 = jrv μ M 34 ∧ EI G μ' M S ∧ tfd G w (((List.range' c n).map fun c => (p, c)) ++ rest) acc = tfd G w rest acc' ∧ ∀ s, s ∈ S → Nd G (s / 3, s % 3) (fun m => rfd w (evC G m) rest acc'))
    ∨ ∃ μ', jR (D + 1) 215 165 [.ref M, .int (N w), u2, u3, .int i4, .int i5, .int i6, .int (N rt), .int (acc.getD (N 0)), .int (fiA acc), .int (N p), .int (N c), u12, u13] [] μ = some (some (.int (N 0)), μ') ∧ (tfd G w (((List.range' c n).map fun c => (p, c)) ++ rest) acc).1 ≠ N 0 ∧ RA G M S (tfd G w (((List.range' c n).map fun c => (p, c)) ++ rest) acc) (N 0) μ μ' := by
  intro n
  induction n with
  | zero =>
    intro c acc μ u12 u13 hc hv hz hi nd
    have : c = rt + 1 := by omega
    subst this
    exact Or.inl ⟨μ, acc, u12, u13, rfl, FE.refl, hz, rfl, rfl, hi, rfl, nd⟩
  | succ n ih =>
    intro c acc μ u12 u13 hc hv hz hi nd
    have l8 := hv.len.1
    rw [List.range'_succ, List.map_cons, List.cons_append] at nd ⊢
    have ndl : ∀ s, s ∈ S → Nd G (s / 3, s % 3) (fun n => evC G n p c) := fun s hs => nd_l (nd s hs)
    obtain ⟨μ1, v, c1, c2⟩ := ha D μ S p c hD hv hS hS2 hk hp (by omega) hz hi ndl
    obtain ⟨F1, w1, v1, p1, r1, i1⟩ := c2
    have hv1 := F1.ev hv
    have ex : (3 : Int32) * N p + N c = N (p * 3 + c) := by rw [show (3 : Int32) = N 3 from rfl, N_mul, N_add, Nat.mul_comm 3]
    have st : ∃ v12, jR (D + 1) 215 165 [.ref M, .int (N w), u2, u3, .int i4, .int i5, .int i6, .int (N rt), .int (acc.getD (N 0)), .int (fiA acc), .int (N p), .int (N c), u12, u13] [] μ = jR (D + 1) 215 215 [.ref M, .int (N w), u2, u3, .int i4, .int i5, .int i6, .int (N rt), .int (acc.getD (N 0)), .int (fiA acc), .int (N p), .int (N c), v12, u13] [.int v] μ1 := by
      refine ⟨.int (N (p * 3 + c)), ?_⟩
      rw [b215_165, if_neg (by rw [N_lt (by omega) (by omega)]; omega), if_neg (show ¬ N w = 3 by show ¬ N w = N 3; rw [N_inj (by omega) (by decide)]; omega)]
      simp only [gI13, gR13, pI13, pR13, rv13, hv.1.k13, ex, c1, if_true, Option.bind_some]
      rfl
    obtain ⟨v12, st⟩ := st
    by_cases e0 : (vlC G p c).1 = N 0
    · have hz1 : jiv μ1 M 33 = N 0 := by rw [w1]; exact e0
      have hvv := v1 e0
      subst hvv
      have nd2 : ∀ s, s ∈ S → Nd G (s / 3, s % 3) (fun m => rfd w (evC G m) (((List.range' (c + 1) n).map fun c => (p, c)) ++ rest) (some (jn w acc (vlC G p c).2))) := fun s hs => nd_r (nd s hs) vlC_lim e0
      have et : tfd G w ((p, c) :: (((List.range' (c + 1) n).map fun c => (p, c)) ++ rest)) acc = tfd G w (((List.range' (c + 1) n).map fun c => (p, c)) ++ rest) (some (jn w acc (vlC G p c).2)) := if_pos e0
      rw [et, st]
      obtain ⟨v13, sj⟩ := rg_join (D := D) (M := M) (μ := μ1) (i4 := i4) (i5 := i5) (i6 := i6) (i7 := N rt) (u2 := u2) (u3 := u3) (u12 := v12) (acc := acc) (p := p) (c := c) (v := (vlC G p c).2) hw hv1.1 hz1
      have sj' : jR (D + 1) 215 215 [.ref M, .int (N w), u2, u3, .int i4, .int i5, .int i6, .int (N rt), .int (acc.getD (N 0)), .int (fiA acc), .int (N p), .int (N c), v12, u13] [.int (vlC G p c).2] μ1 = jR (D + 1) 215 165 [.ref M, .int (N w), u2, u3, .int i4, .int i5, .int i6, .int (N rt), .int ((some (jn w acc (vlC G p c).2)).getD (N 0)), .int (fiA (some (jn w acc (vlC G p c).2))), .int (N p), .int (N (c + 1)), v12, .int (vlC G p c).2] [] μ1 := by
        rw [← sj, b215_215, b215_215]
      rw [sj']
      rcases ih (c + 1) _ μ1 v12 (.int (vlC G p c).2) (by omega) hv1 hz1 i1 nd2 with ⟨μ2, acc', x12, x13, z1, z2, z3, z4, z5, z6, z7, z8⟩ | ⟨μ2, z1, z2, z3⟩
      · exact Or.inl ⟨μ2, acc', x12, x13, z1, F1.trans z2, z3, z4.trans p1, z5.trans r1, z6, z7, z8⟩
      · exact Or.inr ⟨μ2, z1, z2, RA.trans F1 z3 p1 r1⟩
    · have et : tfd G w ((p, c) :: (((List.range' (c + 1) n).map fun c => (p, c)) ++ rest)) acc = ((vlC G p c).1, N 0) := if_neg e0
      rw [et, st]
      refine Or.inr ⟨μ1, ?_, e0, F1, w1, fun q => absurd q e0, p1, r1, i1⟩
      rw [b215_215]
      simp only [gI13, gR13, pI13, pR13, rv13, hv1.1.k13, w1, if_true, Option.bind_some]
      rw [if_neg (show ¬ (vlC G p c).1 = 0 from e0)]
      rfl
theorem rg_rows {q1 q2 : Nat × Nat} {u2 u3 : Value} (hw : w < 3) (ha : AskR G M g H k) (hD : H ≤ D) (hS : S.Nodup) (hS2 : ∀ s, s ∈ S → s < 24) (hk : S.length + k = 24) (h1 : q1.1 < G.length) (h2 : q2.1 < G.length) (hG8 : G.length ≤ 8) (hc1 : q1.2 < 3) (hc2 : q2.2 < 3) : ∀ (m p : Nat) (acc : Option Int32) (μ : jM) (u11 u12 u13 : Value), p + m = max q1.1 q2.1 + 1 → EV μ M g G → jiv μ M 33 = N 0 → EI G μ M S → (∀ s, s ∈ S → Nd G (s / 3, s % 3) (fun n => rfd w (evC G n) ((List.range' p m).flatMap (rrow q1 q2)) acc)) →
    ∃ μ' v, jR (D + 1) 215 149 [.ref M, .int (N w), u2, u3, .int (N q1.1), .int (N q2.1), .int (N (min q1.2 q2.2)), .int (N (max q1.2 q2.2)), .int (acc.getD (N 0)), .int (fiA acc), .int (N p), u11, u12, u13] [] μ = some (some (.int v), μ') ∧ RA G M S (tfd G w ((List.range' p m).flatMap (rrow q1 q2)) acc) v μ μ' := by
  have em : imax (N q1.1) (N q2.1) = N (max q1.1 q2.1) := imax_N (by omega) (by omega)
  intro m
  induction m with
  | zero =>
    intro p acc μ u11 u12 u13 hp hv hz hi nd
    refine ⟨μ, acc.getD (N 0), ?_, FE.refl, hz, fun _ => rfl, rfl, rfl, hi⟩
    rw [b215_149]
    simp only [math_max, em, Option.bind_some]
    show jR (D + 1) 215 158 [.ref M, .int (N w), u2, u3, .int (N q1.1), .int (N q2.1), .int (N (min q1.2 q2.2)), .int (N (max q1.2 q2.2)), .int (acc.getD (N 0)), .int (fiA acc), .int (N p), u11, u12, u13] [.int (N (max q1.1 q2.1)), .int (N p)] μ = _
    rw [b215_158, if_pos (by rw [N_lt (by omega) (by omega)]; omega)]
  | succ m ih =>
    intro p acc μ u11 u12 u13 hp hv hz hi nd
    rw [List.range'_succ, List.flatMap_cons] at nd ⊢
    have hpG : p < G.length := by omega
    have st : jR (D + 1) 215 149 [.ref M, .int (N w), u2, u3, .int (N q1.1), .int (N q2.1), .int (N (min q1.2 q2.2)), .int (N (max q1.2 q2.2)), .int (acc.getD (N 0)), .int (fiA acc), .int (N p), u11, u12, u13] [] μ = jR (D + 1) 215 165 [.ref M, .int (N w), u2, u3, .int (N q1.1), .int (N q2.1), .int (N (min q1.2 q2.2)), .int (N (max q1.2 q2.2)), .int (acc.getD (N 0)), .int (fiA acc), .int (N p), .int (N (min q1.2 q2.2)), u12, u13] [] μ := by
      rw [b215_149]
      simp only [math_max, em, Option.bind_some]
      show jR (D + 1) 215 158 [.ref M, .int (N w), u2, u3, .int (N q1.1), .int (N q2.1), .int (N (min q1.2 q2.2)), .int (N (max q1.2 q2.2)), .int (acc.getD (N 0)), .int (fiA acc), .int (N p), u11, u12, u13] [.int (N (max q1.1 q2.1)), .int (N p)] μ = _
      rw [b215_158, if_neg (by rw [N_lt (by omega) (by omega)]; omega)]
    rw [st]
    rcases rg_row (D := D) (u2 := u2) (u3 := u3) (i4 := N q1.1) (i5 := N q2.1) (i6 := N (min q1.2 q2.2)) (rt := max q1.2 q2.2) hw ha hD hS hS2 hk hpG (by omega) ((List.range' (p + 1) m).flatMap (rrow q1 q2)) (max q1.2 q2.2 + 1 - min q1.2 q2.2) (min q1.2 q2.2) acc μ u12 u13 (by omega) hv hz hi nd with ⟨μ1, acc', x12, x13, z1, z2, z3, z4, z5, z6, z7, z8⟩ | ⟨μ1, z1, z2, z3⟩
    · have et : tfd G w (rrow q1 q2 p ++ (List.range' (p + 1) m).flatMap (rrow q1 q2)) acc = tfd G w ((List.range' (p + 1) m).flatMap (rrow q1 q2)) acc' := z7
      rw [et, z1]
      obtain ⟨μ2, v, y1, y2⟩ := ih (p + 1) acc' μ1 (.int (N (max q1.2 q2.2 + 1))) x12 x13 (by omega) (z2.ev hv) z3 z6 z8
      refine ⟨μ2, v, ?_, RA.trans z2 y2 z4 z5⟩
      rw [b215_165, if_pos (by rw [N_lt (by omega) (by omega)]; omega), show (1 : Int32) = N 1 from rfl, N_add]
      exact y1
    · exact ⟨μ1, N 0, z1, z3⟩
/-- many: places that hold something -/
theorem mn_row {i4 i5 i6 : Int32} {u2 u3 : Value} (hv : EV μ M g G) (hz : jiv μ M 33 = N 0) (hp : p < G.length) (hrt : rt < 3) : ∀ (n c z : Nat) (i9 : Int32) (u12 u13 : Value), c + n = rt + 1 → ∃ j9 v12 v13, jR (D + 1) 215 165 [.ref M, .int (N 3), u2, u3, .int i4, .int i5, .int i6, .int (N rt), .int (N z), .int i9, .int (N p), .int (N c), u12, u13] [] μ = jR (D + 1) 215 165 [.ref M, .int (N 3), u2, u3, .int i4, .int i5, .int i6, .int (N rt), .int (N (z + ((List.range' c n).map fun c => (p, c)).countP (isFull G))), .int j9, .int (N p), .int (N (rt + 1)), v12, v13] [] μ := by
  have k13 := hv.1.k13
  intro n
  induction n with
  | zero =>
    intro c z i9 u12 u13 hc
    have : c = rt + 1 := by omega
    subst this
    exact ⟨i9, u12, u13, rfl⟩
  | succ n ih =>
    intro c z i9 u12 u13 hc
    obtain ⟨p8, ec, mc⟩ := hv.cell (c := c) (by omega) hp
    have gg := hv.1.gk hv.2.1
    have gr := hv.1.gr hv.2.1
    have e1 := ent_get (μ := μ) (i := p * 3 + c) gg.2.1.1 gg.2.1.2 (by omega) (by decide)
    have ex : (3 : Int32) * N p + N c = N (p * 3 + c) := by rw [show (3 : Int32) = N 3 from rfl, N_mul, N_add, Nat.mul_comm 3]
    have fin : ∀ (x : Nat), jR (D + 1) 215 215 [.ref M, .int (N 3), u2, u3, .int i4, .int i5, .int i6, .int (N rt), .int (N z), .int i9, .int (N p), .int (N c), .int (N (p * 3 + c)), u13] [.int (N x)] μ = jR (D + 1) 215 165 [.ref M, .int (N 3), u2, u3, .int i4, .int i5, .int i6, .int (N rt), .int (N (z + x)), .int (N 0), .int (N p), .int (N (c + 1)), .int (N (p * 3 + c)), .int (N x)] [] μ := by
      intro x
      rw [b215_215]
      simp only [gI13, gR13, pI13, pR13, rv13, k13, hz, if_true, Option.bind_some]
      rw [if_pos (show N 0 = 0 from rfl), if_neg (show ¬ N 3 = 0 by decide), if_pos (show N 3 = 3 from rfl), b215_235, b215_275, show (1 : Int32) = N 1 from rfl, N_add, N_add]
      rfl
    have kf : (jiv μ (M + 8 + g) (p * 3 + c) = N 0) ↔ isFull G (p, c) = false := by
      unfold isFull
      rw [ec]
      show _ ↔ (!(jiv μ (M + 8 + g) (p * 3 + c) == N 0)) = false
      simp
    have st : jR (D + 1) 215 165 [.ref M, .int (N 3), u2, u3, .int i4, .int i5, .int i6, .int (N rt), .int (N z), .int i9, .int (N p), .int (N c), u12, u13] [] μ = jR (D + 1) 215 215 [.ref M, .int (N 3), u2, u3, .int i4, .int i5, .int i6, .int (N rt), .int (N z), .int i9, .int (N p), .int (N c), .int (N (p * 3 + c)), u13] [.int (N (if isFull G (p, c) = true then 1 else 0))] μ := by
      rw [b215_165, if_neg (by rw [N_lt (by omega) (by omega)]; omega), if_pos (show N 3 = 3 from rfl)]
      simp only [gI13, gR13, pI13, pR13, rv13, k13, hv.1.f.2.2.1, hv.2.2.2, gr.2.1, ex, e1, if_true, Option.bind_some, rf_some]
      by_cases e0 : jiv μ (M + 8 + g) (p * 3 + c) = N 0
      · rw [if_pos (show jiv μ (M + 8 + g) (p * 3 + c) = 0 from e0), if_neg (by rw [kf.mp e0]; decide)]
        rfl
      · have e2 : isFull G (p, c) = true := by
          cases h : isFull G (p, c) with
          | true => rfl
          | false => exact absurd (kf.mpr h) e0
        rw [if_neg (show ¬ jiv μ (M + 8 + g) (p * 3 + c) = 0 from e0), if_pos e2]
        rfl
    obtain ⟨j9, v12, v13, w1⟩ := ih (c + 1) (z + if isFull G (p, c) = true then 1 else 0) (N 0) (.int (N (p * 3 + c))) (.int (N (if isFull G (p, c) = true then 1 else 0))) (by omega)
    refine ⟨j9, v12, v13, ?_⟩
    rw [st, fin, w1, List.range'_succ, List.map_cons, List.countP_cons, Nat.add_assoc, Nat.add_comm (if isFull G (p, c) = true then 1 else 0)]
theorem mn_rows {q1 q2 : Nat × Nat} {u2 u3 : Value} (hv : EV μ M g G) (hz : jiv μ M 33 = N 0) (h1 : q1.1 < G.length) (h2 : q2.1 < G.length) (hG8 : G.length ≤ 8) (hc1 : q1.2 < 3) (hc2 : q2.2 < 3) : ∀ (m p z : Nat) (i9 : Int32) (u11 u12 u13 : Value), p + m = max q1.1 q2.1 + 1 → jR (D + 1) 215 149 [.ref M, .int (N 3), u2, u3, .int (N q1.1), .int (N q2.1), .int (N (min q1.2 q2.2)), .int (N (max q1.2 q2.2)), .int (N z), .int i9, .int (N p), u11, u12, u13] [] μ = some (some (.int (N (z + ((List.range' p m).flatMap (rrow q1 q2)).countP (isFull G)))), μ) := by
  have em : imax (N q1.1) (N q2.1) = N (max q1.1 q2.1) := imax_N (by omega) (by omega)
  intro m
  induction m with
  | zero =>
    intro p z i9 u11 u12 u13 hp
    rw [b215_149]
    simp only [math_max, em, Option.bind_some]
    show jR (D + 1) 215 158 [.ref M, .int (N 3), u2, u3, .int (N q1.1), .int (N q2.1), .int (N (min q1.2 q2.2)), .int (N (max q1.2 q2.2)), .int (N z), .int i9, .int (N p), u11, u12, u13] [.int (N (max q1.1 q2.1)), .int (N p)] μ = _
    rw [b215_158, if_pos (by rw [N_lt (by omega) (by omega)]; omega)]
    rfl
  | succ m ih =>
    intro p z i9 u11 u12 u13 hp
    obtain ⟨j9, v12, v13, w1⟩ := mn_row (D := D) (u2 := u2) (u3 := u3) (i4 := N q1.1) (i5 := N q2.1) (i6 := N (min q1.2 q2.2)) (p := p) (rt := max q1.2 q2.2) hv hz (by omega) (by omega) (max q1.2 q2.2 + 1 - min q1.2 q2.2) (min q1.2 q2.2) z i9 u12 u13 (by omega)
    rw [b215_149]
    simp only [math_max, em, Option.bind_some]
    show jR (D + 1) 215 158 [.ref M, .int (N 3), u2, u3, .int (N q1.1), .int (N q2.1), .int (N (min q1.2 q2.2)), .int (N (max q1.2 q2.2)), .int (N z), .int i9, .int (N p), u11, u12, u13] [.int (N (max q1.1 q2.1)), .int (N p)] μ = _
    rw [b215_158, if_neg (by rw [N_lt (by omega) (by omega)]; omega), w1, b215_165, if_pos (by rw [N_lt (by omega) (by omega)]; omega), show (1 : Int32) = N 1 from rfl, N_add, ih (p + 1) _ _ _ _ _ (by omega), List.range'_succ, List.flatMap_cons, List.countP_append, Nat.add_assoc]
    rfl
end LAY
