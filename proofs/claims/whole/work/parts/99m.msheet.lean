/-! THE REFERENCE's CALLS: sheets laid out -/
/-- the first n items are 0 -/
def zI (μ : jM) (a n : Nat) : jM := jrowI μ a fun j => if j < n then N 0 else jiv μ a j
section LAY
variable {μ μ' ν : jM} {S S' : Nat → Prop} {T T' : Nat → Nat → Prop} {M g h t s n w d D i j k x y a b c : Nat} {A B C : GA} {σ : SG}
theorem zI_zero : zI μ a 0 = μ := by
  have : (fun a' k' => if a' = a then (fun j => if j < 0 then N 0 else jiv μ a j) k' else μ.2.2.1 a' k') = μ.2.2.1 := by
    funext x k
    split
    · rename_i e; subst e; rfl
    · rfl
  show (μ.1, μ.2.1, (fun a' k' => if a' = a then (fun j => if j < 0 then N 0 else jiv μ a j) k' else μ.2.2.1 a' k'), μ.2.2.2) = μ
  rw [this]
theorem zI_succ : jsetI (zI μ a n) a n (N 0) = zI μ a (n + 1) := by
  have : (jsetI (zI μ a n) a n (N 0)).2.2.1 = (zI μ a (n + 1)).2.2.1 := by
    funext x k
    show (if x = a ∧ k = n then N 0 else if x = a then (if k < n then N 0 else jiv μ a k) else jiv μ x k) = if x = a then (if k < n + 1 then N 0 else jiv μ a k) else jiv μ x k
    by_cases e : x = a
    · rw [if_pos e, if_pos e]
      by_cases e2 : k = n
      · rw [if_pos ⟨e, e2⟩, if_pos (by omega)]
      · rw [if_neg (fun g => e2 g.2)]
        by_cases e3 : k < n
        · rw [if_pos e3, if_pos (by omega)]
        · rw [if_neg e3, if_neg (by omega)]
    · rw [if_neg (fun g => e g.1), if_neg e, if_neg e]
  show (_, _, (jsetI (zI μ a n) a n (N 0)).2.2.1, _) = (_, _, (zI μ a (n + 1)).2.2.1, _)
  rw [this]; rfl
theorem sh_zero {u2 u3 : Value} (hq : QS μ M) (hs : s < 4) : jR d 262 65 [.ref M, .int (N s), u2, u3, .int (N 0)] [] μ = some (some (.int (N 1)), zI μ (M + 419 + s) 40) := by
  have loop : ∀ m n, n + m = 40 → jR d 262 65 [.ref M, .int (N s), u2, u3, .int (N n)] [] (zI μ (M + 419 + s) n) = some (some (.int (N 1)), zI μ (M + 419 + s) 40) := by
    intro m
    induction m with
    | zero =>
      intro n hn
      have : n = 40 := by omega
      subst this
      rw [b262_65, if_neg (by decide)]; rfl
    | succ m ih =>
      intro n hn
      have q1 : QS (zI μ (M + 419 + s) n) M := (show Fx (fun _ => True) (fun _ _ => False) μ (zI μ (M + 419 + s) n) from Fx.rowI Fx.refl trivial).qs hq (fun a j k => k.elim)
      obtain ⟨q52, q53, q54, q55, g1, g2, g3, k19, l19⟩ := q1.sh hs
      have e1 := ent_set (μ := zI μ (M + 419 + s) n) (i := n) (v := N 0) k19 l19 (by omega) (by decide)
      rw [zI_succ] at e1
      have k13 := q1.k13
      have := ih (n + 1) (by omega)
      generalize zI μ (M + 419 + s) n = m1 at *
      rw [b262_65, if_pos (by show N n < N 40; rw [N_lt (by omega) (by decide)]; omega)]
      simp only [gI13, gR13, pI13, pR13, rv13, Option.bind_some, Option.bind_none, if_true, if_false, true_or, or_true, false_or, or_false, true_and, and_true, false_and, and_false, decide_eq_true_eq, decide_true, decide_false, eq_self, not_true_eq_false, not_false_eq_true, jfit0, N_lit, N_add, N_mul, NEG_eq, pl_none, pl_some, rf_some, rf_none, jun_ref, jun_null, ir_ref, ir_null, jr_rf, jun_rf, Option.toList_some, Option.toList_none, List.nil_append, List.cons_append, k13, q54, g3, e1]
      exact this
  have := loop 40 0 (by decide)
  rw [zI_zero] at this
  exact this
/-- a sheet of a sort and a length, all 0 -/
theorem sh_lay {u4 : Value} {y z : Int32} {n : Nat} (h : MR μ M σ) (hs : s < 4) (hn : n ≤ 40) (hz : (if y < 0 then 0 else z) = N n) : ROP M (jR d 262 40 [.ref M, .int (N s), .int y, .int z, u4] [] μ) μ (N 1, ssh σ s (y, List.replicate n (N 0))) := by
  have hq := h.1
  have k13 := hq.k13
  obtain ⟨q52, q53, q54, q55, -⟩ := hq.sh hs
  have k6 : jk μ (M + 416) = 20 ∧ jl μ (M + 416) = 4 := hq.kd (o := 416) (by decide) rfl
  have k7 : jk μ (M + 417) = 20 ∧ jl μ (M + 417) = 4 := hq.kd (o := 417) (by decide) rfl
  have e1 := ent_set (μ := μ) (v := y) k6.1 k6.2 hs (by decide)
  have e2 := ent_set (μ := jsetI μ (M + 416) s y) (v := N n) k7.1 k7.2 hs (by decide)
  have F : Fx (fun a => a = M + 416 ∨ a = M + 417 ∨ a = M + 419 + s) (fun _ _ => False) μ (zI (jsetI (jsetI μ (M + 416) s y) (M + 417) s (N n)) (M + 419 + s) 40) := Fx.rowI (Fx.setI (Fx.setI Fx.refl (Or.inl rfl)) (Or.inr (Or.inl rfl))) (Or.inr (Or.inr rfl))
  have q2 : QS (jsetI (jsetI μ (M + 416) s y) (M + 417) s (N n)) M := QS.set (QS.set hq)
  have hf : MRs (zI (jsetI (jsetI μ (M + 416) s y) (M + 417) s (N n)) (M + 419 + s) 40) M (updf σ.2.2.2.2.2 s (y, List.replicate n (N 0))) := by
    intro x hx
    obtain ⟨w1, w2, w3, w4⟩ := h.2.2.2.2.2.2.2.2.2 x hx
    unfold updf
    by_cases ex : x = s
    · subst ex
      rw [if_pos rfl]
      refine ⟨?_, by show (List.replicate n (N 0)).length ≤ 40; rw [List.length_replicate]; exact hn, ?_, fun j v hj => ?_⟩
      · show (if M + 416 = M + 419 + x then _ else if M + 416 = M + 417 ∧ x = x then N n else if M + 416 = M + 416 ∧ x = x then y else _) = y
        rw [if_neg (by omega), if_neg (by omega), if_pos ⟨rfl, rfl⟩]
      · show (if M + 417 = M + 419 + x then _ else if M + 417 = M + 417 ∧ x = x then N n else _) = N (List.replicate n (N 0)).length
        rw [if_neg (by omega), if_pos ⟨rfl, rfl⟩, List.length_replicate]
      · have hj : (List.replicate n (N 0))[j]? = some v := hj
        have hl := (List.getElem?_eq_some_iff.mp hj).1
        rw [List.length_replicate] at hl
        rw [List.getElem?_replicate, if_pos hl] at hj
        show (if M + 419 + x = M + 419 + x then (if j < 40 then N 0 else _) else _) = v
        rw [if_pos rfl, if_pos (by omega)]
        exact Option.some.inj hj
    · rw [if_neg ex, F.iv (a := M + 419 + x) (by omega)]
      refine ⟨?_, w2, ?_, w4⟩
      · show (if M + 416 = M + 419 + s then _ else if M + 416 = M + 417 ∧ x = s then N n else if M + 416 = M + 416 ∧ x = s then y else jiv μ (M + 416) x) = _
        rw [if_neg (by omega), if_neg (by omega), if_neg (fun q => ex q.2)]; exact w1
      · show (if M + 417 = M + 419 + s then _ else if M + 417 = M + 417 ∧ x = s then N n else if M + 417 = M + 416 ∧ x = s then y else jiv μ (M + 417) x) = _
        rw [if_neg (by omega), if_neg (fun q => ex q.2), if_neg (by omega)]; exact w3
  obtain ⟨z1, z2⟩ := h.sheets F (fun a k => by omega) hf
  have fin := sh_zero (d := d) (u2 := .int y) (u3 := .int z) q2 hs
  refine ⟨_, ?_, z1, z2⟩
  rw [b262_40]
  simp only [gI13, gR13, pI13, pR13, rv13, k13, q52, q53, jk_setI, rv_setI, if_true, Option.bind_some, rf_some, e1]
  by_cases hy : y < 0
  · rw [if_pos hy] at hz
    have e3 : jsI (jsetI μ (M + 416) s y) (.ref (M + 417)) (N s) 0 = some (jsetI (jsetI μ (M + 416) s y) (M + 417) s (N n)) := by rw [hz]; exact e2
    rw [if_pos hy, b262_61 (hs0 := ir_ref), e3]
    exact fin
  · rw [if_neg hy] at hz
    rw [if_neg hy, b262_61 (hs0 := ir_ref), hz, e2]
    rw [hz] at fin
    exact fin
theorem neg_of {t : Int32} (h1 : ¬ t < NEG) (h2 : t < N 0) : t = NEG := by
  apply Int32.toInt_inj.mp
  have a1 : ¬ t.toInt < NEG.toInt := fun q => h1 (Int32.lt_iff_toInt_lt.mpr q)
  have a2 : t.toInt < (N 0).toInt := Int32.lt_iff_toInt_lt.mp h2
  have b1 : NEG.toInt = -1 := by decide
  have b2 : (N 0).toInt = 0 := by decide
  omega
theorem p_sheet (h : MR μ M σ) (s t n : Int32) : ROP M (jC (d + 2) 262 [.ref M, .int s, .int t, .int n] μ) μ (o_sheet σ s t n) := by
  have bad : jR (d + 2) 262 26 [.ref M, .int s, .int t, .int n, .retAddr 0] [] μ = some (some (.int aBAD), μ) := b262_26 ..
  have st : jC (d + 2) 262 [.ref M, .int s, .int t, .int n] μ = jR (d + 2) 262 4 [.ref M, .int s, .int t, .int n, .retAddr 0] [.int (okI (ix 4 s))] μ := by
    rw [jC_run (by decide)]
    show jR (d + 2) 262 0 [.ref M, .int s, .int t, .int n, .retAddr 0] [] μ = _
    rw [b262_0, r_sort]
    rfl
  rw [st, b262_4]
  unfold o_sheet
  cases es : ix 4 s with
  | none =>
    rw [if_pos (by rw [okI_0])]
    exact ⟨μ, bad, FR.refl, h⟩
  | some s0 =>
    obtain ⟨rfl, hs⟩ := ix_some (by decide) es
    rw [if_neg (by rw [okI_0]; simp), r_btw]
    show ROP M (jR (d + 2) 262 13 [.ref M, .int (N s0), .int t, .int n, .retAddr 0] [.int (if t < NEG ∨ N 1 < t then N 0 else N 1)] μ) μ (if t = NEG then (N 1, ssh σ s0 (NEG, [])) else if t = N 0 ∨ t = N 1 then (if N 40 < n then (aBAD, σ) else if n < N 0 then (aLITTLE, σ) else (N 1, ssh σ s0 (t, List.replicate n.toNatClampNeg (N 0)))) else (aBAD, σ))
    rw [b262_13]
    by_cases hb : t < NEG ∨ N 1 < t
    · rw [if_pos hb, if_pos (by decide), if_neg (fun q => by rw [q] at hb; revert hb; decide), if_neg (fun q => by rcases q with q | q <;> rw [q] at hb <;> revert hb <;> decide)]
      exact ⟨μ, bad, FR.refl, h⟩
    · rw [if_neg hb, if_neg (show ¬ N 1 = 0 by decide)]
      have b1 : ¬ t < NEG := fun q => hb (Or.inl q)
      have b2 : ¬ N 1 < t := fun q => hb (Or.inr q)
      by_cases ht : t < N 0
      · have et := neg_of b1 ht
        subst et
        rw [if_pos (show NEG < (0 : Int32) from ht), if_pos rfl, b262_29, if_pos (show NEG < (0 : Int32) from ht)]
        exact sh_lay (n := 0) h hs (by decide) (if_pos ht)
      · obtain ⟨a, ha, rfl⟩ := N_of ht
        have a1 : a < 2 := by
          rw [N_lt (by decide) ha] at b2; omega
        rw [if_neg (show ¬ N a < (0 : Int32) from ht), if_neg (show ¬ N a = NEG from fun q => by
          rw [q] at ht; exact ht (by decide)), if_pos (show N a = N 0 ∨ N a = N 1 by
          rcases (show a = 0 ∨ a = 1 by omega) with rfl | rfl
          · exact Or.inl rfl
          · exact Or.inr rfl)]
        by_cases h40 : N 40 < n
        · rw [if_pos h40, if_pos (show (40 : Int32) < n from h40)]
          exact ⟨μ, bad, FR.refl, h⟩
        · rw [if_neg h40, if_neg (show ¬ (40 : Int32) < n from h40), b262_29, if_neg (show ¬ N a < (0 : Int32) from ht)]
          by_cases hn : n < N 0
          · rw [if_pos hn, if_pos (show n < (0 : Int32) from hn)]
            exact ⟨μ, rfl, FR.refl, h⟩
          · obtain ⟨b, hb, rfl⟩ := N_of hn
            rw [if_neg hn, if_neg (show ¬ N b < (0 : Int32) from hn), N_nat hb]
            rw [N_lt (by decide) hb] at h40
            exact sh_lay (n := b) h hs (by omega) (if_neg ht)
end LAY
