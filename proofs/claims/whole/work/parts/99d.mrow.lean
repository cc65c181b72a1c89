/-! THE REFERENCE's CALLS: rows laid in; grids made like others -/
section LAY
variable {μ μ' ν : jM} {S S' : Nat → Prop} {T T' : Nat → Nat → Prop} {M g h t s n w d D i j k x y a b c : Nat} {A B C : GA} {σ : SG}
theorem FM1.setK (hg : g < 4) {v : Int32} : FM1 M g μ (jsetI μ (M + 3 + g) a v) := ⟨Fx.setI Fx.refl (Or.inr (Or.inl rfl)), fun j _ => by
  show (if M + 1 = M + 3 + g ∧ j = a then v else jiv μ (M + 1) j) = _
  rw [if_neg (fun q => by omega)]⟩
/-- a key written -/
theorem gq_setK (hG : GQ μ M g) {v : Int32} : GQ (jsetI μ (M + 3 + g) a v) M g ∧ rG (jsetI μ (M + 3 + g) a v) (mA M g) = (rG μ (mA M g)).modify a (fun w => (v, w.2)) := by
  obtain ⟨hg, g1, g8, gf⟩ := hG
  have n : ∀ b, b ≠ M + 3 + g → jiv (jsetI μ (M + 3 + g) a v) b = jiv μ b := fun b hb => iv_setIn hb
  have ev : vN (jsetI μ (M + 3 + g) a v) (mA M g) = vN μ (mA M g) := by rw [vN_m, vN_m, n (M + 1) (by omega)]
  refine ⟨⟨hg, by rw [ev, n (M + 1) (by omega)]; exact g1, by rw [ev]; exact g8, gf⟩, ?_⟩
  have ek : jiv (jsetI μ (M + 3 + g) a v) ((mA M g).1 1) = updf (jiv μ ((mA M g).1 1)) a v := by
    funext z
    show (if M + 3 + g = M + 3 + g ∧ z = a then v else jiv μ (M + 3 + g) z) = if z = a then v else jiv μ (M + 3 + g) z
    simp only [true_and]
  have er : rc (jsetI μ (M + 3 + g) a v) (mA M g) = rc μ (mA M g) := by
    funext z
    unfold rc
    rw [n ((mA M g).1 2) (show M + 8 + g ≠ M + 3 + g by omega), n ((mA M g).1 3) (show M + 13 + g ≠ M + 3 + g by omega), n ((mA M g).1 5) (show M + 18 + g ≠ M + 3 + g by omega)]
    rfl
  unfold rG
  rw [ev, ek, er, mkL_key]
theorem mod_ins {α : Type} {l : List α} {x : α} {f : α → α} (h : i ≤ l.length) : (l.insertIdx i x).modify i f = l.insertIdx i (f x) := by
  refine List.ext_getElem? fun j => ?_
  rw [List.getElem?_modify, List.getElem?_insertIdx, List.getElem?_insertIdx]
  by_cases e : i = j
  · subst e
    simp [h]
  · have e' : ¬ j = i := fun q => e q.symm
    simp only [e, e', if_false]
    by_cases h1 : j < i
    · simp [h1]
    · simp [h1]
theorem p_row (h : MR μ M σ) (g a k : Int32) : ROP M (jC (d + 3) 193 [.ref M, .int g, .int a, .int k] μ) μ (o_row σ g a k) := by
  have hq := h.1
  have bad : jR (d + 3) 193 31 [.ref M, .int g, .int a, .int k] [] μ = some (some (.int aBAD), μ) := b193_31 ..
  have st : jC (d + 3) 193 [.ref M, .int g, .int a, .int k] μ = jR (d + 3) 193 4 [.ref M, .int g, .int a, .int k] [.int (okI (ix 3 g))] μ := by
    rw [jC_run (by decide)]
    show jR (d + 3) 193 0 [.ref M, .int g, .int a, .int k] [] μ = _
    rw [b193_0, r_ver]
    rfl
  rw [st, b193_4]
  unfold o_row
  cases eg : ix 3 g with
  | none =>
    rw [if_pos (by rw [okI_0])]
    exact ⟨μ, bad, FR.refl, h⟩
  | some g0 =>
    obtain ⟨rfl, hg⟩ := ix_some (by decide) eg
    have hg4 : g0 < 4 := by omega
    obtain ⟨G1, G2, G3, G4, G5⟩ := h.gq hg4
    have ro := hq.ro hg4
    rw [G1.2.1] at ro
    rw [if_neg (by rw [okI_0]; simp)]
    have ri := r_in (d := d + 2) (μ := μ) (n := vN μ (mA M g0) + 1) (by omega) a
    rw [N_sub (show 1 ≤ vN μ (mA M g0) + 1 by omega), Nat.add_sub_cancel] at ri
    simp only [gI13, gR13, pI13, pR13, rv13, hq.k13, hq.f.1, if_true, Option.bind_some, rf_some, ro, G4]
    rw [show (0 : Int32) = N 0 from rfl, ri]
    show ROP M (jR (d + 3) 193 18 [.ref M, .int (N g0), .int a, .int k] [.int (okI (ix (vN μ (mA M g0) + 1) a))] μ) μ _
    rw [b193_18]
    cases ea : ix (vN μ (mA M g0) + 1) a with
    | none =>
      rw [if_pos (by rw [okI_0])]
      exact ⟨μ, bad, FR.refl, h⟩
    | some a0 =>
      obtain ⟨rfl, ha⟩ := ix_some (by omega) ea
      rw [if_neg (by rw [okI_0]; simp), r_btw]
      show ROP M (jR (d + 3) 193 28 [.ref M, .int (N g0), .int (N a0), .int k] [.int (if k < N 1 ∨ N 99 < k then N 0 else N 1)] μ) μ _
      rw [b193_28]
      show ROP M _ μ (if k < N 1 ∨ N 99 < k then (aBAD, σ) else if (lfind k (σ.1.1 g0)).isSome = true then (aSTATE, σ) else if 8 ≤ vN μ (mA M g0) then (aFULL, σ) else (N (vN μ (mA M g0) + 1), stg (chg σ) g0 ((σ.1.1 g0).insertIdx a0 (k, zc [], zc [], zc []))))
      by_cases hk : k < N 1 ∨ N 99 < k
      · rw [if_pos hk, if_pos hk, if_pos (by decide)]
        exact ⟨μ, bad, FR.refl, h⟩
      · rw [if_neg hk, if_neg hk, if_neg (by decide)]
        have pf := r_placeOf (d := d + 2) hq G1 k
        have el : lfind k (rG μ (mA M g0)) = lfind k (σ.1.1 g0) := by rw [G2]; exact lfind_map.symm
        rw [el] at pf
        simp only [gI13, gR13, pI13, pR13, rv13, Option.bind_some, Option.bind_none, if_true, if_false, true_or, or_true, false_or, or_false, true_and, and_true, false_and, and_false, decide_eq_true_eq, decide_true, decide_false, eq_self, not_true_eq_false, not_false_eq_true, jfit0, N_lit, N_add, N_mul, NEG_eq, pl_none, pl_some, rf_some, rf_none, jun_ref, jun_null, ir_ref, ir_null, jr_rf, jun_rf, Option.toList_some, Option.toList_none, List.nil_append, List.cons_append, hq.k13, pf]
        rw [b193_40]
        cases ef : lfind k (σ.1.1 g0) with
        | some p =>
          have hp : p < vN μ (mA M g0) := by
            rw [← G4]
            unfold lfind at ef
            exact (List.findIdx?_eq_some_iff_getElem.mp ef).1
          rw [if_neg (by show ¬ N p = NEG; exact fun q => absurd q (by rw [N_NEG (by omega)]; simp)), if_pos (show (some p).isSome = true from rfl)]
          exact ⟨μ, rfl, FR.refl, h⟩
        | none =>
          rw [if_pos (show pl none = -1 from rfl), if_neg (show ¬ (none : Option Nat).isSome = true by simp)]
          simp only [gI13, gR13, pI13, pR13, rv13, hq.k13, hq.f.1, if_true, Option.bind_some, rf_some, ro]
          by_cases h8 : 8 ≤ vN μ (mA M g0)
          · rw [if_pos h8, if_pos (by show N (vN μ (mA M g0)) = N 8; rw [show vN μ (mA M g0) = 8 by omega])]
            exact ⟨μ, rfl, FR.refl, h⟩
          · rw [if_neg h8, if_neg (by show ¬ N (vN μ (mA M g0)) = N 8; rw [N_inj (by omega) (by decide)]; omega)]
            obtain ⟨μ1, c1, F1, h1⟩ := h.chg (d := d)
            obtain ⟨H1, H2, H3, H4, H5⟩ := h1.gq hg4
            have hv1 : vN μ1 (mA M g0) = vN μ (mA M g0) := by rw [← H4, ← G4]; rfl
            obtain ⟨μ2, kk, c2, F2, H6, e2⟩ := r_opens (d := d) h1.1 H1 (show vN μ1 (mA M g0) < 8 by omega) (show a0 ≤ vN μ1 (mA M g0) by omega)
            have q2 := F2.qs hg4 h1.1
            have hl2 : (rG μ1 (mA M g0)).length = vN μ1 (mA M g0) := len_rG _ _
            have hv2 : vN μ2 (mA M g0) = vN μ1 (mA M g0) + 1 := by
              rw [← len_rG, e2, List.length_insertIdx, if_pos (by omega), hl2]
            obtain ⟨K1, K2⟩ := gq_setK (a := a0) (v := k) H6
            rw [e2, mod_ins (by omega)] at K2
            have FF : FM1 M g0 μ1 (jsetI μ2 (M + 3 + g0) a0 k) := F2.trans (FM1.setK hg4)
            have h2 := h1.grid hg4 FF K1 K2 (fun w hw => by
              rcases (List.mem_insertIdx (by omega)).mp hw with e | e
              · rw [e]; exact ⟨Or.inl ⟨rfl, rfl, rfl⟩, Or.inl ⟨rfl, rfl, rfl⟩, Or.inl ⟨rfl, rfl, rfl⟩⟩
              · exact H3 w e)
            rw [map_insertIdx, ← H2] at h2
            have ks := ent_set (μ := μ2) (i := a0) (v := k) (q2.gk hg4).1.1 (q2.gk hg4).1.2 (by omega) (by decide)
            have ro2 := h2.1.ro hg4
            rw [K1.2.1] at ro2
            have hv3 : vN (jsetI μ2 (M + 3 + g0) a0 k) (mA M g0) = vN μ (mA M g0) + 1 := by
              rw [← len_rG, K2, List.length_insertIdx, if_pos (by omega), hl2, hv1]
            rw [hv3] at ro2
            simp only [gI13, gR13, pI13, pR13, rv13, Option.bind_some, Option.bind_none, if_true, if_false, true_or, or_true, false_or, or_false, true_and, and_true, false_and, and_false, decide_eq_true_eq, decide_true, decide_false, eq_self, not_true_eq_false, not_false_eq_true, jfit0, N_lit, N_add, N_mul, NEG_eq, pl_none, pl_some, rf_some, rf_none, jun_ref, jun_null, ir_ref, ir_null, jr_rf, jun_rf, Option.toList_some, Option.toList_none, List.nil_append, List.cons_append, hq.k13, c1]
            rw [b193_65]
            simp only [gI13, gR13, pI13, pR13, rv13, Option.bind_some, Option.bind_none, if_true, if_false, true_or, or_true, false_or, or_false, true_and, and_true, false_and, and_false, decide_eq_true_eq, decide_true, decide_false, eq_self, not_true_eq_false, not_false_eq_true, jfit0, N_lit, N_add, N_mul, NEG_eq, pl_none, pl_some, rf_some, rf_none, jun_ref, jun_null, ir_ref, ir_null, jr_rf, jun_rf, Option.toList_some, Option.toList_none, List.nil_append, List.cons_append, h1.1.k13, c2]
            rw [b193_71]
            simp only [gI13, gR13, pI13, pR13, rv13, Option.bind_some, Option.bind_none, if_true, if_false, true_or, or_true, false_or, or_false, true_and, and_true, false_and, and_false, decide_eq_true_eq, decide_true, decide_false, eq_self, not_true_eq_false, not_false_eq_true, jfit0, N_lit, N_add, N_mul, NEG_eq, pl_none, pl_some, rf_some, rf_none, jun_ref, jun_null, ir_ref, ir_null, jr_rf, jun_rf, Option.toList_some, Option.toList_none, List.nil_append, List.cons_append, q2.k13, q2.f.1, q2.f.2.1, (q2.gr hg4).1, ks, jk_setI, rv_setI, ro2]
            exact ⟨_, rfl, F1.fr.trans (FF.fr hg4), h2⟩
end LAY
