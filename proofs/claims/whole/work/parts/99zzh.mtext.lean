/-! THE REFERENCE's CALLS: the text of a ref, of a two -/
section LAY
variable {μ μ' ν : jM} {M g n w d i j a t c f p m v b B L : Nat} {s : List Nat} {σ : SG} {G : DG} {x : Int32 × Int32}
theorem tkp_ref (hi : i < 1000) : tkp G (rT i) = match lfind (N (i / 8)) G with
    | none => [35]
    | some p => (if i % 2 = 1 then [36] else []) ++ (97 + i / 2 % 4) :: dec (N (p + 1)) := by
  have e2 : (rT i).2.2 = N (i / 8) := rfl
  have e3 : (rT i).2.1 = N (i / 2 % 4) := rfl
  have e48 : ¬ (rT i).1 = N 48 := by
    rcases rT_fst (i := i) with e | e
    · rw [e]; decide
    · rw [e]; decide
  unfold tkp
  rw [if_neg e48, if_pos rT_fst, e2, e3, N_nat (by omega)]
  by_cases e4 : i % 2 = 1
  · rw [if_pos e4, if_pos (show (rT i).1 = N 115 from if_pos e4)]
    cases lfind (N (i / 8)) G <;> rfl
  · rw [if_neg e4, if_neg (show ¬ (rT i).1 = N 115 by rw [show (rT i).1 = N 114 from if_neg e4]; decide)]
    cases lfind (N (i / 8)) G <;> rfl
theorem tkp_sign (hc : c = 40 ∨ c = 41 ∨ c = 42 ∨ c = 43 ∨ c = 45 ∨ c = 58) : tkp G (N c, N 0, N 0) = [c] := by
  rcases hc with rfl | rfl | rfl | rfl | rfl | rfl <;> rfl
theorem N_low {k : Nat} (hi : i < 1000) (h0 : 0 < k) (hk : k < 1000) : N i - N i / N k * N k = N (i % k) := by
  have e : i / k * k ≤ i := Nat.div_mul_le_self i k
  rw [N_div hi h0 hk, N_mul, N_sub e]
  have := Nat.div_add_mod i k
  rw [Nat.mul_comm] at this
  exact congrArg N (by omega)
theorem r_refText (h : MR μ M σ) (hj : JW μ) (hx : KX μ B) (hg : g < 4) (hK : KK (σ.1.1 g)) (hr : rK i) : ∃ ν b tb, jC (d + 7) 221 [.ref M, .int (N g), .int (N i)] μ = some (some (.ref b), ν) ∧ ST ν b tb (tkp (σ.1.1 g) (rT i)) ∧ Fa (fun _ => False) (fun _ _ => False) 4 35 μ ν := by
  have hi : i < 1000 := rK_lt hr
  have k13 := h.1.k13
  have st : jC (d + 7) 221 [.ref M, .int (N g), .int (N i)] μ = jR (d + 7) 221 17 [.ref M, .int (N g), .int (N i), .retAddr 0, .retAddr 0] [.int (pl (lfind (N (i / 8)) (σ.1.1 g)))] μ := by
    have p := h.place (d := d + 6) hg (N (i / 8))
    rw [jC_run (by decide)]
    show jR (d + 7) 221 0 [.ref M, .int (N g), .int (N i), .retAddr 0, .retAddr 0] [] μ = _
    rw [b221_0]
    by_cases h0 : i = 0
    · subst h0
      rw [if_pos (show N 0 = 0 from rfl), show lfind (N (0 / 8)) (σ.1.1 g) = none from lfind_0 hK.kz]
      rfl
    · rw [if_neg (show ¬ N i = 0 by show ¬ N i = N 0; rw [N_inj (by omega) (by decide)]; exact h0)]
      rw [show N i / 8 = N (i / 8) from N_div (k := 8) hi (by decide) (by decide)]
      simp only [gI13, gR13, pI13, pR13, rv13, k13, if_true, p, Option.bind_some]
      rfl
  have g8 : (σ.1.1 g).length ≤ 8 := h.l8 g hg
  rw [st, tkp_ref hi, b221_17 (hx := hx.1)]
  cases e : lfind (N (i / 8)) (σ.1.1 g) with
  | none =>
    rw [if_pos (show pl none = -1 from rfl)]
    obtain ⟨b, tb, e1, e2⟩ := kx_st (j := 24) hx rfl
    refine ⟨μ, b, tb, ?_, e2, Fa.refl hj⟩
    rw [e1, b221_83 (hs0 := ir_ref)]
  | some p =>
    have hp : p < (σ.1.1 g).length := lfind_lt e
    rw [if_neg (show ¬ pl (some p) = -1 from N_neg1 (by omega))]
    obtain ⟨μ1, t1, c1, o1⟩ := ob_start (d := d + 4) hx.1 hj
    obtain ⟨b3, tb3, e3, st3⟩ := kx_st (j := 23) hx rfl
    have hx1 := hx.fa hj o1.1 (fun _ _ => id) (fun _ _ _ => id)
    simp only [c1, Option.bind_some]
    show ∃ ν b tb, jR (d + 7) 221 41 [.ref M, .int (N g), .int (N i), .int (pl (some p)), jext μ 23] [.ref (jsz μ)] μ1 = _ ∧ _
    rw [e3, b221_41 (h4 := ir_ref) (hx := hx1.1), show N i - N i / 2 * 2 = N (i % 2) from N_low (k := 2) hi (by decide) (by decide)]
    have fin : ∀ (j : Nat) (u : List Nat), kw j = some u → u.length ≤ 1 → ∃ ν b tb, jR (d + 7) 221 57 [.ref M, .int (N g), .int (N i), .int (pl (some p)), .ref b3] [jext μ1 j, .ref (jsz μ)] μ1 = some (some (.ref b), ν) ∧ ST ν b tb (u ++ (97 + i / 2 % 4) :: dec (N (p + 1))) ∧ Fa (fun _ => False) (fun _ _ => False) 4 35 μ ν := by
      intro j u hu hl
      obtain ⟨b5, tb5, e5, st5⟩ := kx_st hx1 hu
      obtain ⟨μ2, t2, cap2, c2, o2, k2⟩ := ob_str (d := d) hx.1 o1 st5 (by rw [List.length_nil]; omega)
      have k2 := k2 (by rw [List.length_nil]; omega)
      subst k2
      have hx2 := hx.fa hj o2.1 (fun _ _ => id) (fun _ _ _ => id)
      have st32 := st3.fa hj o2.1 id id id
      have i3 : i / 2 % 4 < 3 := hr.2.1
      have hch : ([97, 98, 99] : List Nat)[i / 2 % 4]? = some (97 + i / 2 % 4) := by
        rcases (show i / 2 % 4 = 0 ∨ i / 2 % 4 = 1 ∨ i / 2 % 4 = 2 by omega) with e | e | e <;> rw [e] <;> rfl
      have c3 := st_charAt (d := d + 3) hx2.1 st32 hch
      obtain ⟨μ4, t4, cap4, c4, o4, k4⟩ := ob_char (d := d + 1) (c := 97 + i / 2 % 4) hx.1 o2 (by omega) (by rw [List.nil_append]; omega)
      have k4 := k4 (by rw [List.nil_append]; omega)
      subst k4
      have dl : (dec (N (p + 1))).length = 1 := by rw [dec_1 (by omega)]; rfl
      obtain ⟨μ5, t5, cap5, c5, o5, k5⟩ := ob_int (d := d + 1) (x := N (p + 1)) hx hj o4 (by simp only [List.length_append, List.length_nil, List.length_cons]; omega)
      have k5 := k5 (by simp only [List.length_append, List.length_nil, List.length_cons]; omega)
      subst k5
      obtain ⟨ν, b, tb, c6, s6, F6⟩ := ob_end (d := d) hx.1 o5
      have ec : (N i - N i / 8 * 8) / 2 = N (i / 2 % 4) := by
        rw [show N i - N i / 8 * 8 = N (i % 8) from N_low (k := 8) hi (by decide) (by decide), show N (i % 8) / 2 = N (i % 8 / 2) from N_div (k := 2) (by omega) (by decide) (by decide)]
        exact congrArg N (by omega)
      have ep : pl (some p) + 1 = N (p + 1) := by
        show N p + N 1 = _
        rw [N_add]
      refine ⟨ν, b, tb, ?_, ?_, F6.mono (fun _ _ k => k) (fun _ _ _ k => k) (by show 0 + 4 + 0 ≤ 4; omega) ?_⟩
      · rw [e5, b221_57 (h4 := ir_ref) (hs1 := ir_ref)]
        simp only [ob_k1 o1, if_true, c2, Option.bind_some]
        show jR (d + 7) 221 60 [.ref M, .int (N g), .int (N i), .int (pl (some p)), .ref b3] [.ref (jsz μ)] μ2 = _
        rw [b221_60 (h4 := ir_ref) (hs0 := ir_ref), ec]
        simp only [rv0' st32.1, if_true, c3, Option.bind_some]
        show jR (d + 7) 221 71 [.ref M, .int (N g), .int (N i), .int (pl (some p)), .ref b3] [.int (N (97 + i / 2 % 4)), .ref (jsz μ)] μ2 = _
        rw [b221_71 (hs0 := ir_ref)]
        simp only [ob_k1 o2, if_true, c4, Option.bind_some]
        show jR (d + 7) 221 74 [.ref M, .int (N g), .int (N i), .int (pl (some p)), .ref b3] [.ref (jsz μ)] μ4 = _
        rw [b221_74 (hs0 := ir_ref), ep]
        simp only [ob_k1 o4, if_true, c5, Option.bind_some]
        show jR (d + 7) 221 80 [.ref M, .int (N g), .int (N i), .int (pl (some p)), .ref b3] [.ref (jsz μ)] μ5 = _
        rw [b221_80 (hs0 := ir_ref)]
        simp only [ob_k1 o5, if_true, c6, Option.bind_some]
        show jR (d + 7) 221 83 [.ref M, .int (N g), .int (N i), .int (pl (some p)), .ref b3] [.ref b] ν = _
        rw [b221_83 (hs0 := ir_ref)]
      · rw [List.nil_append, List.append_assoc] at s6
        exact s6
      · show 0 + 24 + 80 * 0 + _ ≤ 35
        simp only [List.length_append, List.length_nil, List.length_cons]
        omega
    by_cases e4 : i % 2 = 1
    · rw [if_pos (show N (i % 2) = 1 by rw [e4]; rfl)]
      simp only [if_pos e4]
      exact fin 25 _ rfl (by decide)
    · rw [if_neg (show ¬ N (i % 2) = 1 by show ¬ N (i % 2) = N 1; rw [N_inj (by omega) (by decide)]; exact e4)]
      simp only [if_neg e4]
      exact fin 21 _ rfl (by decide)
end LAY
