/-! THE REFERENCE's CALLS: the text of a two, of a cell -/
section LAY
variable {μ μ' ν : jM} {M g n w d i j a t c f p m v b B L a0 t3 b3 : Nat} {s u : List Nat} {σ : SG} {G : DG} {x : Int32 × Int32}
theorem r_elem {u2 u3 : Value} (h : MR μ M σ) (hj : JW μ) (hx : KX μ B) (hg : g < 4) (hK : KK (σ.1.1 g)) (hk : jk μ f = 20) (hl : jl μ f = L) (hL : L < 1000) (hjL : 2 * j + 1 < L) (ho : twOK x) (h0 : jiv μ f (2 * j) = x.1) (h1 : jiv μ f (2 * j + 1) = x.2) : ∃ ν b tb, jR (d + 8) 220 93 [.ref M, .int (N g), u2, u3, .ref f, .int (N (2 * j))] [.ref a0] μ = jR (d + 8) 220 203 [.ref M, .int (N g), u2, u3, .ref f, .int (N (2 * j))] [.ref b, .ref a0] ν ∧ ST ν b tb (prP (σ.1.1 g) x) ∧ Fa (fun _ => False) (fun _ _ => False) 4 35 μ ν := by
  have k13 := h.1.k13
  have a1 := ent_get (μ := μ) (i := 2 * j) hk hl (by omega) hL
  have a2 := ent_get (μ := μ) (i := 2 * j + 1) hk hl (by omega) hL
  rw [h0] at a1
  rw [h1] at a2
  have en : N (2 * j) + 1 = N (2 * j + 1) := by rw [show (1 : Int32) = N 1 from rfl, N_add]
  have nr : ∀ k, rK k → (N k).toNatClampNeg = k := fun k hk => N_nat (by have := rK_lt hk; omega)
  -- a builder, one piece, its text
  have small : ∀ (pc : Nat) (u : List Nat), u.length ≤ 11 → (∀ (μ1 : jM) (t1 : Nat), OB μ 0 0 μ1 (jsz μ) t1 16 [] → ∃ μ2 t2 q, jR (d + 8) 220 pc [.ref M, .int (N g), u2, u3, .ref f, .int (N (2 * j))] [.ref (jsz μ), .ref a0] μ1 = (jC (d + 7) 297 [.ref (jsz μ)] μ2).bind (fun p => jR (d + 8) 220 q [.ref M, .int (N g), u2, u3, .ref f, .int (N (2 * j))] (p.1.toList ++ [.ref a0]) p.2) ∧ OB μ 0 0 μ2 (jsz μ) t2 16 u ∧ ∀ b ν, jR (d + 8) 220 q [.ref M, .int (N g), u2, u3, .ref f, .int (N (2 * j))] [.ref b, .ref a0] ν = jR (d + 8) 220 203 [.ref M, .int (N g), u2, u3, .ref f, .int (N (2 * j))] [.ref b, .ref a0] ν) → ∃ ν b tb, (jC (d + 7) 291 [.ref (jsz μ)] (jnew μ 1 0 4)).bind (fun p => jR (d + 8) 220 pc [.ref M, .int (N g), u2, u3, .ref f, .int (N (2 * j))] (p.1.toList ++ [.ref (jsz μ), .ref a0]) p.2) = jR (d + 8) 220 203 [.ref M, .int (N g), u2, u3, .ref f, .int (N (2 * j))] [.ref b, .ref a0] ν ∧ ST ν b tb u ∧ Fa (fun _ => False) (fun _ _ => False) 4 35 μ ν := by
    intro pc u hu H
    obtain ⟨μ1, t1, c1, o1⟩ := ob_start (d := d + 5) hx.1 hj
    obtain ⟨μ2, t2, q, c2, o2, c4⟩ := H μ1 t1 o1
    obtain ⟨ν, b, tb, c3, s3, F3⟩ := ob_end (d := d + 1) hx.1 o2
    refine ⟨ν, b, tb, ?_, s3, F3.mono (fun _ _ k => k) (fun _ _ _ k => k) (by show 0 + 4 + 0 ≤ 4; omega) (by show 0 + 24 + 80 * 0 + _ ≤ 35; omega)⟩
    simp only [c1, Option.bind_some]
    refine Eq.trans c2 ?_
    simp only [c3, Option.bind_some]
    exact c4 b ν
  rw [b220_93 (h4 := ir_ref) (hs0 := ir_ref)]
  simp only [a1, en, a2, Option.bind_some]
  rcases ho with ⟨v, hv, rfl⟩ | ⟨i, hi, rfl⟩ | ⟨w, hw, rfl⟩ | ⟨c, hc, rfl⟩
  · rw [if_pos (show N 0 = 0 from rfl)]
    have lv : (dec (N v)).length ≤ 11 := dec_le _
    refine small 108 (dec (N v)) lv fun μ1 t1 o1 => ?_
    have hx1 := hx.fa hj o1.1 (fun _ _ => id) (fun _ _ _ => id)
    obtain ⟨b5, tb5, e5, st5⟩ := kx_st (j := 21) hx1 rfl
    obtain ⟨μ2, t2, cap2, c2, o2, k2⟩ := ob_str (d := d + 1) hx.1 o1 st5 (by decide)
    have k2 := k2 (by decide)
    subst k2
    obtain ⟨μ3, t3, cap3, c3, o3, k3⟩ := ob_int (d := d + 2) (x := N v) hx hj o2 (by simp only [List.length_append, List.length_nil]; omega)
    have k3 := k3 (by simp only [List.length_append, List.length_nil]; omega)
    subst k3
    have fl2 : jl μ2 f = L := by rw [o2.1.ll (hj.lt (ne99 hk (by decide)))]; exact hl
    have fk2 : jk μ2 f = 20 := by rw [o2.1.kk (hj.lt (ne99 hk (by decide)))]; exact hk
    have a3 := ent_get (μ := μ2) (i := 2 * j + 1) fk2 fl2 (by omega) hL
    rw [o2.1.iv (hj.lt (ne99 hk (by decide))) id, h1] at a3
    refine ⟨μ3, t3, 127, ?_, o3, fun b ν => b220_127 (h4 := ir_ref) (hs0 := ir_ref) (hs1 := ir_ref) ..⟩
    rw [b220_108 (h4 := ir_ref) (hs0 := ir_ref) (hx := hx1.1), e5]
    simp only [ob_k1 o1, if_true, c2, Option.bind_some]
    show jR (d + 8) 220 114 [.ref M, .int (N g), u2, u3, .ref f, .int (N (2 * j))] [.ref (jsz μ), .ref a0] μ2 = _
    rw [b220_114 (h4 := ir_ref) (hs0 := ir_ref) (hs1 := ir_ref)]
    simp only [en, a3, ob_k1 o2, if_true, c3, Option.bind_some]
    show jR (d + 8) 220 124 [.ref M, .int (N g), u2, u3, .ref f, .int (N (2 * j))] [.ref (jsz μ), .ref a0] μ3 = _
    rw [b220_124 (h4 := ir_ref) (hs0 := ir_ref) (hs1 := ir_ref)]
    simp only [ob_k1 o3, if_true]
  · rw [if_neg (show ¬ N 3 = 0 by decide), if_neg (show ¬ N 3 = 1 by decide), if_neg (show ¬ N 3 = 2 by decide)]
    obtain ⟨ν, b, tb, c1, s1, F1⟩ := r_refText (d := d) h hj hx hg hK hi
    refine ⟨ν, b, tb, ?_, ?_, F1⟩
    · simp only [gI13, gR13, pI13, pR13, rv13, k13, if_true, c1, Option.bind_some]
      rfl
    · show ST ν b tb (tkp (σ.1.1 g) (rT (N i).toNatClampNeg))
      rw [nr i hi]
      exact s1
  · rw [if_neg (show ¬ N 2 = 0 by decide), if_neg (show ¬ N 2 = 1 by decide), if_pos (show N 2 = 2 from rfl)]
    obtain ⟨b, tb, c1, s1⟩ := r_wordOf (d := d + 7) (G := σ.1.1 g) hx hw
    refine ⟨μ, b, tb, ?_, ?_, Fa.refl hj⟩
    · simp only [c1, Option.bind_some]
      show jR (d + 8) 220 188 [.ref M, .int (N g), u2, u3, .ref f, .int (N (2 * j))] [.ref b, .ref a0] μ = _
      rw [b220_188 (h4 := ir_ref) (hs0 := ir_ref) (hs1 := ir_ref)]
    · show ST μ b tb (tkp (σ.1.1 g) (wT (N w).toNatClampNeg, N 0, N 0))
      rw [N_nat (by omega)]
      exact s1
  · rw [if_neg (show ¬ N 1 = 0 by decide), if_pos (show N 1 = 1 from rfl)]
    have ep : prP (σ.1.1 g) (N 1, N c) = [c] := tkp_sign hc
    have hc : c < 128 := by rcases hc with rfl | rfl | rfl | rfl | rfl | rfl <;> decide
    rw [ep]
    refine small 146 [c] (Nat.le_of_ble_eq_true rfl) fun μ1 t1 o1 => ?_
    have hx1 := hx.fa hj o1.1 (fun _ _ => id) (fun _ _ _ => id)
    obtain ⟨b5, tb5, e5, st5⟩ := kx_st (j := 21) hx1 rfl
    obtain ⟨μ2, t2, cap2, c2, o2, k2⟩ := ob_str (d := d + 1) hx.1 o1 st5 (by decide)
    have k2 := k2 (by decide)
    subst k2
    obtain ⟨μ3, t3, cap3, c3, o3, k3⟩ := ob_char (d := d + 2) (c := c) hx.1 o2 hc (by decide)
    have k3 := k3 (by decide)
    subst k3
    have fl2 : jl μ2 f = L := by rw [o2.1.ll (hj.lt (ne99 hk (by decide)))]; exact hl
    have fk2 : jk μ2 f = 20 := by rw [o2.1.kk (hj.lt (ne99 hk (by decide)))]; exact hk
    have a3 := ent_get (μ := μ2) (i := 2 * j + 1) fk2 fl2 (by omega) hL
    rw [o2.1.iv (hj.lt (ne99 hk (by decide))) id, h1] at a3
    refine ⟨μ3, t3, 166, ?_, o3, fun b ν => b220_166 (h4 := ir_ref) (hs0 := ir_ref) (hs1 := ir_ref) ..⟩
    rw [b220_146 (h4 := ir_ref) (hs0 := ir_ref) (hx := hx1.1), e5]
    simp only [ob_k1 o1, if_true, c2, Option.bind_some]
    show jR (d + 8) 220 152 [.ref M, .int (N g), u2, u3, .ref f, .int (N (2 * j))] [.ref (jsz μ), .ref a0] μ2 = _
    rw [b220_152 (h4 := ir_ref) (hs0 := ir_ref) (hs1 := ir_ref)]
    simp only [en, a3, ob_k1 o2, if_true, ch16 hc, c3, Option.bind_some]
    show jR (d + 8) 220 163 [.ref M, .int (N g), u2, u3, .ref f, .int (N (2 * j))] [.ref (jsz μ), .ref a0] μ3 = _
    rw [b220_163 (h4 := ir_ref) (hs0 := ir_ref) (hs1 := ir_ref)]
    simp only [ob_k1 o3, if_true]
/-- one two more -/
theorem tx_step {u2 : Value} (h : MR μ M σ) (hj : JW μ) (hz : M + 424 ≤ jsz μ) (hx : KX μ B) (hg : g < 4) (hK : KK (σ.1.1 g)) (hk : jk μ f = 20) (hl : jl μ f = L) (hL : L < 1000) (hjL : 2 * j + 1 < L) (ho : twOK x) (h0 : jiv μ f (2 * j) = x.1) (h1 : jiv μ f (2 * j + 1) = x.2) (hs : ST μ b3 t3 s) (hm : s.length + (prP (σ.1.1 g) x).length ≤ 40) : ∃ ν b tb, jR (d + 8) 220 74 [.ref M, .int (N g), u2, .ref b3, .ref f, .int (N (2 * j))] [] μ = jR (d + 8) 220 74 [.ref M, .int (N g), u2, .ref b, .ref f, .int (N (2 * (j + 1)))] [] ν ∧ ST ν b tb (s ++ prP (σ.1.1 g) x) ∧ Fa (fun _ => False) (fun _ _ => False) 10 259 μ ν := by
  obtain ⟨μ1, t1, c1, o1⟩ := ob_start (d := d + 5) hx.1 hj
  obtain ⟨μ2, t2, cap2, c2, o2, -⟩ := ob_str (d := d + 1) hx.1 o1 (hs.fa hj o1.1 id id id) (by rw [List.length_nil]; omega)
  have F2 := o2.1
  have j2 := F2.jw
  have h2 := h.outa hj hz F2 (fun a k => k.elim) (fun a j k => k.elim)
  have hx2 := hx.fa hj F2 (fun _ _ => id) (fun _ _ _ => id)
  have fl := hj.lt (ne99 hk (by decide))
  obtain ⟨ν3, b4, tb4, c4, s4, F4⟩ := r_elem (d := d) (u2 := u2) (u3 := .ref b3) (a0 := jsz μ) (x := x) (j := j) h2 j2 hx2 hg hK (by rw [F2.kk fl]; exact hk) (by rw [F2.ll fl]; exact hl) hL hjL ho (by rw [F2.iv fl id]; exact h0) (by rw [F2.iv fl id]; exact h1)
  have o4 := ob_mid o2 F4
  rw [List.nil_append] at o4
  obtain ⟨μ5, t5, cap5, c5, o5, -⟩ := ob_str (d := d + 1) hx.1 o4 s4 hm
  obtain ⟨ν, b, tb, c6, s6, F6⟩ := ob_end (d := d + 1) hx.1 o5
  have al := alen_of (μ := μ) hk (by decide)
  rw [hl] at al
  have g2 : gp cap5 ≤ 2 := gp2
  refine ⟨ν, b, tb, ?_, s6, F6.mono (fun _ _ k => k) (fun _ _ _ k => k) (by omega) (by rw [List.length_append]; omega)⟩
  rw [b220_74 (h3 := ir_ref) (h4 := ir_ref)]
  simp only [al, Option.bind_some]
  rw [if_pos (show N (2 * j) < N L by rw [N_lt (by omega) (by omega)]; omega)]
  simp only [c1, Option.bind_some]
  show jR (d + 8) 220 89 [.ref M, .int (N g), u2, .ref b3, .ref f, .int (N (2 * j))] [.ref (jsz μ)] μ1 = _
  rw [b220_89 (h3 := ir_ref) (h4 := ir_ref)]
  simp only [ob_k1 o1, if_true, c2, Option.bind_some]
  refine c4.trans ?_
  rw [b220_203 (h4 := ir_ref) (hs0 := ir_ref) (hs1 := ir_ref)]
  simp only [ob_k1 o4, if_true, c5, Option.bind_some]
  show jR (d + 8) 220 206 [.ref M, .int (N g), u2, .ref b3, .ref f, .int (N (2 * j))] [.ref (jsz μ)] μ5 = _
  rw [b220_206 (h4 := ir_ref) (hs0 := ir_ref)]
  simp only [ob_k1 o5, if_true, c6, Option.bind_some]
  show jR (d + 8) 220 209 [.ref M, .int (N g), u2, .ref b3, .ref f, .int (N (2 * j))] [.ref b] ν = _
  rw [b220_209 (h4 := ir_ref) (hs0 := ir_ref), show N (2 * j) + 2 = N (2 * (j + 1)) by rw [show (2 : Int32) = N 2 from rfl, N_add]; exact congrArg N (by omega)]
end LAY
