/-! THE REFERENCE's CALLS: print -/
section LAY
variable {μ μ' ν : jM} {M g n w d i j a t c f p m v b B L a0 t3 b3 : Nat} {s u : List Nat} {σ : SG} {G : DG} {x : Int32 × Int32} {e : Ex}
theorem fm_wsum (hG : G.length ≤ 8) (hz : KZ G) : ∀ (T : List Tk), (∀ t, t ∈ T → tkOK t) → (T.flatMap (tkp G)).length ≤ wsum T
  | [], _ => Nat.le_refl _
  | t :: T, h => by
    have i := fm_wsum hG hz T (fun t ht => h t (List.mem_cons_of_mem _ ht))
    have k := (tkp_w hG hz (h t (List.mem_cons_self ..))).1
    rw [List.flatMap_cons, List.length_append]
    show _ ≤ tw t + wsum T
    omega
theorem tx_loop {u2 : Value} (h : MR μ M σ) (hj : JW μ) (hz : M + 424 ≤ jsz μ) (hx : KX μ B) (hg : g < 4) (hK : KK (σ.1.1 g)) (hf : MFS μ (M + 424) f e) : ∀ (r l : List (Int32 × Int32)) (ν : jM) (b3 t3 : Nat), encE e = l ++ r → Fa (fun _ => False) (fun _ _ => False) (10 * l.length) (259 * l.length) μ ν → ST ν b3 t3 (61 :: l.flatMap (prP (σ.1.1 g))) → ∃ ν' b tb, jR (d + 8) 220 74 [.ref M, .int (N g), u2, .ref b3, .ref f, .int (N (2 * l.length))] [] ν = some (some (.ref b), ν') ∧ ST ν' b tb (61 :: (encE e).flatMap (prP (σ.1.1 g))) ∧ Fa (fun _ => False) (fun _ _ => False) (10 * (encE e).length) (259 * (encE e).length) μ ν' := by
  obtain ⟨f1, f2, f3, f4, f5, f6, f7, f8⟩ := id hf
  have lt := Nat.le_trans (len_tw (tks e)) f6
  have le := len_encE e
  have tot : ((encE e).flatMap (prP (σ.1.1 g))).length ≤ 39 := by
    rw [← dcT_pr (σ.1.1 g) (encE e) false, dc_e f3]
    exact Nat.le_trans (fm_wsum (h.l8 g hg) hK.kz _ (tks_ok e 2 f3)) f6
  have fl := hj.lt (ne99 f1 (by decide))
  intro r
  induction r with
  | nil =>
    intro l ν b3 t3 hl F hs
    rw [List.append_nil] at hl
    rw [hl]
    refine ⟨ν, b3, t3, ?_, hs, F⟩
    have kf : jk ν f = 20 := by rw [F.kk fl]; exact f1
    have al := alen_of (μ := ν) kf (by decide)
    rw [F.ll fl, f7, ← le, hl] at al
    rw [b220_74 (h3 := ir_ref) (h4 := ir_ref)]
    simp only [al, Option.bind_some]
    rw [if_neg (by rw [N_lt (by rw [← hl, le]; omega) (by rw [← hl, le]; omega)]; omega)]
  | cons x r ih =>
    intro l ν b3 t3 hl F hs
    have h1 := h.outa hj hz F (fun a k => k.elim) (fun a j k => k.elim)
    have hx1 := hx.fa hj F (fun _ _ => id) (fun _ _ _ => id)
    have ll : l.length < (encE e).length := by rw [hl]; simp only [List.length_append, List.length_cons]; omega
    have gx : (encE e)[l.length]? = some x := by rw [hl, List.getElem?_append_right (Nat.le_refl _), Nat.sub_self]; rfl
    have gp : (encE e)[l.length]? = some (jiv μ f (2 * l.length), jiv μ f (2 * l.length + 1)) := by
      rw [← f8]
      unfold prs2
      rw [List.getElem?_map, List.getElem?_range (by omega)]
      rfl
    rw [gx] at gp
    have ex : x = (jiv μ f (2 * l.length), jiv μ f (2 * l.length + 1)) := Option.some.inj gp
    have mt : (l.flatMap (prP (σ.1.1 g))).length + (prP (σ.1.1 g) x).length ≤ 39 := by
      rw [hl, List.flatMap_append, List.flatMap_cons] at tot
      simp only [List.length_append] at tot
      omega
    obtain ⟨ν1, b1, t1, c1, s1, F1⟩ := tx_step (d := d) (u2 := u2) (j := l.length) (x := x) (L := 2 * (tks e).length) h1 F.jw (Nat.le_trans hz F.2.1.1) hx1 hg hK (by rw [F.kk fl]; exact f1) (by rw [F.ll fl]; exact f7) (by omega) (by omega) (enc_tw e 2 f3 x (List.mem_of_getElem? gx)) (by rw [F.iv fl id, ex]) (by rw [F.iv fl id, ex]) hs (by rw [List.length_cons]; omega)
    have F2 := (F.trans F1 (fun _ _ k => k) (fun _ _ _ k => k)).mono (n := 10 * l.length + 10) (w := 259 * l.length + 259) (m := 10 * (l ++ [x]).length) (v := 259 * (l ++ [x]).length) (fun _ _ k => k) (fun _ _ _ k => k) (by rw [List.length_append]; show _ ≤ 10 * (l.length + 1); omega) (by rw [List.length_append]; show _ ≤ 259 * (l.length + 1); omega)
    obtain ⟨ν', b, tb, c2, s2, F3⟩ := ih (l ++ [x]) ν1 b1 t1 (by rw [hl, List.append_assoc]; rfl) F2 (by
      rw [List.flatMap_append, List.flatMap_cons, List.flatMap_nil, List.append_nil]
      exact s1)
    refine ⟨ν', b, tb, ?_, s2, F3⟩
    rw [c1]
    rw [List.length_append] at c2
    exact c2
theorem r_textOf (h : MR μ M σ) (hj : JW μ) (hz : M + 424 ≤ jsz μ) (hx : KX μ B) (hg : g < 4) (hK : KK (σ.1.1 g)) (hi : i < (σ.1.1 g).length) (hc : c < 3) : ∃ ν b tb, jC (d + 8) 220 [.ref M, .int (N g), .int (N (i * 3 + c))] μ = some (some (.ref b), ν) ∧ ST ν b tb (celp (σ.1.1 g) (cO [] (σ.1.1 g) (some i) c)) ∧ Fa (fun _ => False) (fun _ _ => False) 390 10101 μ ν := by
  have hq := h.1
  have k13 := hq.k13
  obtain ⟨i8, ce, cm⟩ := h.cell hg hc hi
  have gg := hq.gk hg
  have gr := hq.gr hg
  have e1 := ent_get (μ := μ) (i := i * 3 + c) gg.2.1.1 gg.2.1.2 (by omega) (by decide)
  have e2 := ent_get (μ := μ) (i := i * 3 + c) gg.2.2.1.1 gg.2.2.1.2 (by omega) (by decide)
  have e3 := refGet' (μ := μ) (i := i * 3 + c) (by rw [gg.2.2.2.2.1.1]; decide) gg.2.2.2.2.1.2 (by omega) (by decide)
  have q0 : jiv μ (M + 8 + g) (i * 3 + c) = (rc μ (mA M g) (i * 3 + c)).1 := rfl
  have q1 : jiv μ (M + 13 + g) (i * 3 + c) = (rc μ (mA M g) (i * 3 + c)).2.1 := rfl
  have q2 : jrv μ (M + 23 + g) (i * 3 + c) = (rc μ (mA M g) (i * 3 + c)).2.2.1 := rfl
  rw [q0] at e1
  rw [q1] at e2
  rw [q2] at e3
  rw [ce]
  have st : jC (d + 8) 220 [.ref M, .int (N g), .int (N (i * 3 + c))] μ = jR (d + 8) 220 0 [.ref M, .int (N g), .int (N (i * 3 + c)), .retAddr 0, .retAddr 0, .retAddr 0] [] μ := by
    rw [jC_run (by decide)]; rfl
  rw [st, b220_0 (hx := hx.1)]
  generalize rc μ (mA M g) (i * 3 + c) = x at *
  obtain ⟨x1, x2, x3, x4⟩ := x
  simp only [gI13, gR13, pI13, pR13, rv13, k13, if_true, Option.bind_some, rf_some, hq.f.2.2.1, gr.2.1, e1]
  rcases cm with ⟨m1, m2, m3⟩ | ⟨m1, m3⟩ | ⟨m1, m2, f, e, m3, m4⟩
  · have m1 : x1 = N 0 := m1
    subst m1
    rw [if_neg (show ¬ N 0 = 2 by decide), if_pos (show N 0 = 0 from rfl)]
    obtain ⟨b, tb, k1, k2⟩ := kx_st (j := 21) hx rfl
    refine ⟨μ, b, tb, ?_, k2, Fa.refl hj⟩
    rw [k1, b220_56 (hs0 := ir_ref)]
  · have m1 : x1 = N 1 := m1
    subst m1
    rw [if_neg (show ¬ N 1 = 2 by decide), if_neg (show ¬ N 1 = 0 by decide)]
    obtain ⟨μ1, t1, c1, o1⟩ := ob_start (d := d + 5) hx.1 hj
    have hx1 := hx.fa hj o1.1 (fun _ _ => id) (fun _ _ _ => id)
    obtain ⟨b5, tb5, e5, st5⟩ := kx_st (j := 21) hx1 rfl
    obtain ⟨μ2, t2, cap2, c2, o2, k2⟩ := ob_str (d := d + 1) hx.1 o1 st5 (by decide)
    have k2 := k2 (by decide)
    subst k2
    have lv : (dec x2).length ≤ 11 := dec_le _
    obtain ⟨μ3, t3, cap3, c3, o3, k3⟩ := ob_int (d := d + 2) (x := x2) hx hj o2 (by simp only [List.length_append, List.length_nil]; omega)
    have k3 := k3 (by simp only [List.length_append, List.length_nil]; omega)
    subst k3
    obtain ⟨ν, b, tb, c4, s4, F4⟩ := ob_end (d := d + 1) hx.1 o3
    have h2 := h.outa hj hz o2.1 (fun a k => k.elim) (fun a j k => k.elim)
    have gr2 := h2.1.gr hg
    have gg2 := h2.1.gk hg
    have e22 := ent_get (μ := μ2) (i := i * 3 + c) gg2.2.2.1.1 gg2.2.2.1.2 (by omega) (by decide)
    rw [o2.1.iv (show M + 13 + g < jsz μ by omega) id, q1] at e22
    refine ⟨ν, b, tb, ?_, s4, F4.mono (fun _ _ k => k) (fun _ _ _ k => k) (by show 0 + 4 + 0 ≤ 390; omega) (by show 0 + 24 + 80 * 0 + _ ≤ 10101; rw [List.nil_append, List.nil_append]; omega)⟩
    simp only [c1, Option.bind_some]
    show jR (d + 8) 220 36 [.ref M, .int (N g), .int (N (i * 3 + c)), .retAddr 0, .retAddr 0, .retAddr 0] [.ref (jsz μ)] μ1 = _
    rw [b220_36 (hx := hx1.1), e5]
    simp only [ob_k1 o1, if_true, c2, Option.bind_some]
    show jR (d + 8) 220 42 [.ref M, .int (N g), .int (N (i * 3 + c)), .retAddr 0, .retAddr 0, .retAddr 0] [.ref (jsz μ)] μ2 = _
    rw [b220_42 (hs0 := ir_ref)]
    simp only [gI13, gR13, pI13, pR13, rv13, h2.1.k13, if_true, Option.bind_some, rf_some, h2.1.f.2.2.2.1, gr2.2.2.1, e22, ob_k1 o2, c3]
    show jR (d + 8) 220 53 [.ref M, .int (N g), .int (N (i * 3 + c)), .retAddr 0, .retAddr 0, .retAddr 0] [.ref (jsz μ)] μ3 = _
    rw [b220_53 (hs0 := ir_ref)]
    simp only [ob_k1 o3, if_true, c4, Option.bind_some]
    show jR (d + 8) 220 56 [.ref M, .int (N g), .int (N (i * 3 + c)), .retAddr 0, .retAddr 0, .retAddr 0] [.ref b] ν = _
    rw [b220_56 (hs0 := ir_ref)]
  · have m1 : x1 = N 2 := m1
    have m3 : x3 = some f := m3
    subst m1
    subst m3
    rw [if_pos (show N 2 = 2 from rfl)]
    obtain ⟨b3, t3, k1, k2⟩ := kx_st (j := 22) hx rfl
    obtain ⟨ν, b, tb, c1, s1, F1⟩ := tx_loop (d := d) (u2 := .int (N (i * 3 + c))) h hj hz hx hg hK m4 (encE e) [] μ b3 t3 rfl (Fa.refl hj) k2
    have le : (encE e).length ≤ 39 := by
      rw [len_encE e]
      exact Nat.le_trans (len_tw (tks e)) m4.2.2.2.2.2.1
    refine ⟨ν, b, tb, ?_, ?_, F1.mono (fun _ _ k => k) (fun _ _ _ k => k) (by omega) (by omega)⟩
    · simp only [Option.bind_some, rf_some, hq.f.2.2.2.2.2, gr.2.2.2.2.1, e3]
      rw [k1]
      exact c1
    · have ec : celp (σ.1.1 g) (rcm (mF μ) (N 2, x2, some f, x4)) = 61 :: (mF μ (some f)).flatMap (tkp (σ.1.1 g)) := rfl
      rw [ec, m4.tk, ← dc_e m4.2.2.1, dcT_pr]
      exact s1
theorem p_print (h : MR μ M σ) (hj : JW μ) (hz : M + 424 ≤ jsz μ) (hx : KX μ B) (hK : ∀ g, g < 4 → KK (σ.1.1 g)) (g r c k : Int32) : ROPa M 390 10101 (jC (d + 9) 219 [.ref M, .int g, .int r, .int c, .int k] μ) μ (o_print σ g r c k) := by
  have hq := h.1
  have k13 := hq.k13
  have ic := r_isCell (d := d + 6) h g r c
  have st : jC (d + 9) 219 [.ref M, .int g, .int r, .int c, .int k] μ = jR (d + 9) 219 7 [.ref M, .int g, .int r, .int c, .int k, .retAddr 0] [.int (okI (cix σ 4 g r c))] μ := by
    rw [jC_run (by decide)]
    show jR (d + 9) 219 0 [.ref M, .int g, .int r, .int c, .int k, .retAddr 0] [] μ = _
    rw [b219_0]
    simp only [gI13, gR13, pI13, pR13, rv13, k13, ic, if_true, Option.bind_some]
    rfl
  rw [st, b219_7]
  unfold o_print
  cases eq : cix σ 4 g r c with
  | none =>
    rw [if_pos (by rw [okI_0])]
    exact ⟨μ, rfl, Fa.refl hj, h⟩
  | some q =>
    obtain ⟨rfl, rfl, rfl, hg, hr, hc⟩ := cell4 h.l8 eq
    obtain ⟨g, r, c⟩ := q
    have hg : g < 4 := hg
    have hr : r < (σ.1.1 g).length := hr
    have hc : c < 3 := hc
    rw [if_neg (by rw [okI_0]; simp)]
    have ex : (3 : Int32) * N r + N c = N (r * 3 + c) := by rw [show (3 : Int32) = N 3 from rfl, N_mul, N_add, Nat.mul_comm 3]
    obtain ⟨ν, b, tb, c1, s1, F1⟩ := r_textOf (d := d) h hj hz hx hg (hK g hg) hr hc
    have h1 := h.outa hj hz F1 (fun a k => k.elim) (fun a j k => k.elim)
    have hx1 := hx.fa hj F1 (fun _ _ => id) (fun _ _ _ => id)
    have F2 : FRa M 390 10101 μ ν := Fa.mono F1 (fun _ _ k => k.elim) (fun _ _ _ k => k.elim) (Nat.le_refl _) (Nat.le_refl _)
    show ROPa M 390 10101 _ μ (if k = NEG then (N (celp (σ.1.1 g) (cO [] (σ.1.1 g) (some r) c)).length, σ) else (((ix (celp (σ.1.1 g) (cO [] (σ.1.1 g) (some r) c)).length k).bind fun i => (celp (σ.1.1 g) (cO [] (σ.1.1 g) (some r) c))[i]?.map N).getD aOUT, σ))
    generalize celp (σ.1.1 g) (cO [] (σ.1.1 g) (some r) c) = t at *
    have tl : t.length < 1000 := s1.2.2.2.2.2.1
    have le := st_length (d := d + 7) hx1.1 s1
    have pre : jR (d + 9) 219 7 [.ref M, .int (N g), .int (N r), .int (N c), .int k, .retAddr 0] [.int (okI (some (g, r, c)))] μ = jR (d + 9) 219 23 [.ref M, .int (N g), .int (N r), .int (N c), .int k, .retAddr 0] [.ref b] ν := by
      rw [b219_7, if_neg (by rw [okI_0]; simp), ex]
      simp only [gI13, gR13, pI13, pR13, rv13, k13, if_true, c1, Option.bind_some]
      rfl
    by_cases e1 : k = NEG
    · rw [if_pos e1]
      refine ⟨ν, ?_, F2, h1⟩
      simp only [gI13, gR13, pI13, pR13, rv13, k13, if_true, ex, c1, Option.bind_some]
      show jR (d + 9) 219 23 [.ref M, .int (N g), .int (N r), .int (N c), .int k, .retAddr 0] [.ref b] ν = _
      rw [b219_23 (hs0 := ir_ref), if_pos (show k = -1 from e1)]
      simp only [rv0' s1.1, if_true, le, Option.bind_some]
      show jR (d + 9) 219 36 [.ref M, .int (N g), .int (N r), .int (N c), .int k, .ref b] [.int (N t.length)] ν = _
      rw [b219_36]
    · rw [if_neg e1]
      refine ⟨ν, ?_, F2, h1⟩
      simp only [gI13, gR13, pI13, pR13, rv13, k13, if_true, ex, c1, Option.bind_some]
      show jR (d + 9) 219 23 [.ref M, .int (N g), .int (N r), .int (N c), .int k, .retAddr 0] [.ref b] ν = _
      rw [b219_23 (hs0 := ir_ref), if_neg (show ¬ k = -1 from e1)]
      simp only [rv0' s1.1, if_true, le, Option.bind_some]
      show jR (d + 9) 219 45 [.ref M, .int (N g), .int (N r), .int (N c), .int k, .ref b] [.int (N t.length), .int 0, .int k] ν = _
      rw [b219_45 (h5 := ir_ref), r_btw]
      show jR (d + 9) 219 50 [.ref M, .int (N g), .int (N r), .int (N c), .int k, .ref b] [.int (if k < N 0 ∨ N t.length - N 1 < k then N 0 else N 1)] ν = some (some (.int (((ix t.length k).bind fun i => t[i]?.map N).getD aOUT)), ν)
      rw [b219_50 (h5 := ir_ref), ix_cases]
      by_cases e2 : k < N 0
      · rw [if_pos (Or.inl e2), if_pos (show N 0 = 0 from rfl), if_pos e2, b219_65]
        rfl
      · obtain ⟨m, hm, rfl⟩ := N_of e2
        have et : (N t.length - N 1 < N m) = ¬ m < t.length := by
          by_cases e0 : t.length = 0
          · rw [e0, show N 0 - N 1 = NEG from rfl]
            have : NEG < N m := by rw [Int32.lt_iff_toInt_lt, N_toInt hm]; show (-1 : Int) < m; omega
            simp only [this, Nat.not_lt_zero, not_false_eq_true]
          · rw [N_sub (by omega), N_lt (by omega) hm]
            exact propext ⟨fun h => by omega, fun h => by omega⟩
        rw [if_neg e2]
        simp only [e2, et, false_or, N_lt hm (show t.length < 2147483648 by omega)]
        by_cases e3 : m < t.length
        · have hgt : t[m]? = some t[m] := List.getElem?_eq_getElem e3
          have c3 := st_charAt (d := d + 5) hx1.1 s1 hgt
          rw [if_pos e3, if_neg (show ¬ ¬ m < t.length from fun q => q e3), if_neg (show ¬ N 1 = 0 by decide)]
          simp only [rv0' s1.1, if_true, c3, Option.bind_some, N_nat hm, hgt, Option.map_some, Option.getD_some]
          show jR (d + 9) 219 60 [.ref M, .int (N g), .int (N r), .int (N c), .int (N m), .ref b] [.int (N t[m])] ν = _
          rw [b219_60, b219_65]
        · rw [if_neg e3, if_pos (show ¬ m < t.length from e3), if_pos (show N 0 = 0 from rfl), b219_65]
          rfl
end LAY
