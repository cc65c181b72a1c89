/-! THE REFERENCE's CALLS: fill, the rows -/
section LAY
variable {μ μ' μ'' ν : jM} {M g h t s n w d D i j k x y a b c f q p m v : Nat} {A B C : GA} {σ : SG} {G : DG} {e : Ex}
theorem putg_ct {x : RC (Option Nat)} {v : Int32 × Int32 × List Tk} (hq : QS μ M) (h : CT μ M x v) (hg : g < 4) (hy : y < 24) : jC d 192 [.ref M, .int (N g), .int (N y), .int x.1, .int x.2.1, va_rf x.2.2.1] μ = some (none, putC μ (mA M g) y x.1 x.2.1 x.2.2.1) := by
  obtain ⟨a1, a2, a3⟩ := mco_put h.1
  have := r_put (d := d) (g := g) (kd := x.1) (nm := x.2.1) (f := x.2.2.1) hq hg hy a3
  rw [a1, a2] at this
  exact this
/-- one row filled -/
theorem fill_step {u2 u3 u4 : Value} (h : MR μ M σ) (hj : JW μ) (hz : M + 424 ≤ jsz μ) (hg : g < 4) (hK : KK (σ.1.1 g)) (hc : c < 3) (hr : i + k < (σ.1.1 g).length) (hk : 1 ≤ k) (hkm : k ≤ m) (hm : m < 8) : ∃ μ', jR (d + 2) 204 62 [.ref M, .int (N g), u2, u3, u4, .int (N m), .int (N (i * 3 + c)), .int (N k)] [] μ = jR (d + 2) 204 62 [.ref M, .int (N g), u2, u3, u4, .int (N m), .int (N (i * 3 + c)), .int (N (k + 1))] [] μ' ∧ FRa M 1 78 μ μ' ∧ MR μ' M (stg σ g (lset (σ.1.1 g) (some (i + k)) c fun w => ((cO [] (σ.1.1 g) (some i) c).1, (cO [] (σ.1.1 g) (some i) c).2.1, (cO [] (σ.1.1 g) (some i) c).2.2.1.map (lowT (σ.1.1 g) k), w.2.2.2))) := by
  have hq := h.1
  have k13 := hq.k13
  obtain ⟨i8, ce, cm⟩ := h.cell hg hc (show i < (σ.1.1 g).length by omega)
  obtain ⟨H1, H2, H3, H4, H5⟩ := h.gq hg
  rw [ce]
  have gg := hq.gk hg
  have gr := hq.gr hg
  have e1 := ent_get (μ := μ) (i := i * 3 + c) gg.2.1.1 gg.2.1.2 (by omega) (by decide)
  have e2 := ent_get (μ := μ) (i := i * 3 + c) gg.2.2.1.1 gg.2.2.1.2 (by omega) (by decide)
  have e3 := refGet' (μ := μ) (i := i * 3 + c) (by rw [gg.2.2.2.2.1.1]; decide) gg.2.2.2.2.1.2 (by omega) (by decide)
  have ey : N (i * 3 + c) + (3 : Int32) * N k = N ((i + k) * 3 + c) := by
    rw [show (3 : Int32) = N 3 from rfl, N_mul, N_add]
    exact congrArg N (by omega)
  have nlt : ¬ N m < N k := by rw [N_lt (by omega) (by omega)]; omega
  have en : N k + 1 = N (k + 1) := by rw [show (1 : Int32) = N 1 from rfl, N_add]
  have q0 : jiv μ (M + 8 + g) (i * 3 + c) = (rc μ (mA M g) (i * 3 + c)).1 := rfl
  have q1 : jiv μ (M + 13 + g) (i * 3 + c) = (rc μ (mA M g) (i * 3 + c)).2.1 := rfl
  have q2 : jrv μ (M + 23 + g) (i * 3 + c) = (rc μ (mA M g) (i * 3 + c)).2.2.1 := rfl
  rw [q0] at e1
  rw [q1] at e2
  rw [q2] at e3
  generalize rc μ (mA M g) (i * 3 + c) = x at *
  obtain ⟨x1, x2, x3, x4⟩ := x
  have hy : (i + k) * 3 + c < 24 := by omega
  have fin : ∀ (μ1 : jM) (y3 : Option Nat) (w3 : List Tk), MR μ1 M σ → JW μ1 → CT μ1 M (x1, x2, y3, N 0) (x1, x2, w3) → ∃ μ', jR (d + 2) 204 129 [.ref M, .int (N g), u2, u3, u4, .int (N m), .int (N (i * 3 + c)), .int (N k)] [va_rf y3, .int x2, .int x1, .int (N ((i + k) * 3 + c)), .int (N g), .ref M] μ1 = jR (d + 2) 204 62 [.ref M, .int (N g), u2, u3, u4, .int (N m), .int (N (i * 3 + c)), .int (N (k + 1))] [] μ' ∧ FRa M 0 0 μ1 μ' ∧ MR μ' M (stg σ g (lset (σ.1.1 g) (some (i + k)) c fun w => (x1, x2, w3, w.2.2.2))) := by
    intro μ1 y3 w3 h1 j1 ct
    have p := putg_ct (d := d + 1) (y := (i + k) * 3 + c) h1.1 ct hg hy
    have p : jC (d + 1) 192 [.ref M, .int (N g), .int (N ((i + k) * 3 + c)), .int x1, .int x2, va_rf y3] μ1 = _ := p
    obtain ⟨F, h2⟩ := h1.putg (i := i + k) hg ct hc
    refine ⟨_, ?_, (F.fr hg).fa j1, h2⟩
    rw [b204_129 (hs0 := ir_ref) (hs5 := jr_rf)]
    simp only [gI13, gR13, pI13, pR13, rv13, h1.1.k13, if_true, Option.bind_some, p]
    show jR (d + 2) 204 132 [.ref M, .int (N g), u2, u3, u4, .int (N m), .int (N (i * 3 + c)), .int (N k)] [] _ = _
    rw [b204_132, en]
  rcases cm with ⟨m1, m2, m3⟩ | ⟨m1, m3⟩ | ⟨m1, m2, f, e, m3, m4⟩
  · have m3 : x3 = none := m3
    subst m3
    have m1 : x1 = N 0 := m1
    obtain ⟨μ', f1, f2, f3⟩ := fin μ none [] h hj ⟨Or.inl ⟨m1, m2, rfl⟩, rfl⟩
    refine ⟨μ', ?_, f2.up (by omega) (by omega), f3⟩
    rw [b204_62, if_neg nlt]
    simp only [gI13, gR13, pI13, pR13, rv13, k13, if_true, Option.bind_some, rf_some, hq.f.2.2.1, hq.f.2.2.2.1, gr.2.1, gr.2.2.1, e1, e2, ey]
    rw [if_neg (show ¬ x1 = 2 by rw [m1]; decide)]
    exact f1
  · have m3 : x3 = none := m3
    subst m3
    have m1 : x1 = N 1 := m1
    obtain ⟨μ', f1, f2, f3⟩ := fin μ none [] h hj ⟨Or.inr (Or.inl ⟨m1, rfl⟩), rfl⟩
    refine ⟨μ', ?_, f2.up (by omega) (by omega), f3⟩
    rw [b204_62, if_neg nlt]
    simp only [gI13, gR13, pI13, pR13, rv13, k13, if_true, Option.bind_some, rf_some, hq.f.2.2.1, hq.f.2.2.2.1, gr.2.1, gr.2.2.1, e1, e2, ey]
    rw [if_neg (show ¬ x1 = 2 by rw [m1]; decide)]
    exact f1
  · have m3 : x3 = some f := m3
    subst m3
    have m1 : x1 = N 2 := m1
    have m2 : x2 = N 0 := m2
    obtain ⟨μ1, s1, F1, s2, s3⟩ := r_shifted (d := d) (n := k) h hj hz hg hK (by omega) m4
    have h1 := h.outa hj hz F1 (fun a k => k.elim) (fun a j k => k.elim)
    have et : (rcm (mF μ) (x1, x2, some f, x4)).2.2.1 = tks e := m4.tk
    obtain ⟨μ', f1, f2, f3⟩ := fin μ1 (some (jsz μ)) ((tks e).map (lowT (σ.1.1 g) k)) h1 F1.jw ⟨Or.inr (Or.inr ⟨m1, m2, _, _, rfl, s2⟩), by
      show (x1, x2, mF μ1 (some (jsz μ))) = _
      rw [s2.tk, s3]⟩
    refine ⟨μ', ?_, FRa.trans (Fa.mono F1 (fun _ _ k => k.elim) (fun _ _ _ k => k.elim) (Nat.le_refl _) (Nat.le_refl _)) f2, ?_⟩
    · rw [b204_62, if_neg nlt]
      simp only [gI13, gR13, pI13, pR13, rv13, k13, if_true, Option.bind_some, rf_some, hq.f.2.2.1, hq.f.2.2.2.1, hq.f.2.2.2.2.2, gr.2.1, gr.2.2.1, gr.2.2.2.2.1, e1, e2, e3, ey]
      rw [if_pos (show x1 = 2 from m1)]
      simp only [va_rf, s1, Option.bind_some]
      show jR (d + 2) 204 125 [.ref M, .int (N g), u2, u3, u4, .int (N m), .int (N (i * 3 + c)), .int (N k)] [.ref (jsz μ), .int x2, .int x1, .int (N ((i + k) * 3 + c)), .int (N g), .ref M] μ1 = _
      rw [b204_125 (hs0 := ir_ref) (hs5 := ir_ref)]
      exact f1
    · rw [et]
      exact f3
theorem p_fill (h : MR μ M σ) (hj : JW μ) (hz : M + 424 ≤ jsz μ) (hK : ∀ g, g < 4 → KK (σ.1.1 g)) (g r c v : Int32) : ROPa M 7 546 (jC (d + 3) 204 [.ref M, .int g, .int r, .int c, .int v] μ) μ (o_fill σ g r c v) := by
  have hq := h.1
  have bad : jR (d + 3) 204 28 [.ref M, .int g, .int r, .int c, .int v, .retAddr 0, .retAddr 0, .retAddr 0] [] μ = some (some (.int aBAD), μ) := b204_28 ..
  have st : jC (d + 3) 204 [.ref M, .int g, .int r, .int c, .int v] μ = jR (d + 3) 204 4 [.ref M, .int g, .int r, .int c, .int v, .retAddr 0, .retAddr 0, .retAddr 0] [.int (okI (ix 3 g))] μ := by
    rw [jC_run (by decide)]
    show jR (d + 3) 204 0 [.ref M, .int g, .int r, .int c, .int v, .retAddr 0, .retAddr 0, .retAddr 0] [] μ = _
    rw [b204_0, r_ver]
    rfl
  rw [st, b204_4]
  unfold o_fill cix
  cases eg : ix 3 g with
  | none =>
    rw [if_pos (by rw [okI_0])]
    exact ⟨μ, bad, Fa.refl hj, h⟩
  | some g0 =>
    obtain ⟨rfl, hg⟩ := ix_some (by decide) eg
    have hg4 : g0 < 4 := by omega
    obtain ⟨G1, G2, G3, G4, G5⟩ := h.gq hg4
    have rc1 := r_cell (d := d) hq (fun g hg => (h.2.2.1 g hg).1.gw) (N g0) r c
    rw [ix_N (by decide) hg4] at rc1
    rw [if_neg (by rw [okI_0]; simp)]
    simp only [gI13, gR13, pI13, pR13, rv13, hq.k13, if_true, jun_ref, rc1, Option.bind_some, G4]
    show ROPa M 7 546 (jR (d + 3) 204 14 [.ref M, .int (N g0), .int r, .int c, .int v, .retAddr 0, .retAddr 0, .retAddr 0] [.int (okI ((ix (vN μ (mA M g0)) r).bind fun r => (ix 3 c).map fun c => (g0, r, c)))] μ) μ _
    rw [b204_14]
    cases eq : ((ix (vN μ (mA M g0)) r).bind fun r => (ix 3 c).map fun c => (g0, r, c)) with
    | none =>
      rw [if_pos (by rw [okI_0])]
      exact ⟨μ, bad, Fa.refl hj, h⟩
    | some q =>
      obtain ⟨r0, c0, rfl, rfl, rfl, hr, hc⟩ := cell3 (by omega) eq
      rw [if_neg (by rw [okI_0]; simp), r_btw]
      show ROPa M 7 546 (jR (d + 3) 204 25 [.ref M, .int (N g0), .int (N r0), .int (N c0), .int v, .retAddr 0, .retAddr 0, .retAddr 0] [.int (if v < N 1 ∨ N 7 < v then N 0 else N 1)] μ) μ (if v < N 1 ∨ N 7 < v then (aBAD, σ) else (N (min v.toNatClampNeg ((σ.1.1 g0).length - 1 - r0)), stg (chg σ) g0 (pFill (σ.1.1 g0) (cO [] (σ.1.1 g0) (some r0) c0) r0 c0 (min v.toNatClampNeg ((σ.1.1 g0).length - 1 - r0)))))
      rw [b204_25]
      by_cases hk : v < N 1 ∨ N 7 < v
      · rw [if_pos hk, if_pos hk, if_pos (by decide)]
        exact ⟨μ, bad, Fa.refl hj, h⟩
      · rw [if_neg hk, if_neg hk, if_neg (by decide)]
        obtain ⟨n, hn, hn1, hn7⟩ : ∃ n, v = N n ∧ 1 ≤ n ∧ n ≤ 7 := by
          have h1 : ¬ v < N 1 := fun g => hk (Or.inl g)
          have h7 : ¬ N 7 < v := fun g => hk (Or.inr g)
          have h0 : ¬ v < N 0 := fun g => h1 (by
            rw [Int32.lt_iff_toInt_lt] at g ⊢
            rw [N_toInt (by decide)] at g ⊢
            omega)
          obtain ⟨b, hb, rfl⟩ := N_of h0
          rw [N_lt hb (by decide)] at h1
          rw [N_lt (by decide) hb] at h7
          exact ⟨b, rfl, by omega, by omega⟩
        subst hn
        rw [N_nat (show n < 2147483648 by omega)]
        obtain ⟨μ1, c1, F1, h1⟩ := h.chg (d := d)
        have A1 := F1.fr.fa hj
        have j1 := A1.jw
        have z1 : M + 424 ≤ jsz μ1 := Nat.le_trans hz A1.2.1.1
        generalize em : min n ((σ.1.1 g0).length - 1 - r0) = m
        have loop : ∀ (l k : Nat) (ν : jM), k + l = m → MR ν M (stg (chg σ) g0 (pFill (σ.1.1 g0) (cO [] (σ.1.1 g0) (some r0) c0) r0 c0 k)) → JW ν → M + 424 ≤ jsz ν → ∃ ν', jR (d + 3) 204 62 [.ref M, .int (N g0), .int (N r0), .int (N c0), .int (N n), .int (N m), .int (N (r0 * 3 + c0)), .int (N (k + 1))] [] ν = some (some (.int (N m)), ν') ∧ FRa M (1 * l) (78 * l) ν ν' ∧ MR ν' M (stg (chg σ) g0 (pFill (σ.1.1 g0) (cO [] (σ.1.1 g0) (some r0) c0) r0 c0 m)) := by
          intro l
          induction l with
          | zero =>
            intro k ν hk hr hj hz
            have : k = m := by omega
            subst this
            refine ⟨ν, ?_, Fa.refl hj, hr⟩
            rw [b204_62, if_pos (by rw [N_lt (by omega) (by omega)]; omega)]
          | succ l ih =>
            intro k ν hk hr hj hz
            have lf : (pFill (σ.1.1 g0) (cO [] (σ.1.1 g0) (some r0) c0) r0 c0 k).length = (σ.1.1 g0).length := by
              have := congrArg List.length (ky1_fill (G := σ.1.1 g0) (x := cO [] (σ.1.1 g0) (some r0) c0) (r := r0) (c := c0) k)
              unfold ky1 at this
              rw [List.length_map, List.length_map] at this
              exact this
            have sg : (stg (chg σ) g0 (pFill (σ.1.1 g0) (cO [] (σ.1.1 g0) (some r0) c0) r0 c0 k)).1.1 g0 = pFill (σ.1.1 g0) (cO [] (σ.1.1 g0) (some r0) c0) r0 c0 k := if_pos rfl
            obtain ⟨ν1, s1, s2, s3⟩ := fill_step (d := d + 1) (i := r0) (c := c0) (k := k + 1) (m := m) (u2 := .int (N r0)) (u3 := .int (N c0)) (u4 := .int (N n)) hr hj hz hg4 (by rw [sg]; exact (hK g0 hg4).ky1 (ky1_fill k)) hc (by rw [sg, lf]; omega) (by omega) (by omega) (by omega)
            rw [sg, stg_twice, cO_fill, lowT_ky (ky1_fill k)] at s3
            obtain ⟨ν', t1, t2, t3⟩ := ih (k + 1) ν1 (by omega) s3 s2.jw (Nat.le_trans hz s2.2.1.1)
            exact ⟨ν', by rw [s1]; exact t1, (FRa.trans s2 t2).up (by omega) (by omega), t3⟩
        obtain ⟨μ2, w1, w2, w3⟩ := loop m 0 μ1 (by omega) (by
          have e0 : stg (chg σ) g0 (pFill (σ.1.1 g0) (cO [] (σ.1.1 g0) (some r0) c0) r0 c0 0) = chg σ := by
            show ((updf σ.1.1 g0 (σ.1.1 g0), _), _) = _
            rw [updf_same rfl]
            rfl
          rw [e0]
          exact h1) j1 z1
        refine ⟨μ2, ?_, ((FRa.trans A1 w2).up (by omega) (by omega)), w3⟩
        simp only [gI13, gR13, pI13, pR13, rv13, hq.k13, if_true, Option.bind_some, c1]
        show jR (d + 3) 204 35 [.ref M, .int (N g0), .int (N r0), .int (N c0), .int (N n), .retAddr 0, .retAddr 0, .retAddr 0] [] μ1 = _
        obtain ⟨H1, H2, H3, H4, H5⟩ := h1.gq hg4
        have hv1 : vN μ1 (mA M g0) = vN μ (mA M g0) := by rw [← H4, ← G4]; rfl
        have r1 : jiv μ1 (M + 1) g0 = N (vN μ (mA M g0)) := by
          have := H1.2.1
          rw [hv1] at this
          exact this
        have k1 := h1.1.kd (o := 1) (a := M + 1) (by decide) rfl
        have gl := ent_get (μ := μ1) (i := g0) (l := 4) k1.1 k1.2 (by omega) (by decide)
        rw [r1] at gl
        have emin : imin (N n) (N (vN μ (mA M g0)) - 1 - N r0) = N m := by
          rw [show (1 : Int32) = N 1 from rfl, N_sub (by omega), N_sub (by omega), imin_N (by omega) (by omega), ← em, G4]
        rw [b204_35]
        simp only [gI13, gR13, pI13, pR13, rv13, h1.1.k13, if_true, Option.bind_some, rf_some, h1.1.f.1, gl, math_min, emin]
        show jR (d + 3) 204 50 [.ref M, .int (N g0), .int (N r0), .int (N c0), .int (N n), .retAddr 0, .retAddr 0, .retAddr 0] [.int (N m)] μ1 = _
        rw [b204_50, show (3 : Int32) * N r0 + N c0 = N (r0 * 3 + c0) by rw [show (3 : Int32) = N 3 from rfl, N_mul, N_add, Nat.mul_comm 3]]
        exact w1
end LAY
