/-! THE REFERENCE's CALLS: write, whole -/
section LAY
variable {μ μ' ν : jM} {M n w d i j a t f p m v b B L : Nat} {bs : List Nat} {T : List (Int32 × Int32)} {ts : List T3} {σ : SG} {G : DG} {e : Ex}
theorem p_write (h : MR μ M σ) (hj : JW μ) (hz : M + 424 ≤ jsz μ) (hx : KX μ B) (hB : B ≤ M) (hK : ∀ g, g < 4 → KK (σ.1.1 g)) (g r c : Int32) : ROPa M 1 80 (jC (d + 33) 167 [.ref M, .int g, .int r, .int c] μ) μ (o_write σ g r c) := by
  have hq := h.1
  have bad : jR (d + 33) 167 17 [.ref M, .int g, .int r, .int c, .retAddr 0, .retAddr 0] [] μ = some (some (.int aBAD), μ) := b167_17 ..
  have st : jC (d + 33) 167 [.ref M, .int g, .int r, .int c] μ = jR (d + 33) 167 4 [.ref M, .int g, .int r, .int c, .retAddr 0, .retAddr 0] [.int (okI (ix 3 g))] μ := by
    rw [jC_run (by decide)]
    show jR (d + 33) 167 0 [.ref M, .int g, .int r, .int c, .retAddr 0, .retAddr 0] [] μ = _
    rw [b167_0, r_ver]
    rfl
  rw [st, b167_4]
  unfold o_write cix
  cases eg : ix 3 g with
  | none =>
    rw [if_pos (by rw [okI_0])]
    exact ⟨μ, bad, Fa.refl hj, h⟩
  | some g0 =>
    obtain ⟨rfl, hg⟩ := ix_some (by decide) eg
    have hg4 : g0 < 4 := by omega
    obtain ⟨G1, G2, G3, G4, G5⟩ := h.gq hg4
    have rc1 := r_cell (d := d + 30) hq (fun g hg => (h.2.2.1 g hg).1.gw) (N g0) r c
    rw [ix_N (by decide) hg4] at rc1
    rw [if_neg (by rw [okI_0]; simp)]
    simp only [gI13, gR13, pI13, pR13, rv13, hq.k13, if_true, jun_ref, rc1, Option.bind_some, G4]
    show ROPa M 1 80 (jR (d + 33) 167 14 [.ref M, .int (N g0), .int r, .int c, .retAddr 0, .retAddr 0] [.int (okI ((ix (vN μ (mA M g0)) r).bind fun r => (ix 3 c).map fun c => (g0, r, c)))] μ) μ _
    cases eq : ((ix (vN μ (mA M g0)) r).bind fun r => (ix 3 c).map fun c => (g0, r, c)) with
    | none =>
      rw [b167_14, if_pos (by rw [okI_0])]
      exact ⟨μ, bad, Fa.refl hj, h⟩
    | some q =>
      obtain ⟨r0, c0, rfl, rfl, rfl, hr, hc⟩ := cell3 (by omega) eq
      -- reading
      have F1 : Fx (fun a => a = M ∨ a = M + 400) (fun _ _ => False) μ (jsetI μ M 24 (N g0)) := Fx.setI Fx.refl (Or.inl rfl)
      have M1 : ∀ j, j ≠ 24 → jiv (jsetI μ M 24 (N g0)) M j = jiv μ M j := fun j hj => ivj hj
      have g24 : jiv (jsetI μ M 24 (N g0)) M 24 = N g0 := if_pos ⟨rfl, rfl⟩
      have p24 : jpI μ 13 24 0 (.ref M) (N g0) = some (jsetI μ M 24 (N g0)) := by
        simp only [gI13, gR13, pI13, pR13, rv13, hq.k13, jfit0, if_true, and_true]
      generalize jsetI μ M 24 (N g0) = μ1 at *
      have ht : MRt μ M σ.2.2.1 := h.2.2.2.2.2.2.1
      have lb : LB μ1 M B σ.2.2.1 := by
        refine ⟨F1.qs hq (fun a j k => k.elim), ⟨ht.1, by rw [M1 16 (by decide)]; exact ht.2.1, fun i b hb => ?_⟩, hx.fx hj F1 (fun b hb k => by omega) (fun b j hb k => k), (F1.fa hj).jw, hB⟩
        rw [F1.iv (a := M + 399) (fun q => by omega)]
        exact ht.2.2 i b hb
      have rg : RG' μ1 M (σ.1.1 g0) := by
        refine ⟨g0, hg4, g24, ?_, by rw [G4]; exact G5, fun i hi => ?_⟩
        · rw [F1.iv (a := M + 1) (fun q => by omega), G4]
          exact G1.2.1
        · rw [F1.iv (a := M + 3 + g0) (fun q => by omega)]
          exact (h.key hg4 hi).symm
      obtain ⟨μ2, kk, c2, F2, yes, no⟩ := r_readContent (d := d) lb rg (hK g0 hg4)
      have c2 : jC (d + 32) 172 [.ref M] μ1 = some (some (.int kk), jsetI μ2 M 16 (N 0)) := c2
      have F3 : Fx (fun a => a = M ∨ a = M + 400) (fun _ _ => False) μ (jsetI μ2 M 16 (N 0)) := Fx.setI (F1.trans F2.1) (Or.inl rfl)
      have M3 : ∀ j, ¬ (16 ≤ j ∧ j ≤ 24) → j ≠ 26 → jiv (jsetI μ2 M 16 (N 0)) M j = jiv μ M j := fun j h1 h2 => (ivj (by omega)).trans ((F2.2 j (by omega) h2).trans (M1 j (by omega)))
      obtain ⟨FR3, h3⟩ := h.read F3 M3 (l := []) ⟨by decide, if_pos ⟨rfl, rfl⟩, fun i b hb => by
        have hb : ([] : List Nat)[i]? = some b := hb
        simp at hb⟩
      have A3 := FR3.fa hj
      have e22 : jiv (jsetI μ2 M 16 (N 0)) M 22 = jiv μ2 M 22 := ivj (by decide)
      have e18 : jiv (jsetI μ2 M 16 (N 0)) M 18 = jiv μ2 M 18 := ivj (by decide)
      have e23 : jiv (jsetI μ2 M 16 (N 0)) M 23 = jiv μ2 M 23 := ivj (by decide)
      have e26 : jiv (jsetI μ2 M 16 (N 0)) M 26 = jiv μ2 M 26 := ivj (by decide)
      have e40 : jiv (jsetI μ2 M 16 (N 0)) (M + 400) = jiv μ2 (M + 400) := by
        funext j
        show (if M + 400 = M ∧ j = 16 then _ else _) = _
        rw [if_neg (fun q => by omega)]
        rfl
      have run : jR (d + 33) 167 14 [.ref M, .int (N g0), .int (N r0), .int (N c0), .retAddr 0, .retAddr 0] [.int (okI (some (g0, r0, c0)))] μ = jR (d + 33) 167 29 [.ref M, .int (N g0), .int (N r0), .int (N c0), .retAddr 0, .retAddr 0] [.int kk] (jsetI μ2 M 16 (N 0)) := by
        rw [b167_14, if_neg (by rw [okI_0]; simp), p24]
        simp only [gI13, gR13, pI13, pR13, rv13, lb.k13, if_true, c2, Option.bind_some]
        rfl
      rw [run]
      generalize jsetI μ2 M 16 (N 0) = μ3 at *
      have k3 := h3.1.k13
      have eP : pTx (kyG (σ.1.1 g0)) (lexx 40 0 σ.2.2.1) = pWr σ g0 := rfl
      rw [eP] at yes no
      have gL := (gts_lexx 40 0 σ.2.2.1 (by have := ht.1; omega)).1
      have hfw : (pWr σ g0).1 = true → (pWr σ g0).2.2.1 = 2 → lv 2 (pWr σ g0).2.2.2.2 ∧ nst (pWr σ g0).2.2.2.2 ≤ 4 ∧ wsum (tks (pWr σ g0).2.2.2.2) ≤ 39 ∧ (pWr σ g0).2.2.2.1 = N 0 := pTx_FW (kyG_lt (hK g0 hg4)) gL
      have hcn : (pWr σ g0).1 = true → (pWr σ g0).2.2.1 = 2 → ecan (pWr σ g0).2.2.2.2 = (pWr σ g0).2.2.2.2 := pTx_can (kyG_lt (hK g0 hg4)) gL
      have hkd : (pWr σ g0).2.2.1 ≤ 2 ∧ ((pWr σ g0).2.2.1 = 0 → (pWr σ g0).2.2.2.1 = N 0) := pTx_kind
      show ROPa M 1 80 _ μ (if (pWr σ g0).1 = true then (N (pWr σ g0).2.2.1, stg (chg (stp σ [])) g0 (lset (σ.1.1 g0) (some r0) c0 (fun w => (N (pWr σ g0).2.2.1, (pWr σ g0).2.2.2.1, if (pWr σ g0).2.2.1 = 2 then (tks (pWr σ g0).2.2.2.2).map tcan else [], w.2.2.2)))) else (-(N 100) - N (hs (pWr σ g0).2.1), stp σ []))
      generalize pWr σ g0 = P at *
      rw [b167_29]
      cases ok : P.1 with
      | false =>
        obtain ⟨f1, f2⟩ := no ok
        rw [if_neg (show ¬ false = true by decide)]
        refine ⟨μ3, ?_, A3.up (Nat.zero_le _) (Nat.zero_le _), h3⟩
        simp only [gI13, gR13, pI13, pR13, rv13, k3, if_true, e22, f1, e18, f2, Option.bind_some]
        rw [if_neg (show ¬ N 1 = 0 by decide)]
        rfl
      | true =>
        obtain ⟨y1, y2, y3, T, y4, y5, y6, y7⟩ := yes ok
        rw [if_pos rfl]
        subst y2
        obtain ⟨μ4, c4, F4, h4⟩ := h3.chg (d := d + 30)
        have A4 := FRa.trans A3 (F4.fr.fa A3.jw)
        have z4 : M + 424 ≤ jsz μ4 := Nat.le_trans hz A4.2.1.1
        have g23 : jiv μ4 M 23 = N (2 * T.length) := by rw [F4.2 23 (by decide) (by decide) (by decide), e23]; exact y4
        have g26 : jiv μ4 M 26 = jiv μ2 M 26 := by rw [F4.2 26 (by decide) (by decide) (by decide), e26]
        have g40 : jiv μ4 (M + 400) = jiv μ2 (M + 400) := by
          rw [F4.1.iv (a := M + 400) (fun q => by unfold SU at q; omega), e40]
        obtain ⟨μ5, n1, n2, F5, k5, l5, s5⟩ := x_own (T := T) A4.jw z4 h4.1 (by rw [g40]; exact y6) y5
        have h5 := h4.outa A4.jw z4 F5 (fun a k => k.elim) (fun a j k => k.elim)
        have A5 := FRa.trans A4 (Fa.mono F5 (fun _ _ k => k.elim) (fun _ _ _ k => k.elim) (Nat.le_refl _) (Nat.le_refl _))
        have i26 : jiv μ5 M 26 = jiv μ2 M 26 := by rw [F5.iv (by omega) id]; exact g26
        have kn : jk (jnew μ4 20 (2 * T.length) (2 * T.length)) M = 13 := by
          have F0 : Fa (fun _ => False) (fun _ _ => False) 1 (2 * T.length) μ4 (jnew μ4 20 (2 * T.length) (2 * T.length)) := Fa.new A4.jw
          rw [F0.kk (by omega)]; exact h4.1.k13
        have nv : jiv (jnew μ4 20 (2 * T.length) (2 * T.length)) M = jiv μ4 M := by
          have F0 : Fa (fun _ => False) (fun _ _ => False) 1 (2 * T.length) μ4 (jnew μ4 20 (2 * T.length) (2 * T.length)) := Fa.new A4.jw
          exact F0.iv (by omega) id
        have nr : jrv (jnew μ4 20 (2 * T.length) (2 * T.length)) M 25 = some (M + 400) := by
          have F0 : Fa (fun _ => False) (fun _ _ => False) 1 (2 * T.length) μ4 (jnew μ4 20 (2 * T.length) (2 * T.length)) := Fa.new A4.jw
          rw [F0.rv (by omega) id]; exact h4.1.2.1 25 400 rfl
        -- the cell
        have ct : CT μ5 M (N P.2.2.1, if N P.2.2.1 = N 1 then jiv μ2 M 26 else N 0, if N P.2.2.1 = N 2 then some (jsz μ4) else none, N 0) (N P.2.2.1, P.2.2.2.1, if P.2.2.1 = 2 then (tks P.2.2.2.2).map tcan else []) := by
          obtain e0 | e1 | e2 : P.2.2.1 = 0 ∨ P.2.2.1 = 1 ∨ P.2.2.1 = 2 := by omega
          · rw [e0, if_neg (show ¬ N 0 = N 1 by decide), if_neg (show ¬ N 0 = N 2 by decide), if_neg (show ¬ (0 : Nat) = 2 by decide), hkd.2 e0]
            exact ⟨Or.inl ⟨rfl, rfl, rfl⟩, rfl⟩
          · rw [e1, if_pos rfl, if_neg (show ¬ N 1 = N 2 by decide), if_neg (show ¬ (1 : Nat) = 2 by decide), y3 e1]
            exact ⟨Or.inr (Or.inl ⟨rfl, rfl⟩), rfl⟩
          · obtain ⟨w1, w2, w3, w4⟩ := hfw ok e2
            have ec := hcn ok e2
            have eT := y7 e2
            have mf : MFS μ5 (M + 424) (jsz μ4) P.2.2.2.2 := ⟨k5, z4, w1, w2, ec, w3, by rw [l5, eT, len_encE], by rw [s5, eT]⟩
            have et : (tks P.2.2.2.2).map tcan = tks P.2.2.2.2 := by rw [← ((ecan_ok P.2.2.2.2).1 2 w1).2, ec]
            rw [e2, if_neg (show ¬ N 2 = N 1 by decide), if_pos rfl, if_pos rfl, w4, et]
            refine ⟨Or.inr (Or.inr ⟨rfl, rfl, _, _, rfl, mf⟩), ?_⟩
            show (N 2, N 0, mF μ5 (some (jsz μ4))) = _
            rw [mf.tk]
        have hi8 : r0 < 8 := by omega
        obtain ⟨F6, h6⟩ := h5.putg (i := r0) hg4 ct hc
        have pt := r_put (d := d + 32) (g := g0) (y := r0 * 3 + c0) (kd := N P.2.2.1) (nm := jiv μ2 M 26) (f := some (jsz μ4)) h5.1 hg4 (by omega) (fun b hb => by cases hb; exact k5)
        have ex : (3 : Int32) * N r0 + N c0 = N (r0 * 3 + c0) := by rw [show (3 : Int32) = N 3 from rfl, N_mul, N_add, Nat.mul_comm 3]
        refine ⟨_, ?_, (FRa.trans A5 ((F6.fr hg4).fa A5.jw)).up (Nat.le_refl _) (Nat.le_refl _), h6⟩
        simp only [gI13, gR13, pI13, pR13, rv13, k3, if_true, e22, y1, Option.bind_some]
        rw [if_pos (show N 0 = 0 from rfl)]
        have c4 : jC (d + 32) 189 [.ref M] μ3 = some (none, μ4) := c4
        simp only [c4, Option.bind_some]
        show jR (d + 33) 167 50 [.ref M, .int (N g0), .int (N r0), .int (N c0), .int (N P.2.2.1), .retAddr 0] [] μ4 = _
        have n2 : jcp (jnew μ4 20 (2 * T.length) (2 * T.length)) (.ref (M + 400)) 0 (.ref (jsz μ4)) 0 (N (2 * T.length)) = some μ5 := n2
        have pt : jC (d + 32) 192 [.ref M, .int (N g0), .int (N (r0 * 3 + c0)), .int (N P.2.2.1), .int (jiv μ2 M 26), .ref (jsz μ4)] μ5 = _ := pt
        rw [b167_50]
        simp only [gI13, gR13, pI13, pR13, rv13, h4.1.k13, if_true, g23, n1, kn, nr, rf_some, nv, n2, h5.1.k13, i26, ex, pt, Option.bind_some]
        show jR (d + 33) 167 91 [.ref M, .int (N g0), .int (N r0), .int (N c0), .int (N P.2.2.1), .ref (jsz μ4)] [] _ = _
        rw [b167_91]
end LAY
