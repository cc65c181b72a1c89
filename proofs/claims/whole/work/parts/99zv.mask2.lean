/-! THE REFERENCE: values; every cell told -/
section LAY
variable {μ μ' μ'' ν : jM} {S : List Nat} {M g h t s n w d D i j k x y a b c f q p H rt : Nat} {G : DG} {L A B : List (Int32 × Int32)} {v : Int32} {r : VT} {e e1 e2 : Ex}
theorem EI.tell0 (h : EI G μ M S) (hc : c < 24) (hn : c ∉ S) (e1 : jiv μ' (M + 401) = fun j => if j = c then v else jiv μ (M + 401) j) (e2 : jiv μ' (M + 402) = fun j => if j = c then N 0 else jiv μ (M + 402) j) (e3 : jiv μ' (M + 403) = fun j => if j = c then N 1 else jiv μ (M + 403) j) (e4 : jiv μ' (M + 404) = jiv μ (M + 404)) (hr : vlC G (c / 3) (c % 3) = (N 0, v)) : EI G μ' M S := by
  intro c' hc'
  rw [e1, e2, e3, e4]
  by_cases e : c' = c
  · subst e
    rcases h c' hc with ⟨a1, a2⟩ | ⟨a1, a2, a3⟩
    · exact absurd a2 hn
    · refine Or.inr ⟨a1, hn, Or.inr ⟨if_pos rfl, ?_, fun q => ?_⟩⟩
      · show _ = (if c' = c' then _ else _)
        rw [if_pos rfl, hr]
      · show (if c' = c' then v else _) = _
        rw [if_pos rfl, hr]
  · simp only [if_neg e]
    exact h c' hc'
/-- up to the working out -/
theorem t_211 {cc : Nat} (hq : QS μ M) (hg : g < 4) (h31 : jiv μ M 31 = N g) (hc : cc < 24) : jC (D + 1) 211 [.ref M, .int (N cc)] μ = if jiv μ (M + 8 + g) cc = N 2 then (jsB (jsetI (jsetI μ (M + 402) cc (N 0)) (M + 401) cc (jiv μ (M + 13 + g) cc)) (.ref (M + 404)) (N cc) 1).bind fun m18 => (jgR m18 13 34 (.ref M)).bind fun w19 => (jgI m18 13 32 (.ref M)).bind fun x20 => (jpR m18 13 34 (.ref M) (va_rf (jrv μ (M + 23 + g) cc))).bind fun m21 => (jpI m21 13 32 0 (.ref M) 0).bind fun m22 => (jpI m22 13 33 0 (.ref M) 0).bind fun m23 => (jgR m23 13 27 (.ref M)).bind fun w24 => (if jrecv m23 13 (.ref M) = true then (jC D 212 [.ref M] m23).bind fun p25 => jR (D + 1) 211 93 [.ref M, .int (N cc), va_rf (jrv μ (M + 23 + g) cc), w19, .int x20] (p25.1.toList ++ [.int (N cc), w24]) p25.2 else none) else jR (D + 1) 211 122 [.ref M, .int (N cc), va_rf (jrv μ (M + 23 + g) cc), .retAddr 0, .retAddr 0] [] (jsetI (jsetI μ (M + 402) cc (N 0)) (M + 401) cc (jiv μ (M + 13 + g) cc)) := by
  have k13 := hq.k13
  obtain ⟨⟨q27, q28, q29, q30⟩, k1, k2, k3, k4⟩ := hq.val
  have gg := hq.gk hg
  have gr := hq.gr hg
  have s1 := ent_set (μ := μ) (i := cc) (v := N 0) k2.1 k2.2 hc (by decide)
  have s1 : jsI μ (.ref (M + 402)) (N cc) 0 = _ := s1
  have g1 := ent_get (μ := jsetI μ (M + 402) cc (N 0)) (i := cc) gg.2.2.1.1 gg.2.2.1.2 hc (by decide)
  rw [show jiv (jsetI μ (M + 402) cc (N 0)) (M + 13 + g) = jiv μ (M + 13 + g) from iv_setIn (by omega)] at g1
  have s2 := ent_set (μ := jsetI μ (M + 402) cc (N 0)) (i := cc) (v := jiv μ (M + 13 + g) cc) k1.1 k1.2 hc (by decide)
  have g2 := ent_get (μ := jsetI (jsetI μ (M + 402) cc (N 0)) (M + 401) cc (jiv μ (M + 13 + g) cc)) (i := cc) gg.2.1.1 gg.2.1.2 hc (by decide)
  rw [show jiv (jsetI (jsetI μ (M + 402) cc (N 0)) (M + 401) cc (jiv μ (M + 13 + g) cc)) (M + 8 + g) = jiv μ (M + 8 + g) from (iv_setIn (by omega)).trans (iv_setIn (by omega))] at g2
  have g3 := refGet' (μ := μ) (a := M + 23 + g) (i := cc) (by rw [gg.2.2.2.2.1.1]; decide) gg.2.2.2.2.1.2 hc (by decide)
  have e1 : jiv (jsetI μ (M + 402) cc (N 0)) M 31 = N g := (congrFun (iv_setIn (by omega)) _).trans h31
  have e2 : jiv (jsetI (jsetI μ (M + 402) cc (N 0)) (M + 401) cc (jiv μ (M + 13 + g) cc)) M 31 = N g := (congrFun ((iv_setIn (by omega)).trans (iv_setIn (by omega))) _).trans h31
  have R1 : jaR (jsetI μ (M + 402) cc (N 0)) (.ref (M + 12)) (N g) = some (.ref (M + 13 + g)) := gr.2.2.1
  have R2 : jaR (jsetI (jsetI μ (M + 402) cc (N 0)) (M + 401) cc (jiv μ (M + 13 + g) cc)) (.ref (M + 7)) (N g) = some (.ref (M + 8 + g)) := gr.2.1
  have K1 : jk (jsetI μ (M + 402) cc (N 0)) M = 13 := k13
  have K2 : jk (jsetI (jsetI μ (M + 402) cc (N 0)) (M + 401) cc (jiv μ (M + 13 + g) cc)) M = 13 := k13
  have V1 : jrv (jsetI μ (M + 402) cc (N 0)) = jrv μ := rfl
  have V2 : jrv (jsetI (jsetI μ (M + 402) cc (N 0)) (M + 401) cc (jiv μ (M + 13 + g) cc)) = jrv μ := rfl
  rw [jC_run (by decide)]
  show jR (D + 1) 211 0 [.ref M, .int (N cc), .retAddr 0, .retAddr 0, .retAddr 0] [] μ = _
  rw [b211_0]
  simp only [gI13, gR13, pI13, pR13, rv13, k13, hq.f.2.2.2.2.2, hq.f.2.2.2.1, hq.f.2.2.1, h31, gr.2.2.2.2.1, g3, q27, q28, q30, s1, K1, V1, e1, R1, g1, s2, K2, V2, e2, R2, g2, if_true, Option.bind_some, rf_some]
  rfl
theorem t_211f {cc : Nat} (hq : QS μ M) (hg : g < 4) (h31 : jiv μ M 31 = N g) (hc : cc < 24) (hf : jiv μ (M + 8 + g) cc = N 2) (hr : jrv μ (M + 23 + g) cc = some f) : jC (D + 1) 211 [.ref M, .int (N cc)] μ = (jC D 212 [.ref M] (mB μ M cc f (jiv μ (M + 13 + g) cc))).bind fun p25 => jR (D + 1) 211 93 [.ref M, .int (N cc), .ref f, va_rf (jrv μ M 34), .int (jiv μ M 32)] (p25.1.toList ++ [.int (N cc), .ref (M + 401)]) p25.2 := by
  have k13 := hq.k13
  obtain ⟨⟨q27, q28, q29, q30⟩, k1, k2, k3, k4⟩ := hq.val
  rw [t_211 hq hg h31 hc, if_pos hf, hr]
  have sB3 := sBool (μ := jsetI (jsetI μ (M + 402) cc (N 0)) (M + 401) cc (jiv μ (M + 13 + g) cc)) (a := M + 404) (i := cc) (v := 1) k4.1 (by show cc < jl μ (M + 404); rw [k4.2]; exact hc) (by show jl μ (M + 404) < _; rw [k4.2]; decide) (by decide)
  have sB3 : jsB (jsetI (jsetI μ (M + 402) cc (N 0)) (M + 401) cc (jiv μ (M + 13 + g) cc)) (.ref (M + 404)) (N cc) 1 = _ := sB3
  obtain ⟨X, hX⟩ : ∃ X, X = jsetI (jsetI (jsetI μ (M + 402) cc (N 0)) (M + 401) cc (jiv μ (M + 13 + g) cc)) (M + 404) cc (N 1) := ⟨_, rfl⟩
  have eB : mB μ M cc f (jiv μ (M + 13 + g) cc) = jsetI (jsetI (jsetR X M 34 (some f)) M 32 (N 0)) M 33 (N 0) := by
    subst hX; rfl
  rw [sB3, eB, ← hX]
  have KX : jk X M = 13 := by subst hX; exact k13
  have VX : jrv X = jrv μ := by subst hX; rfl
  have IX : jiv X M = jiv μ M := by subst hX; exact (iv_setIn (by omega)).trans ((iv_setIn (by omega)).trans (iv_setIn (by omega)))
  have K1 : jk (jsetR X M 34 (some f)) M = 13 := KX
  have K2 : jk (jsetI (jsetR X M 34 (some f)) M 32 (N 0)) M = 13 := KX
  have K3 : jk (jsetI (jsetI (jsetR X M 34 (some f)) M 32 (N 0)) M 33 (N 0)) M = 13 := KX
  have V3 : jrv (jsetI (jsetI (jsetR X M 34 (some f)) M 32 (N 0)) M 33 (N 0)) M 27 = some (M + 401) := by
    show (if M = M ∧ 27 = 34 then _ else jrv X M 27) = _
    rw [if_neg (by omega), VX]; exact q27
  have ju : jun (va_rf (some f)) = some f := rfl
  simp only [gI13, gR13, pI13, pR13, rv13, KX, VX, IX, ir_ref, rf_some, jun_ref, jfit0, and_true, and_self, if_true, decide_true, Option.bind_some, K1]
  simp only [show (0 : Int32) = N 0 from rfl, K2, jfit0, and_true, if_true, decide_true, Option.bind_some, K3, V3, rf_some]
theorem t_93 {cc : Nat} {u2 : Value} {o : Option Nat} {pl : Int32} (hq : QS μ M) (hc : cc < 24) : jR (D + 1) 211 93 [.ref M, .int (N cc), u2, va_rf o, .int pl] [.int v, .int (N cc), .ref (M + 401)] μ = some (none, mE μ M cc v (jiv μ M 33) o pl) := by
  have k13 := hq.k13
  obtain ⟨⟨q27, q28, q29, q30⟩, k1, k2, k3, k4⟩ := hq.val
  have s1 := ent_set (μ := μ) (i := cc) (v := v) k1.1 k1.2 hc (by decide)
  have s2 := ent_set (μ := jsetI μ (M + 401) cc v) (i := cc) (v := jiv μ M 33) k2.1 k2.2 hc (by decide)
  have e33 : jiv (jsetI μ (M + 401) cc v) M 33 = jiv μ M 33 := congrFun (iv_setIn (by omega)) _
  obtain ⟨X, hX⟩ : ∃ X, X = jsetI (jsetI μ (M + 401) cc v) (M + 402) cc (jiv μ M 33) := ⟨_, rfl⟩
  have KX : jk X = jk μ := by subst hX; rfl
  have LX : jl X = jl μ := by subst hX; rfl
  have VX : jrv X = jrv μ := by subst hX; rfl
  have s3 := sBool (μ := jsetI (jsetR X M 34 o) M 32 pl) (a := M + 404) (i := cc) (v := 0) (by show jk X _ = 21; rw [KX]; exact k4.1) (by show cc < jl X (M + 404); rw [LX, k4.2]; exact hc) (by show jl X (M + 404) < _; rw [LX, k4.2]; decide) (by decide)
  have s4 := sBool (μ := jsetI (jsetI (jsetR X M 34 o) M 32 pl) (M + 404) cc (N 0)) (a := M + 403) (i := cc) (v := 1) (by show jk X _ = 21; rw [KX]; exact k3.1) (by show cc < jl X (M + 403); rw [LX, k3.2]; exact hc) (by show jl X (M + 403) < _; rw [LX, k3.2]; decide) (by decide)
  have s3 : jsB (jsetI (jsetR X M 34 o) M 32 pl) (.ref (M + 404)) (N cc) 0 = _ := s3
  have s4 : jsB (jsetI (jsetI (jsetR X M 34 o) M 32 pl) (M + 404) cc (N 0)) (.ref (M + 403)) (N cc) 1 = _ := s4
  have eE : mE μ M cc v (jiv μ M 33) o pl = jsetI (jsetI (jsetI (jsetR X M 34 o) M 32 pl) (M + 404) cc (N 0)) (M + 403) cc (N 1) := by
    subst hX; rfl
  have K0 : jk (jsetI μ (M + 401) cc v) M = 13 := k13
  have V0 : jrv (jsetI μ (M + 401) cc v) = jrv μ := rfl
  have K1 : jk X M = 13 := by rw [KX]; exact k13
  have K2 : jk (jsetR X M 34 o) M = 13 := K1
  have K3 : jk (jsetI (jsetR X M 34 o) M 32 pl) M = 13 := K1
  have K4 : jk (jsetI (jsetI (jsetR X M 34 o) M 32 pl) (M + 404) cc (N 0)) M = 13 := K1
  have V3 : jrv (jsetI (jsetR X M 34 o) M 32 pl) M 30 = some (M + 404) := by
    show (if M = M ∧ 30 = 34 then _ else jrv X M 30) = _
    rw [if_neg (by omega), VX]; exact q30
  have V4 : jrv (jsetI (jsetI (jsetR X M 34 o) M 32 pl) (M + 404) cc (N 0)) M 29 = some (M + 403) := by
    show (if M = M ∧ 29 = 34 then _ else jrv X M 29) = _
    rw [if_neg (by omega), VX]; exact q29
  have jo : jun (va_rf o) = o := jun_rf o
  rw [eE, b211_93 (h3 := jr_rf) (hs0 := ir_ref)]
  simp only [s1, gI13, gR13, pI13, pR13, rv13, K0, V0, q28, e33, s2, ← hX, K1, jr_rf, jo, and_self, and_true, if_true, Option.bind_some, rf_some, K2, jfit0, K3, V3, s3]
  rw [b211_122]
  simp only [gI13, gR13, pI13, pR13, rv13, K4, V4, s4, if_true, Option.bind_some, rf_some]
theorem ask_step (ih : ∀ k', k = k' + 1 → AskR G M g H k') : AskR G M g (H + 18) k := by
  intro D μ S p c hD hv hS hS2 hk hp hc hw hi nd
  obtain ⟨D, rfl⟩ : ∃ D', D = D' + 2 := ⟨D - 2, by omega⟩
  have hq := hv.1
  have k13 := hq.k13
  obtain ⟨p8, ec, mc⟩ := hv.cell hc hp
  have bc : p * 3 + c < 24 := by omega
  have e3 : ((p * 3 + c) / 3, (p * 3 + c) % 3) = (p, c) := by rw [show (p * 3 + c) / 3 = p by omega, show (p * 3 + c) % 3 = c by omega]
  have e3a : (p * 3 + c) / 3 = p := by omega
  have e3b : (p * 3 + c) % 3 = c := by omega
  obtain ⟨⟨q27, q28, q29, q30⟩, k1, k2, k3, k4⟩ := hq.val
  have a30 := aBool (μ := μ) (a := M + 404) (i := p * 3 + c) k4.1 (by rw [k4.2]; exact bc) (by rw [k4.2]; decide)
  have a29 := aBool (μ := μ) (a := M + 403) (i := p * 3 + c) k3.1 (by rw [k3.2]; exact bc) (by rw [k3.2]; decide)
  have st : jC (D + 2) 210 [.ref M, .int (N (p * 3 + c))] μ = jR (D + 2) 210 0 [.ref M, .int (N (p * 3 + c))] [] μ := by
    rw [jC_run (by decide)]; rfl
  rw [st, b210_0]
  simp only [gI13, gR13, pI13, pR13, rv13, k13, q29, q30, a30, a29, if_true, Option.bind_some, rf_some]
  by_cases hm : p * 3 + c ∈ S
  · -- in a ring
    have s1 : jiv μ (M + 404) (p * 3 + c) = N 1 := by
      rcases hi _ bc with ⟨z, -⟩ | ⟨-, z, -⟩
      · exact z
      · exact absurd hm z
    have hdp : Dp G ((p * 3 + c) / 3, (p * 3 + c) % 3) (p, c) := nd _ hm
    rw [e3] at hdp
    have hr : vlC G p c = (RI, N 0) := hdp.ring
    rw [s1, if_neg (show ¬ N 1 = 0 by decide), hr]
    refine ⟨jsetI μ M 33 RI, N 0, ?_, FE.slot (Or.inr rfl), if_pos ⟨rfl, rfl⟩, fun q => absurd q ri_ne, ivj (by decide), rfl, hi.slot⟩
    simp only [jfit0, and_true, if_true, Option.bind_some]
    rfl
  · obtain ⟨z0, zt⟩ : jiv μ (M + 404) (p * 3 + c) = N 0 ∧ (jiv μ (M + 403) (p * 3 + c) = N 0 ∨ (jiv μ (M + 403) (p * 3 + c) = N 1 ∧ (vlC G p c).1 = jiv μ (M + 402) (p * 3 + c) ∧ (jiv μ (M + 402) (p * 3 + c) = N 0 → jiv μ (M + 401) (p * 3 + c) = (vlC G p c).2))) := by
      rcases hi _ bc with ⟨-, z⟩ | ⟨z, -, z2⟩
      · exact absurd z hm
      · rw [e3a, e3b] at z2
        exact ⟨z, z2⟩
    rw [z0, if_pos (show N 0 = 0 from rfl)]
    rcases zt with zt | ⟨zt, z1, z2⟩
    · -- not told yet
      rw [zt, if_pos (show N 0 = 0 from rfl)]
      -- what follows
      have aft : ∀ (μ3 : jM) (r : VT), QS μ3 M → FE M μ μ3 → jiv μ3 M 32 = jiv μ M 32 → jrv μ3 M 34 = jrv μ M 34 → EI G μ3 M S → jiv μ3 (M + 402) (p * 3 + c) = r.1 → (r.1 = N 0 → jiv μ3 (M + 401) (p * 3 + c) = r.2) → r = vlC G p c → ∃ μ' v, jR (D + 2) 210 31 [.ref M, .int (N (p * 3 + c))] [] μ3 = some (some (.int v), μ') ∧ RA G M S (vlC G p c) v μ μ' := by
        intro μ3 r q3 F3 p3 r3 i3 w3 v3 er
        subst er
        refine ⟨jsetI μ3 M 33 (jiv μ3 (M + 402) (p * 3 + c)), _, v_31 q3 bc, F3.trans (FE.slot (Or.inr rfl)), ?_, v3, (ivj (by decide)).trans p3, r3, i3.slot⟩
        rw [ivs, if_pos rfl]; exact w3
      by_cases hf : jiv μ (M + 8 + g) (p * 3 + c) = N 2
      · -- a formula
        obtain ⟨f, e0, m3, m4⟩ : ∃ f e0, jrv μ (M + 23 + g) (p * 3 + c) = some f ∧ MFS μ (M + 424) f e0 := by
          rcases mc with ⟨m1, -⟩ | ⟨m1, -⟩ | ⟨m1, m2, f, e0, m3, m4⟩
          · have m1 : jiv μ (M + 8 + g) (p * 3 + c) = N 0 := m1
            rw [hf] at m1; exact absurd m1 (by decide)
          · have m1 : jiv μ (M + 8 + g) (p * 3 + c) = N 1 := m1
            rw [hf] at m1; exact absurd m1 (by decide)
          · exact ⟨f, e0, m3, m4⟩
        obtain ⟨f1, f2, f3, f4, f5, f6, f7, f8⟩ := id m4
        have hT : (cO [] G (some p) c).1 = N 2 := by rw [ec]; exact hf
        have hTk : tree (cO [] G (some p) c).2.2.1 = e0 := by
          rw [ec]
          show tree (mF μ (jrv μ (M + 23 + g) (p * 3 + c))) = _
          rw [m3, m4.tk]
          exact tree_tks f3
        have hvl : vlC G p c = tvE G e0 := by rw [vlC_eq, if_pos hT, hTk]
        have ndc : Nd G (p, c) (fun n => evN G n e0) := by
          have h5 := nd_E (G := G) (q := (p, c)) hT
          rw [hTk] at h5
          exact h5
        have hk0 : k ≠ 0 := by
          intro q
          have h1 := nodup_le 24 ((p * 3 + c) :: S) (List.nodup_cons.mpr ⟨hm, hS⟩) (fun s hs => by
            rcases List.mem_cons.mp hs with rfl | hs
            · exact bc
            · exact hS2 s hs)
          rw [List.length_cons] at h1
          omega
        obtain ⟨k', rfl⟩ := Nat.exists_eq_succ_of_ne_zero hk0
        have S' : ((p * 3 + c) :: S).Nodup := List.nodup_cons.mpr ⟨hm, hS⟩
        have S2' : ∀ s, s ∈ (p * 3 + c) :: S → s < 24 := fun s hs => by
          rcases List.mem_cons.mp hs with rfl | hs
          · exact bc
          · exact hS2 s hs
        obtain ⟨b1, b2, b3, b4⟩ := mB_v (μ := μ) (M := M) (c := p * 3 + c) (f := f) (num := jiv μ (M + 13 + g) (p * 3 + c))
        have FB : FE M μ (mB μ M (p * 3 + c) f (jiv μ (M + 13 + g) (p * 3 + c))) := mB_fe
        have eB : EI G (mB μ M (p * 3 + c) f (jiv μ (M + 13 + g) (p * 3 + c))) M ((p * 3 + c) :: S) := hi.ask hm (fun j hj => by rw [b1]; exact if_neg hj) (fun j hj => by rw [b2]; exact if_neg hj) b3 b4
        have vB := FB.ev hv
        have le := len_encE e0
        have lt := Nat.le_trans (len_tw (tks e0)) f6
        have fdB := FB.fn.fd f (ne99 f1 (by decide))
        have rB : RDg (mB μ M (p * 3 + c) f (jiv μ (M + 13 + g) (p * 3 + c))) M f ([] ++ (encE e0 ++ [])) := by
          refine ⟨?_, by rw [fdB.1]; exact f1, f2, ?_, ?_, ?_⟩
          · show (if M = M ∧ 34 = 34 then some f else _) = _
            rw [if_pos ⟨rfl, rfl⟩]
          · rw [List.nil_append, List.append_nil, ← f8]
            unfold prs2
            rw [fdB.2.1, (fdB.2.2 f2).1]
          · rw [List.nil_append, List.append_nil, fdB.2.1, f7, le]
          · rw [List.nil_append, List.append_nil, le]; exact lt
        have cx : CX G M g f ((p * 3 + c) :: S) [] (encE e0 ++ []) (mB μ M (p * 3 + c) f (jiv μ (M + 13 + g) (p * 3 + c))) := by
          refine ⟨vB, rB, if_pos ⟨rfl, rfl⟩, ?_, eB⟩
          show jiv (jsetI _ M 33 (N 0)) M 32 = N 0
          rw [ivj (by decide)]
          exact if_pos ⟨rfl, rfl⟩
        have ta := (tree_all (f := f) (ih k' rfl) S' S2' (by rw [List.length_cons]; omega) e0 f5).2.2 f3
        obtain ⟨μ7, v7, d1, d2, d3, d4, d5, d6⟩ := s1_of_s ta D _ [] [] (by omega) cx (fun s hs => by
          rcases List.mem_cons.mp hs with rfl | hs
          · rw [e3]; exact ndc
          · exact (show Dp G (s / 3, s % 3) (p, c) from nd s hs).nd ndc) (fun q => by cases q) (fun q => by cases q) (fun q => by cases q)
        have F7 := FB.trans d2
        have q7 := (F7.ev hv).1
        obtain ⟨⟨x27, x28, x29, x30⟩, y1, y2, y3, y4⟩ := q7.val
        have E7 : FE M μ7 (mE μ7 M (p * 3 + c) v7 (tvE G e0).1 (jrv μ M 34) (jiv μ M 32)) := mE_fe
        obtain ⟨u1, u2, u3, u4⟩ := mE_v (μ := μ7) (M := M) (c := p * 3 + c) (v := v7) (w := (tvE G e0).1) (o := jrv μ M 34) (pl := jiv μ M 32)
        have iE : EI G (mE μ7 M (p * 3 + c) v7 (tvE G e0).1 (jrv μ M 34) (jiv μ M 32)) M S := d5.tell (r := tvE G e0) bc hm u1 u2 u3 u4 (by rw [e3a, e3b]; exact hvl.symm) (fun q => (d6 q).1)
        obtain ⟨μ', v', w1, w2⟩ := aft (mE μ7 M (p * 3 + c) v7 (tvE G e0).1 (jrv μ M 34) (jiv μ M 32)) (tvE G e0) ((F7.trans E7).ev hv).1 (F7.trans E7) (by
          show jiv (jsetI (jsetI (jsetI _ M 32 (jiv μ M 32)) (M + 404) (p * 3 + c) (N 0)) (M + 403) (p * 3 + c) (N 1)) M 32 = _
          rw [iv_setIn (show ¬ M = M + 403 by omega), iv_setIn (show ¬ M = M + 404 by omega)]
          exact if_pos ⟨rfl, rfl⟩) (by
          show (if M = M ∧ 34 = 34 then jrv μ M 34 else _) = _
          rw [if_pos ⟨rfl, rfl⟩]) iE (by rw [u2]; exact if_pos rfl) (fun q => by rw [u1]; exact (if_pos rfl).trans (d6 q).1) hvl.symm
        refine ⟨μ', v', ?_, w2⟩
        rw [← w1]
        -- the run of it
        rw [t_211f (D := D) hq hv.2.1 hv.2.2.2 bc hf m3, d1]
        show (jR (D + 1) 211 93 [.ref M, .int (N (p * 3 + c)), .ref f, va_rf (jrv μ M 34), .int (jiv μ M 32)] [.int v7, .int (N (p * 3 + c)), .ref (M + 401)] μ7).bind (fun p5 => jR (D + 2) 210 31 [.ref M, .int (N (p * 3 + c))] (p5.1.toList ++ []) p5.2) = _
        rw [t_93 q7 bc, d3]
        rfl
      · -- a number, or nothing
        have hvl : vlC G p c = (N 0, jiv μ (M + 13 + g) (p * 3 + c)) := by
          rw [vlC_eq, ec]
          show (if jiv μ (M + 8 + g) (p * 3 + c) = N 2 then _ else _) = _
          rw [if_neg hf]; rfl
        have F3 : FE M μ (jsetI (jsetI (jsetI μ (M + 402) (p * 3 + c) (N 0)) (M + 401) (p * 3 + c) (jiv μ (M + 13 + g) (p * 3 + c))) (M + 403) (p * 3 + c) (N 1)) := by
          refine ⟨Fx.setI (Fx.setI (Fx.setI Fx.refl ?_) ?_) ?_, fun j _ _ => ?_⟩
          · exact Or.inr (by omega)
          · exact Or.inr (by omega)
          · exact Or.inr (by omega)
          · rw [iv_setIn (show ¬ M = M + 403 by omega), iv_setIn (show ¬ M = M + 401 by omega), iv_setIn (show ¬ M = M + 402 by omega)]
        have i3 : EI G (jsetI (jsetI (jsetI μ (M + 402) (p * 3 + c) (N 0)) (M + 401) (p * 3 + c) (jiv μ (M + 13 + g) (p * 3 + c))) (M + 403) (p * 3 + c) (N 1)) M S := hi.tell0 (v := jiv μ (M + 13 + g) (p * 3 + c)) bc hm (by
          funext j
          rw [iv_setIn (show ¬ M + 401 = M + 403 by omega), ivs, iv_setIn (show ¬ M + 401 = M + 402 by omega)]) (by
          funext j
          rw [iv_setIn (show ¬ M + 402 = M + 403 by omega), iv_setIn (show ¬ M + 402 = M + 401 by omega), ivs]) (by
          funext j
          rw [ivs, iv_setIn (show ¬ M + 403 = M + 401 by omega), iv_setIn (show ¬ M + 403 = M + 402 by omega)]) (by
          rw [iv_setIn (show ¬ M + 404 = M + 403 by omega), iv_setIn (show ¬ M + 404 = M + 401 by omega), iv_setIn (show ¬ M + 404 = M + 402 by omega)]) (by rw [e3a, e3b]; exact hvl)
        obtain ⟨μ', v', w1, w2⟩ := aft _ (N 0, jiv μ (M + 13 + g) (p * 3 + c)) (F3.ev hv).1 F3 (by
          rw [iv_setIn (show ¬ M = M + 403 by omega), iv_setIn (show ¬ M = M + 401 by omega), iv_setIn (show ¬ M = M + 402 by omega)]) rfl i3 (by
          rw [iv_setIn (show ¬ M + 402 = M + 403 by omega), iv_setIn (show ¬ M + 402 = M + 401 by omega), ivs, if_pos rfl]) (fun _ => by
          rw [iv_setIn (show ¬ M + 401 = M + 403 by omega), ivs, if_pos rfl]) hvl.symm
        refine ⟨μ', v', ?_, w2⟩
        have s4 := sBool (μ := jsetI (jsetI μ (M + 402) (p * 3 + c) (N 0)) (M + 401) (p * 3 + c) (jiv μ (M + 13 + g) (p * 3 + c))) (a := M + 403) (i := p * 3 + c) (v := 1) k3.1 (by show p * 3 + c < jl μ (M + 403); rw [k3.2]; exact bc) (by show jl μ (M + 403) < _; rw [k3.2]; decide) (by decide)
        have s4 : jsB (jsetI (jsetI μ (M + 402) (p * 3 + c) (N 0)) (M + 401) (p * 3 + c) (jiv μ (M + 13 + g) (p * 3 + c))) (.ref (M + 403)) (N (p * 3 + c)) 1 = _ := s4
        have K2 : jk (jsetI (jsetI μ (M + 402) (p * 3 + c) (N 0)) (M + 401) (p * 3 + c) (jiv μ (M + 13 + g) (p * 3 + c))) M = 13 := k13
        have V2 : jrv (jsetI (jsetI μ (M + 402) (p * 3 + c) (N 0)) (M + 401) (p * 3 + c) (jiv μ (M + 13 + g) (p * 3 + c))) M 29 = some (M + 403) := q29
        rw [← w1, t_211 (D := D) hq hv.2.1 hv.2.2.2 bc, if_neg hf, b211_122]
        simp only [gI13, gR13, pI13, pR13, rv13, K2, V2, s4, if_true, Option.bind_some, rf_some]
        rfl
    · -- told already
      rw [zt, if_neg (show ¬ N 1 = 0 by decide)]
      refine ⟨jsetI μ M 33 (jiv μ (M + 402) (p * 3 + c)), _, v_31 hq bc, FE.slot (Or.inr rfl), ?_, fun q => z2 (by rw [← z1]; exact q), ivj (by decide), rfl, hi.slot⟩
      rw [ivs, if_pos rfl]; exact z1.symm
end LAY
