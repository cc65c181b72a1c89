/-! THE REFERENCE's CALLS: drawn by lot -/
/-- the state with the drawn grids -/
def sdG (σ : SG) (s : Int32 × DG × DG) : SG := ((fun g => if g = 1 then s.2.1 else if g = 2 then s.2.2 else σ.1.1 g, σ.1.2), σ.2)
section LAY
variable {μ μ' μ'' ν : jM} {S S' : Nat → Prop} {T T' : Nat → Nat → Prop} {M g h t s n w d D i j k x y a b c f q : Nat} {A B C : GA} {σ τ : SG} {G : Nat → DG} {l l' : List CL} {z : Int32}
/-- a slot of the reference that the state doesn't know -/
theorem MR.slot {v : Int32} (h : MR μ M σ) (hj : ¬ (j = 14 ∨ j = 16 ∨ j = 35 ∨ j = 36 ∨ j = 49 ∨ j = 50)) : MR (jsetI μ M j v) M σ ∧ FN M μ (jsetI μ M j v) := by
  have F : FN M μ (jsetI μ M j v) := ⟨Fx.setI Fx.refl (Or.inl rfl), fun i hi => ivj (fun e => by subst e; exact hj hi)⟩
  exact ⟨h.aside F (fun g hg => aA_setM.2 (h.2.1 13 (by decide) g hg)), F⟩
theorem TH.slot {v : Int32} (h : TH μ M τ) : TH (jsetI μ M j v) M τ := by
  have F : Fx (fun a => a = M) (fun _ _ => False) μ (jsetI μ M j v) := Fx.setI Fx.refl rfl
  exact h.keep F (F.fd (fun a k => by omega) (fun a j k => k.elim)) (fun a k => by omega) (fun a j k => k.elim)
theorem r_draw (hk : jk μ M = 13) (hz : jiv μ M 48 = z) (hn : 0 < n) (hn2 : n < 1000) : jC d 252 [.ref M, .int (N n)] μ = some (some (.int (N (zb (zn z) n))), jsetI μ M 48 (zn z)) := by
  rw [jC_run (by decide)]
  show jR d 252 0 [.ref M, .int (N n)] [] μ = _
  obtain ⟨s1, s2⟩ := z_shift (zn z)
  have n0 : ¬ N n = N 0 := by rw [N_inj (by omega) (by decide)]; omega
  have hv : jiv (jsetI μ M 48 (z * N 1103515245 + N 12345)) M 48 = zn z := by simp [iv_setI]; rfl
  rw [b252_0]
  simp only [gI13, gR13, pI13, pR13, rv13, aI_eq, aB_eq, aR_eq, sI_eq, sB_eq, sR_eq, Option.bind_some, Option.bind_none, if_true, if_false, true_or, or_true, false_or, or_false, true_and, and_true, false_and, and_false, decide_eq_true_eq, decide_true, decide_false, eq_self, not_true_eq_false, not_false_eq_true, jfit0, N_lit, N_add, N_mul, NEG_eq, pl_none, pl_some, rf_some, rf_none, jun_ref, jun_null, ir_ref, ir_null, jr_rf, jun_rf, Option.toList_some, Option.toList_none, List.nil_append, List.cons_append, hk, hz, jk_setI, hv, n0, s1, N_modL (show ((zn z).toUInt32 >>> 9).toNat < 2147483648 by omega) hn (show n < 2147483648 by omega)]
  rfl
/-- a content put into a main grid -/
theorem MR.putg {x : RC (Option Nat)} {v : Int32 × Int32 × List Tk} (h : MR μ M σ) (hg : g < 4) (ct : CT μ M x v) (hc : c < 3) : FM1 M g μ (putC μ (mA M g) (i * 3 + c) x.1 x.2.1 x.2.2.1) ∧ MR (putC μ (mA M g) (i * 3 + c) x.1 x.2.1 x.2.2.1) M (stg σ g (lset (σ.1.1 g) (some i) c fun w => (v.1, v.2.1, v.2.2, w.2.2.2))) := by
  obtain ⟨H1, H2, H3, H4, H5⟩ := h.gq hg
  have F : FM1 M g μ (putC μ (mA M g) (i * 3 + c) x.1 x.2.1 x.2.2.1) := (putC_fr (h := g)).f1 hg
  have e3 := rG_putC (μ := μ) (A := mA M g) (i := i) (c := c) (k := x.1) (n := x.2.1) (f := x.2.2.1) (mA_ok hg) hc
  have h2 := h.grid hg F (putC_gq H1 (mco_put ct.1).2.2) e3 (H3.mod fun w hw => by
    obtain ⟨k1, k2, k3⟩ := hw
    have m1 : MCO μ (M + 424) (x.1, x.2.1, x.2.2.1, (rcol w c).2.2.2) := ct.1
    rcases (show c = 0 ∨ c = 1 ∨ c = 2 by omega) with rfl | rfl | rfl
    · exact ⟨m1, k2, k3⟩
    · exact ⟨k1, m1, k3⟩
    · exact ⟨k1, k2, m1⟩)
  refine ⟨F, ?_⟩
  rw [map_modify (f' := fun w => rset w c (v.1, v.2.1, v.2.2, (rcol w c).2.2.2)) (fun w => by
    rw [← ct.2]
    rcases (show c = 0 ∨ c = 1 ∨ c = 2 by omega) with rfl | rfl | rfl <;> rfl), ← H2] at h2
  exact h2
theorem ky1_mod {l : DG} {f : RW (List Tk) → RW (List Tk)} (hf : ∀ w, (f w).1 = w.1) : ky1 (l.modify i f) = ky1 l := by
  apply List.ext_getElem?
  intro j
  rw [ky1_get, ky1_get, List.getElem?_modify]
  cases l[j]? with
  | none => rfl
  | some w =>
    simp only [Option.map_eq_map, Option.map_some]
    split
    · rw [hf]
    · rfl
theorem rset_key {w : RW (List Tk)} {x : DC} : (rset w c x).1 = w.1 := by
  unfold rset
  split
  · rfl
  · split <;> rfl
theorem ky1_lset {l : DG} {p : Option Nat} {v : DC → DC} : ky1 (lset l p c v) = ky1 l := by
  cases p with
  | none => rfl
  | some i => exact ky1_mod (fun w => rset_key)
theorem KK.ky1 {l l' : DG} (h : KK l) (e : ky1 l' = ky1 l) : KK l' := by
  intro w hw
  exact h.ky w.1 (by rw [← e]; exact List.mem_map_of_mem hw)
theorem ky1_dset {l : DG} {z : Int32} : ky1 (dset l z) = ky1 l := by
  unfold dset
  exact ky1_lset
theorem ds_1 {s : Int32 × DG × DG} {z1 : Int32} (e1 : z1 = zn s.1) (h : zb z1 2 = 0) (h0 : s.2.1.length = 0) : dstep s = (z1, s.2) := by
  subst e1
  unfold dstep
  rw [if_pos h, if_pos h0]
theorem ds_2 {s : Int32 × DG × DG} {z1 z2 z3 z4 : Int32} (e1 : z1 = zn s.1) (e2 : z2 = zn z1) (e3 : z3 = zn z2) (e4 : z4 = zn z3) (h : zb z1 2 = 0) (h0 : ¬ s.2.1.length = 0) : dstep s = (z4, dset s.2.1 z2, s.2.2) := by
  subst e4 e3 e2 e1
  unfold dstep
  rw [if_pos h, if_neg h0]
theorem ds_3 {s : Int32 × DG × DG} {z1 : Int32} (e1 : z1 = zn s.1) (h : ¬ zb z1 2 = 0) (h0 : s.2.2.length = 0) : dstep s = (z1, s.2) := by
  subst e1
  unfold dstep
  rw [if_neg h, if_pos h0]
theorem ds_4 {s : Int32 × DG × DG} {z1 z2 z3 z4 : Int32} (e1 : z1 = zn s.1) (e2 : z2 = zn z1) (e3 : z3 = zn z2) (e4 : z4 = zn z3) (h : ¬ zb z1 2 = 0) (h0 : ¬ s.2.2.length = 0) : dstep s = (z4, s.2.1, dset s.2.2 z2) := by
  subst e4 e3 e2 e1
  unfold dstep
  rw [if_neg h, if_neg h0]
theorem ds_zs (x : Int32) : ∃ z1 z2 z3 z4 : Int32, z1 = zn x ∧ z2 = zn z1 ∧ z3 = zn z2 ∧ z4 = zn z3 := ⟨_, _, _, _, rfl, rfl, rfl, rfl⟩
theorem dset_eq {l : DG} {z z3 z4 : Int32} (e3 : z3 = zn z) (e4 : z4 = zn z3) : dset l z = lset l (some (zb z l.length)) (zb z3 3) (fun w => (N 1, N (zb z4 10), [], w.2.2.2)) := by
  subst e4 e3
  rfl
theorem ky1_dstep {s : Int32 × DG × DG} : ky1 (dstep s).2.1 = ky1 s.2.1 ∧ ky1 (dstep s).2.2 = ky1 s.2.2 := by
  obtain ⟨z1, z2, z3, z4, e1, e2, e3, e4⟩ := ds_zs s.1
  by_cases h : zb z1 2 = 0
  · by_cases h0 : s.2.1.length = 0
    · rw [ds_1 e1 h h0]; exact ⟨rfl, rfl⟩
    · rw [ds_2 e1 e2 e3 e4 h h0]; exact ⟨ky1_dset, rfl⟩
  · by_cases h0 : s.2.2.length = 0
    · rw [ds_3 e1 h h0]; exact ⟨rfl, rfl⟩
    · rw [ds_4 e1 e2 e3 e4 h h0]; exact ⟨rfl, ky1_dset⟩
theorem sdG_2 {s : Int32 × DG × DG} {z : Int32} : sdG σ (z, s.2) = sdG σ s := rfl
theorem sdG_s1 {s : Int32 × DG × DG} {z : Int32} {v : DG} : stg (sdG σ s) 1 v = sdG σ (z, v, s.2.2) := by
  unfold stg sdG updf
  congr 2
  funext g
  show (if g = 1 then v else if g = 1 then s.2.1 else if g = 2 then s.2.2 else σ.1.1 g) = if g = 1 then v else if g = 2 then s.2.2 else σ.1.1 g
  by_cases e1 : g = 1
  · rw [if_pos e1, if_pos e1]
  · rw [if_neg e1, if_neg e1, if_neg e1]
theorem sdG_s2 {s : Int32 × DG × DG} {z : Int32} {v : DG} : stg (sdG σ s) 2 v = sdG σ (z, s.2.1, v) := by
  unfold stg sdG updf
  congr 2
  funext g
  show (if g = 2 then v else if g = 1 then s.2.1 else if g = 2 then s.2.2 else σ.1.1 g) = if g = 1 then s.2.1 else if g = 2 then v else σ.1.1 g
  by_cases e1 : g = 2
  · subst e1; rfl
  · rw [if_neg e1, if_neg e1, if_neg e1]
theorem ky1_dits : ∀ (n : Nat) (s : Int32 × DG × DG), ky1 (dits n s).2.1 = ky1 s.2.1 ∧ ky1 (dits n s).2.2 = ky1 s.2.2
  | 0, s => by rw [dits_zero]; exact ⟨rfl, rfl⟩
  | n + 1, s => by
    rw [dits_succ]
    obtain ⟨a, b⟩ := ky1_dits n (dstep s)
    obtain ⟨c, d⟩ := ky1_dstep (s := s)
    exact ⟨a.trans c, b.trans d⟩
/-- one drawing -/
theorem lot_step {u1 u4 u5 u6 : Value} {i2 i3 : Int32} {s : Int32 × DG × DG} (h : MR μ M (sdG σ s)) (hT : TH μ M τ) (hz : jiv μ M 48 = s.1) (h3 : i3 < i2) : ∃ μ' v4 v5 v6, jR (d + 6) 251 11 [.ref M, u1, .int i2, .int i3, u4, u5, u6] [] μ = jR (d + 6) 251 11 [.ref M, u1, .int i2, .int (i3 + 1), v4, v5, v6] [] μ' ∧ FR M μ μ' ∧ MR μ' M (sdG σ (dstep s)) ∧ TH μ' M τ ∧ jiv μ' M 48 = (dstep s).1 := by
  have k13 := h.1.k13
  obtain ⟨z1, z2, z3, z4, e1, e2, e3, e4⟩ := ds_zs s.1
  have s48 : ∀ {j : Nat}, j = 48 → ¬ (j = 14 ∨ j = 16 ∨ j = 35 ∨ j = 36 ∨ j = 49 ∨ j = 50) := fun e => by omega
  have d1 := r_draw (d := d + 5) (n := 2) k13 hz (by decide) (by decide)
  rw [← e1] at d1
  have d1 : jC (d + 5) 252 [.ref M, .int 2] μ = _ := d1
  obtain ⟨h1, F1⟩ := h.slot (j := 48) (v := z1) (s48 rfl)
  have T1 := hT.slot (j := 48) (v := z1)
  have y1 : jiv (jsetI μ M 48 z1) M 48 = z1 := if_pos ⟨rfl, rfl⟩
  generalize jsetI μ M 48 z1 = μ1 at *
  have st : jR (d + 6) 251 11 [.ref M, u1, .int i2, .int i3, u4, u5, u6] [] μ = jR (d + 6) 251 22 [.ref M, u1, .int i2, .int i3, u4, u5, u6] [.int (N (zb z1 2)), .int 1] μ1 := by
    rw [b251_11, if_pos h3]
    simp only [gI13, gR13, pI13, pR13, rv13, k13, d1, if_true, Option.bind_some]
    rfl
  have hb2 : zb z1 2 < 2 := zb_lt (by decide)
  -- which grid
  have go : ∀ g0 : Nat, (g0 = 1 ∨ g0 = 2) → g0 = 1 + zb z1 2 → ∃ μ' v4 v5 v6, jR (d + 6) 251 22 [.ref M, u1, .int i2, .int i3, u4, u5, u6] [.int (N (zb z1 2)), .int 1] μ1 = jR (d + 6) 251 11 [.ref M, u1, .int i2, .int (i3 + 1), v4, v5, v6] [] μ' ∧ FR M μ1 μ' ∧ TH μ' M τ ∧ (((sdG σ s).1.1 g0).length = 0 ∧ MR μ' M (sdG σ s) ∧ jiv μ' M 48 = z1 ∨ ((sdG σ s).1.1 g0).length ≠ 0 ∧ MR μ' M (stg (sdG σ s) g0 (dset ((sdG σ s).1.1 g0) z2)) ∧ jiv μ' M 48 = z4) := by
    intro g0 hg0 eg0
    have hg4 : g0 < 4 := by omega
    obtain ⟨G1, G2, G3, G4, G5⟩ := h1.gq hg4
    have ro := h1.1.ro hg4
    rw [G1.2.1, ← G4] at ro
    have k1 := h1.1.k13
    have ea : (1 : Int32) + N (zb z1 2) = N g0 := by rw [show (1 : Int32) = N 1 from rfl, N_add, eg0]
    have s79 : ∀ v4 v5 v6 m, jR (d + 6) 251 79 [.ref M, u1, .int i2, .int i3, v4, v5, v6] [] m = jR (d + 6) 251 11 [.ref M, u1, .int i2, .int (i3 + 1), v4, v5, v6] [] m := fun v4 v5 v6 m => b251_79 ..
    rw [b251_22]
    simp only [gI13, gR13, pI13, pR13, rv13, k1, h1.1.f.1, ea, ro, if_true, Option.bind_some, rf_some]
    by_cases e0 : ((sdG σ s).1.1 g0).length = 0
    · rw [if_pos (show N ((sdG σ s).1.1 g0).length = 0 by rw [e0]; rfl), s79]
      exact ⟨μ1, _, _, _, rfl, FR.refl, T1, Or.inl ⟨e0, h1, y1⟩⟩
    · rw [if_neg (show ¬ N ((sdG σ s).1.1 g0).length = 0 by show ¬ N _ = N 0; rw [N_inj (by omega) (by decide)]; exact e0)]
      have d2 := r_draw (d := d + 5) (n := ((sdG σ s).1.1 g0).length) k1 y1 (by omega) (by omega)
      rw [← e2] at d2
      obtain ⟨h2, F2⟩ := h1.slot (j := 48) (v := z2) (s48 rfl)
      have T2 := T1.slot (j := 48) (v := z2)
      have y2 : jiv (jsetI μ1 M 48 z2) M 48 = z2 := if_pos ⟨rfl, rfl⟩
      generalize jsetI μ1 M 48 z2 = μ2 at *
      have d3 := r_draw (d := d + 5) (n := 3) h2.1.k13 y2 (by decide) (by decide)
      rw [← e3] at d3
      have d3 : jC (d + 5) 252 [.ref M, .int 3] μ2 = _ := d3
      obtain ⟨h3, F3⟩ := h2.slot (j := 48) (v := z3) (s48 rfl)
      have T3 := T2.slot (j := 48) (v := z3)
      have y3 : jiv (jsetI μ2 M 48 z3) M 48 = z3 := if_pos ⟨rfl, rfl⟩
      generalize jsetI μ2 M 48 z3 = μ3 at *
      have d4 := r_draw (d := d + 5) (n := 10) h3.1.k13 y3 (by decide) (by decide)
      rw [← e4] at d4
      have d4 : jC (d + 5) 252 [.ref M, .int 10] μ3 = _ := d4
      obtain ⟨h4, F4⟩ := h3.slot (j := 48) (v := z4) (s48 rfl)
      have T4 := T3.slot (j := 48) (v := z4)
      have y4 : jiv (jsetI μ3 M 48 z4) M 48 = z4 := if_pos ⟨rfl, rfl⟩
      generalize jsetI μ3 M 48 z4 = μ4 at *
      have hr : zb z2 ((sdG σ s).1.1 g0).length < ((sdG σ s).1.1 g0).length := zb_lt (by omega)
      have hc : zb z3 3 < 3 := zb_lt (by decide)
      have hv : zb z4 10 < 10 := zb_lt (by decide)
      have ct : CT μ4 M (N 1, N (zb z4 10), none, N 0) (N 1, N (zb z4 10), []) := ⟨Or.inr (Or.inl ⟨rfl, rfl⟩), rfl⟩
      obtain ⟨F5, h5⟩ := h4.putg (i := zb z2 ((sdG σ s).1.1 g0).length) hg4 ct hc
      have p1 := r_put (d := d + 5) (y := zb z2 ((sdG σ s).1.1 g0).length * 3 + zb z3 3) (kd := N 1) (nm := N (zb z4 10)) (f := none) h4.1 hg4 (by omega) (fun b hb => by cases hb)
      rw [if_pos rfl, if_neg (by decide)] at p1
      have p1 : jC (d + 5) 192 [.ref M, .int (N g0), .int (N (zb z2 ((sdG σ s).1.1 g0).length * 3 + zb z3 3)), .int 1, .int (N (zb z4 10)), .null] μ4 = _ := p1
      have ey : (3 : Int32) * N (zb z2 ((sdG σ s).1.1 g0).length) + N (zb z3 3) = N (zb z2 ((sdG σ s).1.1 g0).length * 3 + zb z3 3) := by
        rw [show (3 : Int32) = N 3 from rfl, N_mul, N_add, Nat.mul_comm 3]
      refine ⟨_, .int (N g0), .int (N (zb z2 ((sdG σ s).1.1 g0).length)), .int (N (zb z3 3)), ?_, ((F2.fr.trans F3.fr).trans F4.fr).trans (F5.fr hg4), T4.f1 hg4 F5, Or.inr ⟨e0, by rw [dset_eq e3 e4]; exact h5, ?_⟩⟩
      · simp only [d2, Option.bind_some]
        show jR (d + 6) 251 49 [.ref M, u1, .int i2, .int i3, .int (N g0), u5, u6] [.int (N (zb z2 ((sdG σ s).1.1 g0).length))] μ2 = _
        rw [b251_49]
        simp only [gI13, gR13, pI13, pR13, rv13, h2.1.k13, d3, if_true, Option.bind_some]
        show jR (d + 6) 251 56 [.ref M, u1, .int i2, .int i3, .int (N g0), .int (N (zb z2 ((sdG σ s).1.1 g0).length)), u6] [.int (N (zb z3 3))] μ3 = _
        rw [b251_56]
        simp only [gI13, gR13, pI13, pR13, rv13, h3.1.k13, d4, if_true, Option.bind_some, ey]
        show jR (d + 6) 251 75 [.ref M, u1, .int i2, .int i3, .int (N g0), .int (N (zb z2 ((sdG σ s).1.1 g0).length)), .int (N (zb z3 3))] [.int (N (zb z4 10)), .int 1, .int (N (zb z2 ((sdG σ s).1.1 g0).length * 3 + zb z3 3)), .int (N g0), .ref M] μ4 = _
        rw [b251_75 (hs0 := ir_ref)]
        simp only [gI13, gR13, pI13, pR13, rv13, h4.1.k13, p1, if_true, Option.bind_some]
        exact s79 ..
      · exact (congrFun (F5.1.iv (a := M) (by
          intro q
          have q : M = M + 1 ∨ SMg M g0 M := q
          unfold SMg at q; omega)) 48).trans y4
  rw [st]
  by_cases eb : zb z1 2 = 0
  · obtain ⟨μ', v4, v5, v6, w1, w2, w3, w4⟩ := go 1 (Or.inl rfl) (by omega)
    rcases w4 with ⟨e, m, zz⟩ | ⟨e, m, zz⟩
    · refine ⟨μ', v4, v5, v6, w1, F1.fr.trans w2, ?_⟩
      rw [ds_1 e1 eb e, sdG_2]
      exact ⟨m, w3, zz⟩
    · refine ⟨μ', v4, v5, v6, w1, F1.fr.trans w2, ?_⟩
      rw [ds_2 e1 e2 e3 e4 eb e]
      rw [sdG_s1 (z := z4)] at m
      exact ⟨m, w3, zz⟩
  · obtain ⟨μ', v4, v5, v6, w1, w2, w3, w4⟩ := go 2 (Or.inr rfl) (by omega)
    rcases w4 with ⟨e, m, zz⟩ | ⟨e, m, zz⟩
    · refine ⟨μ', v4, v5, v6, w1, F1.fr.trans w2, ?_⟩
      rw [ds_3 e1 eb e, sdG_2]
      exact ⟨m, w3, zz⟩
    · refine ⟨μ', v4, v5, v6, w1, F1.fr.trans w2, ?_⟩
      rw [ds_4 e1 e2 e3 e4 eb e]
      rw [sdG_s2 (z := z4)] at m
      exact ⟨m, w3, zz⟩
end LAY
