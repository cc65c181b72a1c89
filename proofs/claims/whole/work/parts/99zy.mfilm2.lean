/-! THE REFERENCE's CALLS: film, the call -/
/-- what filming changes -/
def FFm (M : Nat) (μ μ' : jM) : Prop := Fx (fun a => a = M ∨ (M + 401 ≤ a ∧ a < M + 405) ∨ (M + 416 ≤ a ∧ a < M + 424)) (fun a j => a = M ∧ j = 34) μ μ' ∧ ∀ j, j ≠ 31 → j ≠ 32 → j ≠ 33 → jiv μ' M j = jiv μ M j
section LAY
variable {μ μ' μ'' ν : jM} {S S' : Nat → Prop} {T T' : Nat → Nat → Prop} {M g h t s n w d D i j k x y a b c f q p H rt : Nat} {G : DG} {v : Int32} {r : VT} {σ τ : SG}
theorem FV.fm (F : FV M μ μ') : FFm M μ μ' := ⟨F.1.mono (fun a k => by omega) (fun a j k => k), F.2⟩
theorem FFm.refl : FFm M μ μ := ⟨Fx.refl, fun _ _ _ _ => rfl⟩
theorem FFm.trans (a : FFm M μ μ') (b : FFm M μ' μ'') : FFm M μ μ'' := ⟨a.1.trans b.1, fun j h1 h2 h3 => (b.2 j h1 h2 h3).trans (a.2 j h1 h2 h3)⟩
theorem FFm.sheet {v : Int32} (h : M + 416 ≤ a ∧ a < M + 424) : FFm M μ (jsetI μ a k v) := ⟨Fx.setI Fx.refl (Or.inr (Or.inr h)), fun j _ _ _ => congrFun (iv_setIn (by omega)) j⟩
theorem EV.fm (h : EV μ M g G) (F : FFm M μ μ') (h31 : jiv μ' M 31 = N g) : EV μ' M g G := by
  obtain ⟨h1, h2, ⟨h3, h4⟩, h5⟩ := h
  obtain ⟨y1, y2⟩ : GW μ' (mA M g) ∧ rG μ' (mA M g) = rG μ (mA M g) := by
    refine F.1.gw h3.gw ?_ ?_ ?_ ?_ ?_ (fun j => ?_)
    · show ¬ (M + 3 + g = M ∨ (M + 401 ≤ M + 3 + g ∧ M + 3 + g < M + 405) ∨ (M + 416 ≤ M + 3 + g ∧ M + 3 + g < M + 424)); omega
    · show ¬ (M + 8 + g = M ∨ (M + 401 ≤ M + 8 + g ∧ M + 8 + g < M + 405) ∨ (M + 416 ≤ M + 8 + g ∧ M + 8 + g < M + 424)); omega
    · show ¬ (M + 13 + g = M ∨ (M + 401 ≤ M + 13 + g ∧ M + 13 + g < M + 405) ∨ (M + 416 ≤ M + 13 + g ∧ M + 13 + g < M + 424)); omega
    · show ¬ (M + 18 + g = M ∨ (M + 401 ≤ M + 18 + g ∧ M + 18 + g < M + 405) ∨ (M + 416 ≤ M + 18 + g ∧ M + 18 + g < M + 424)); omega
    · exact congrFun (F.1.iv (a := M + 1) (by omega)) _
    · show ¬ (M + 23 + g = M ∧ j = 34); omega
  have fd : FD (M + 424) μ μ' := F.1.fd (fun a k => by omega) (fun a j k => by omega)
  obtain ⟨x1, x2⟩ := h3.to fd y1 y2
  exact ⟨F.1.qs h1 (fun a j k => by unfold SR; omega), h2, ⟨x1, x2.trans h4⟩, h31⟩
/-- one cell more of a grid that is asked -/
theorem r_moreE (h : EV μ M g G) (hi : EI G μ M []) (hp : p < G.length) (hc : c < 3) : ∃ μ2 v, jC (d + 450) 210 [.ref M, .int (N (p * 3 + c))] (jsetI μ M 33 0) = some (some (.int v), μ2) ∧ FV M μ μ2 ∧ EV μ2 M g G ∧ EI G μ2 M [] ∧ jiv μ2 M 33 = (vlC G p c).1 ∧ ((vlC G p c).1 = N 0 → v = (vlC G p c).2) := by
  have F0 : FE M μ (jsetI μ M 33 (N 0)) := FE.slot (Or.inr rfl)
  obtain ⟨μ2, v, c1, c2, c3, c4, c5, c6, c7⟩ := ask_all 24 (d + 450) (jsetI μ M 33 (N 0)) [] p c (by omega) (F0.ev h) List.nodup_nil (fun s hs => by cases hs) rfl hp hc (if_pos ⟨rfl, rfl⟩) hi.slot (fun s hs => by cases hs)
  exact ⟨μ2, v, c1, F0.fv.trans c2.fv, (F0.trans c2).ev h, c7, c3, c4⟩
theorem fm_loop {u5 : Value} (hs : s < 4) (hc : c < 3) (hG8 : G.length ≤ 8) (hro : ∀ ν, EV ν M g G → jaI ν (.ref (M + 1)) (N g) = some (N G.length)) : ∀ (m i : Nat) (ν : jM) (u5 : Value), i + m = G.length → FFm M μ ν → EV ν M g G → EI G ν M [] → (∀ a, M + 416 ≤ a → a < M + 424 → a ≠ M + 419 + s → jiv ν a = jiv μ a) → (∀ j, j < i → jiv ν (M + 419 + s) j = (vlC G j c).2) → ∃ ν', jR (d + 451) 258 51 [.ref M, .int (N s), .int (N g), .int (N c), .int (N i), u5] [] ν = some (some (.int (N G.length)), ν') ∧ FFm M μ ν' ∧ EV ν' M g G ∧ (∀ a, M + 416 ≤ a → a < M + 424 → a ≠ M + 419 + s → jiv ν' a = jiv μ a) ∧ ∀ j, j < G.length → jiv ν' (M + 419 + s) j = (vlC G j c).2 := by
  intro m
  induction m with
  | zero =>
    intro i ν u5 hi F hv ei hsame hval
    have hi : i = G.length := by omega
    refine ⟨ν, ?_, F, hv, hsame, fun j hj => hval j (by omega)⟩
    have ro := hro ν hv
    rw [b258_51]
    simp only [gI13, gR13, pI13, pR13, rv13, hv.1.k13, hv.1.f.1, ro, if_true, Option.bind_some, rf_some]
    rw [if_neg (by rw [N_lt (by omega) (by omega)]; omega)]
  | succ m ih =>
    intro i ν u5 hi F hv ei hsame hval
    have ro := hro ν hv
    obtain ⟨μ2, v, c1, F2, v2, i2, w2, z2⟩ := r_moreE (d := d) hv ei (show i < G.length by omega) hc
    have q := hv.1
    have p := v2.1
    obtain ⟨p52, p53, p54, p55, f6, f7, f8, f9, f10⟩ := p.sh hs
    have K1 : jk (jsetI ν M 33 0) M = 13 := q.k13
    have ex : (3 : Int32) * N i + N c = N (i * 3 + c) := by rw [show (3 : Int32) = N 3 from rfl, N_mul, N_add, Nat.mul_comm 3]
    have s1 := ent_set (μ := μ2) (i := i) (v := (vlC G i c).2) f9 f10 (by omega) (by decide)
    have F3 : FFm M μ2 (jsetI μ2 (M + 419 + s) i (vlC G i c).2) := FFm.sheet (by omega)
    have e2 : ∀ a, M + 416 ≤ a → a < M + 424 → jiv μ2 a = jiv ν a := fun a h1 h2 => F2.1.iv (by omega)
    obtain ⟨ν', y1, y2⟩ := ih (i + 1) (jsetI μ2 (M + 419 + s) i (vlC G i c).2) (.int v) (by omega) ((F.trans F2.fm).trans F3) (v2.fm F3 ((congrFun (iv_setIn (by omega)) _).trans v2.2.2.2)) (i2.same fun a h1 h2 => iv_setIn (by omega)) (fun a h1 h2 h3 => (iv_setIn h3).trans ((e2 a h1 h2).trans (hsame a h1 h2 h3))) (fun j hj => by
      rw [ivs]
      by_cases e : j = i
      · rw [if_pos e, e]
      · rw [if_neg e, e2 _ (by omega) (by omega)]
        exact hval j (by omega))
    refine ⟨ν', ?_, y2⟩
    rw [← y1, b258_51]
    simp only [gI13, gR13, pI13, pR13, rv13, q.k13, q.f.1, ro, if_true, Option.bind_some, rf_some]
    rw [if_pos (by rw [N_lt (by omega) (by omega)]; omega)]
    simp only [jfit0, and_true, if_true, Option.bind_some, K1, ex, c1, decide_true]
    show jR (d + 451) 258 77 [.ref M, .int (N s), .int (N g), .int (N c), .int (N i), u5] [.int v] μ2 = _
    have put : jR (d + 451) 258 100 [.ref M, .int (N s), .int (N g), .int (N c), .int (N i), .int v] [.int (vlC G i c).2, .int (N i), .ref (M + 419 + s)] μ2 = jR (d + 451) 258 51 [.ref M, .int (N s), .int (N g), .int (N c), .int (N (i + 1)), .int v] [] (jsetI μ2 (M + 419 + s) i (vlC G i c).2) := by
      rw [b258_100 (hs0 := ir_ref)]
      simp only [s1, Option.bind_some, show (1 : Int32) = N 1 from rfl, N_add]
    rw [b258_77]
    simp only [gI13, gR13, pI13, pR13, rv13, p.k13, p54, f8, w2, if_true, Option.bind_some, rf_some]
    by_cases z : (vlC G i c).1 = N 0
    · rw [if_pos (show (vlC G i c).1 = 0 from z)]
      have e := z2 z
      rw [← put, e]
    · rw [if_neg (show ¬ (vlC G i c).1 = 0 from z), ← put, vlC_z i c z]
      rfl
theorem p_film (h : MR μ M σ) (s g c : Int32) : ROP M (jC (d + 451) 258 [.ref M, .int s, .int g, .int c] μ) μ (o_film σ s g c) := by
  have hq := h.1
  have k13 := hq.k13
  have rs := r_sort (d := d + 449) (μ := μ) s
  have rg := r_grid (d := d + 449) (μ := μ) g
  have rc := r_col (d := d + 449) (μ := μ) c
  have rs : jC (d + 450) 256 [.int s] μ = _ := rs
  have rg : jC (d + 450) 170 [.int g] μ = _ := rg
  have rc : jC (d + 450) 171 [.int c] μ = _ := rc
  have bad : ∀ u v, jR (d + 451) 258 21 [.ref M, .int s, .int g, .int c, u, v] [] μ = some (some (.int aBAD), μ) := fun u v => b258_21 ..
  have st : jC (d + 451) 258 [.ref M, .int s, .int g, .int c] μ = jR (d + 451) 258 4 [.ref M, .int s, .int g, .int c, .retAddr 0, .retAddr 0] [.int (okI (ix 4 s))] μ := by
    rw [jC_run (by decide)]
    show jR (d + 451) 258 0 [.ref M, .int s, .int g, .int c, .retAddr 0, .retAddr 0] [] μ = _
    rw [b258_0, rs]
    rfl
  rw [st, b258_4]
  unfold o_film
  cases es : ix 4 s with
  | none =>
    rw [if_pos (by rw [okI_0])]
    exact ⟨μ, bad _ _, FR.refl, h⟩
  | some s =>
    obtain ⟨rfl, hs⟩ := ix_some (by decide) es
    rw [if_neg (by rw [okI_0]; simp), rg]
    show ROP M (jR (d + 451) 258 11 [.ref M, .int (N s), .int g, .int c, .retAddr 0, .retAddr 0] [.int (okI (ix 4 g))] μ) μ _
    rw [b258_11]
    cases eg : ix 4 g with
    | none =>
      rw [if_pos (by rw [okI_0])]
      exact ⟨μ, bad _ _, FR.refl, h⟩
    | some g =>
      obtain ⟨rfl, hg⟩ := ix_some (by decide) eg
      rw [if_neg (by rw [okI_0]; simp), rc]
      show ROP M (jR (d + 451) 258 18 [.ref M, .int (N s), .int (N g), .int c, .retAddr 0, .retAddr 0] [.int (okI (ix 3 c))] μ) μ _
      rw [b258_18]
      cases ec : ix 3 c with
      | none =>
        rw [if_pos (by rw [okI_0])]
        exact ⟨μ, bad _ _, FR.refl, h⟩
      | some c =>
        obtain ⟨rfl, hc⟩ := ix_some (by decide) ec
        rw [if_neg (by rw [okI_0]; simp)]
        obtain ⟨μ1, a1, a2, a3, a4⟩ := r_asksAnew (d := d + 450) (g := g) (G := σ.1.1 g) hq
        have m1 := a2.mr h
        have q1 := m1.1
        have l8 := h.l8 g hg
        have hro : ∀ ν, EV ν M g (σ.1.1 g) → jaI ν (.ref (M + 1)) (N g) = some (N (σ.1.1 g).length) := fun ν hv => by
          have ro := hv.1.ro hg
          have e1 : jiv ν (M + 1) g = N (vN ν (mA M g)) := hv.2.2.1.1.1.1
          rw [e1, hv.len.2] at ro
          exact ro
        have v1 := m1.ev hg a3
        obtain ⟨p52, p53, p54, p55, f6, f7, f8, f9, f10⟩ := q1.sh hs
        have k6 : jk μ1 (M + 416) = 20 ∧ jl μ1 (M + 416) = 4 := q1.kd (o := 416) (by decide) rfl
        have k7 : jk μ1 (M + 417) = 20 ∧ jl μ1 (M + 417) = 4 := q1.kd (o := 417) (by decide) rfl
        have s1 := ent_set (μ := μ1) (i := s) (v := N 1) k6.1 k6.2 hs (by decide)
        have s1 : jsI μ1 (.ref (M + 416)) (N s) 1 = _ := s1
        have s2 := ent_set (μ := jsetI μ1 (M + 416) s (N 1)) (i := s) (v := N (σ.1.1 g).length) k7.1 k7.2 hs (by decide)
        have F1 : FFm M μ1 (jsetI μ1 (M + 416) s (N 1)) := FFm.sheet (by omega)
        have F2 : FFm M (jsetI μ1 (M + 416) s (N 1)) (jsetI (jsetI μ1 (M + 416) s (N 1)) (M + 417) s (N (σ.1.1 g).length)) := FFm.sheet (by omega)
        have vX := v1.fm F1 ((congrFun (iv_setIn (by omega)) _).trans a3)
        have v2 := vX.fm F2 ((congrFun (iv_setIn (by omega)) _).trans vX.2.2.2)
        have ro := hro _ vX
        obtain ⟨ν, y1, y2, y3, y4, y5⟩ := fm_loop (d := d) (u5 := .retAddr 0) (s := s) (c := c) (μ := jsetI (jsetI μ1 (M + 416) s (N 1)) (M + 417) s (N (σ.1.1 g).length)) hs hc l8 hro (σ.1.1 g).length 0 _ (.retAddr 0) (by omega) FFm.refl v2 (a4.same fun a h1 h2 => (iv_setIn (by omega)).trans (iv_setIn (by omega))) (fun a _ _ _ => rfl) (fun j hj => by omega)
        have FT := (F1.trans F2).trans y2
        have h13 : A3 ν M 13 := fun k hk => (aA_keep FT.1 (fun a h1 h2 q => by omega) (fun a j h1 h2 q => by omega) (show 13 < 14 by decide) hk (m1.2.1 13 (by decide) k hk)).1
        have len : ((List.range (σ.1.1 g).length).map fun i => (vlC (σ.1.1 g) i c).2).length = (σ.1.1 g).length := by rw [List.length_map, List.length_range]
        have e6 : jiv ν (M + 416) = fun j => if j = s then N 1 else jiv μ1 (M + 416) j := by
          rw [y4 _ (by omega) (by omega) (by omega)]
          funext j
          rw [iv_setIn (show ¬ M + 416 = M + 417 by omega), ivs]
        have e7 : jiv ν (M + 417) = fun j => if j = s then N (σ.1.1 g).length else jiv μ1 (M + 417) j := by
          rw [y4 _ (by omega) (by omega) (by omega)]
          funext j
          rw [ivs, iv_setIn (show ¬ M + 417 = M + 416 by omega)]
        have hf : MRs ν M (updf σ.2.2.2.2.2 s (N 1, (List.range (σ.1.1 g).length).map fun i => (vlC (σ.1.1 g) i c).2)) := by
          intro x hx
          obtain ⟨t1, t2, t3, t4⟩ := m1.2.2.2.2.2.2.2.2.2 x hx
          rw [e6, e7]
          unfold updf
          by_cases e : x = s
          · subst e
            rw [if_pos rfl]
            refine ⟨if_pos rfl, by rw [len]; omega, by rw [len]; exact if_pos rfl, fun j v hj => ?_⟩
            have hjl : j < (σ.1.1 g).length := by
              have := (List.getElem?_eq_some_iff.mp hj).1
              rwa [len] at this
            rw [List.getElem?_map, List.getElem?_range hjl] at hj
            rw [y5 j hjl]
            exact Option.some.inj hj
          · rw [if_neg e]
            refine ⟨by simp only [if_neg e]; exact t1, t2, by simp only [if_neg e]; exact t3, ?_⟩
            rw [y4 (M + 419 + x) (by omega) (by omega) (by omega)]
            rw [iv_setIn (show ¬ M + 419 + x = M + 417 by omega), iv_setIn (show ¬ M + 419 + x = M + 416 by omega)]
            exact t4
        obtain ⟨z1, z2⟩ := m1.asides (FT.1.mono (fun a k => by unfold SNs SN; omega) (fun a j k => Or.inr (Or.inr k))) (fun j hj => FT.2 j (by omega) (by omega) (by omega)) h13 hf
        refine ⟨ν, ?_, a2.fn.fr.trans z1, z2⟩
        have K1 : jk (jsetI μ1 (M + 416) s (N 1)) M = 13 := q1.k13
        have V1 : jrv (jsetI μ1 (M + 416) s (N 1)) = jrv μ1 := rfl
        simp only [gI13, gR13, pI13, pR13, rv13, k13, a1, if_true, Option.bind_some]
        show jR (d + 451) 258 29 [.ref M, .int (N s), .int (N g), .int (N c), .retAddr 0, .retAddr 0] [] μ1 = _
        rw [b258_29]
        simp only [gI13, gR13, pI13, pR13, rv13, q1.k13, p52, s1, K1, V1, p53, q1.f.1, ro, s2, if_true, Option.bind_some, rf_some]
        exact y1
end LAY
