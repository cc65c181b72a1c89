/-! THE REFERENCE's CALLS: told, value -/
/-- evaluation's frame -/
def FV (M : Nat) (μ μ' : jM) : Prop := Fx (fun a => a = M ∨ (M + 401 ≤ a ∧ a < M + 405)) (fun a j => a = M ∧ j = 34) μ μ' ∧ ∀ j, j ≠ 31 → j ≠ 32 → j ≠ 33 → jiv μ' M j = jiv μ M j
section LAY
variable {μ μ' μ'' ν : jM} {S : List Nat} {M g h t s n w d D i j k x y a b c f q p H rt : Nat} {G : DG} {L A B : List (Int32 × Int32)} {v : Int32} {r : VT} {e e1 e2 : Ex} {σ : SG}
theorem ask_all : ∀ k, AskR G M g (18 * (k + 1)) k
  | 0 => ask_step (H := 0) (fun k' e => by omega)
  | k + 1 => ask_step (H := 18 * (k + 1)) (fun k' e => by
      have : k = k' := by omega
      subst this
      exact ask_all k)
theorem FV.trans (a : FV M μ μ') (b : FV M μ' μ'') : FV M μ μ'' := ⟨a.1.trans b.1, fun j h1 h2 h3 => (b.2 j h1 h2 h3).trans (a.2 j h1 h2 h3)⟩
theorem FE.fv (F : FE M μ μ') : FV M μ μ' := ⟨F.1, fun j _ h2 h3 => F.2 j h2 h3⟩
theorem FV.fn (F : FV M μ μ') : FN M μ μ' := ⟨F.1.mono (fun a k => by unfold SN; omega) (fun a j k => Or.inr (Or.inr k)), fun j hj => F.2 j (by omega) (by omega) (by omega)⟩
theorem FV.a3 (F : FV M μ μ') (h : A3 μ M 13) : A3 μ' M 13 := fun g hg => (aA_keep F.1 (fun a h1 h2 q => by omega) (fun a j h1 h2 q => by omega) (show 13 < 14 by decide) hg (h g hg)).1
theorem FV.th (F : FV M μ μ') {τ : SG} (h : TH μ M τ) : TH μ' M τ := h.keep F.1 F.fn.fd (fun a k => by omega) (fun a j k => by omega)
theorem FV.mr (F : FV M μ μ') (h : MR μ M σ) : MR μ' M σ := h.aside F.fn (F.a3 (h.2.1 13 (by decide)))
/-- asked anew -/
theorem r_asksAnew (hq : QS μ M) : ∃ μ', jC d 209 [.ref M, .int (N g)] μ = some (none, μ') ∧ FV M μ μ' ∧ jiv μ' M 31 = N g ∧ EI G μ' M [] := by
  have k13 := hq.k13
  have FF : ∀ ν, Fx (fun a => a = M ∨ a = M + 403 ∨ a = M + 404) (fun _ _ => False) μ ν → (∀ j, j ≠ 31 → jiv ν M j = jiv μ M j) → FN M μ ν := fun ν F h => ⟨F.mono (fun a k => by unfold SN; omega) (fun a j k => k.elim), fun j hj => h j (by omega)⟩
  have loop : ∀ (m n : Nat) (ν : jM), n + m = 24 → Fx (fun a => a = M ∨ a = M + 403 ∨ a = M + 404) (fun _ _ => False) μ ν → (∀ j, j ≠ 31 → jiv ν M j = jiv μ M j) → jiv ν M 31 = N g → (∀ j, j < n → jiv ν (M + 403) j = N 0 ∧ jiv ν (M + 404) j = N 0) → ∃ ν', jR d 209 7 [.ref M, .int (N g), .int (N n)] [] ν = some (none, ν') ∧ Fx (fun a => a = M ∨ a = M + 403 ∨ a = M + 404) (fun _ _ => False) μ ν' ∧ (∀ j, j ≠ 31 → jiv ν' M j = jiv μ M j) ∧ jiv ν' M 31 = N g ∧ ∀ j, j < 24 → jiv ν' (M + 403) j = N 0 ∧ jiv ν' (M + 404) j = N 0 := by
    intro m
    induction m with
    | zero =>
      intro n ν hn F h1 h2 hv
      have : n = 24 := by omega
      subst this
      exact ⟨ν, by rw [b209_7, if_neg (by decide)], F, h1, h2, hv⟩
    | succ m ih =>
      intro n ν hn F h1 h2 hv
      have q : QS ν M := (FF ν F h1).qs hq
      obtain ⟨⟨q27, q28, q29, q30⟩, k1, k2, k3, k4⟩ := q.val
      have s3 := sBool (μ := ν) (a := M + 403) (i := n) (v := 0) k3.1 (by rw [k3.2]; omega) (by rw [k3.2]; decide) (by decide)
      have s4 := sBool (μ := jsetI ν (M + 403) n (N 0)) (a := M + 404) (i := n) (v := 0) k4.1 (by show n < jl ν (M + 404); rw [k4.2]; omega) (by show jl ν (M + 404) < _; rw [k4.2]; decide) (by decide)
      have s3 : jsB ν (.ref (M + 403)) (N n) 0 = _ := s3
      have s4 : jsB (jsetI ν (M + 403) n (N 0)) (.ref (M + 404)) (N n) 0 = _ := s4
      obtain ⟨ν', w1, w2⟩ := ih (n + 1) (jsetI (jsetI ν (M + 403) n (N 0)) (M + 404) n (N 0)) (by omega) (Fx.setI (Fx.setI F (Or.inr (Or.inl rfl))) (Or.inr (Or.inr rfl))) (fun j hj => by
        rw [iv_setIn (show ¬ M = M + 404 by omega), iv_setIn (show ¬ M = M + 403 by omega)]; exact h1 j hj) (by
        rw [iv_setIn (show ¬ M = M + 404 by omega), iv_setIn (show ¬ M = M + 403 by omega)]; exact h2) (fun j hj => by
        rw [iv_setIn (show ¬ M + 403 = M + 404 by omega), ivs, ivs, iv_setIn (show ¬ M + 404 = M + 403 by omega)]
        by_cases e : j = n
        · rw [if_pos e, if_pos e]; exact ⟨rfl, rfl⟩
        · rw [if_neg e, if_neg e]; exact hv j (by omega))
      refine ⟨ν', ?_, w2⟩
      have KX : jk (jsetI ν (M + 403) n (N 0)) M = 13 := q.k13
      have VX : jrv (jsetI ν (M + 403) n (N 0)) = jrv ν := rfl
      rw [b209_7, if_pos (by show N n < N 24; rw [N_lt (by omega) (by decide)]; omega)]
      simp only [gI13, gR13, pI13, pR13, rv13, q.k13, q29, s3, KX, VX, q30, s4, if_true, Option.bind_some, rf_some, show (1 : Int32) = N 1 from rfl, N_add]
      exact w1
  obtain ⟨ν', w1, w2, w3, w4, w5⟩ := loop 24 0 (jsetI μ M 31 (N g)) (by decide) (Fx.setI Fx.refl (Or.inl rfl)) (fun j hj => ivj hj) (if_pos ⟨rfl, rfl⟩) (fun j hj => by omega)
  refine ⟨ν', ?_, ⟨w2.mono (fun a k => by omega) (fun a j k => k.elim), fun j h1 _ _ => w3 j h1⟩, w4, fun c hc => Or.inr ⟨(w5 c hc).2, by simp, Or.inl (w5 c hc).1⟩⟩
  rw [jC_run (by decide)]
  show jR d 209 0 [.ref M, .int (N g), .retAddr 0] [] μ = _
  rw [b209_0]
  simp only [gI13, gR13, pI13, pR13, rv13, k13, jfit0, and_true, if_true, Option.bind_some]
  exact w1
/-- evaluation leaves what is laid aside -/
theorem FE.a3 (F : FE M μ μ') (h : A3 μ M 13) : A3 μ' M 13 := fun g hg => (aA_keep F.1 (fun a h1 h2 q => by omega) (fun a j h1 h2 q => by omega) (show 13 < 14 by decide) hg (h g hg)).1
theorem MR.ev (h : MR μ M σ) (hg : g < 4) (h31 : jiv μ M 31 = N g) : EV μ M g (σ.1.1 g) := ⟨h.1, hg, h.2.2.1 g hg, h31⟩
/-- one cell asked anew -/
theorem r_anew (h : MR μ M σ) (hg : g < 4) (hp : p < (σ.1.1 g).length) (hc : c < 3) : ∃ μ1 μ2 v, jC (d + 450) 209 [.ref M, .int (N g)] μ = some (none, μ1) ∧ MR μ1 M σ ∧ jC (d + 450) 210 [.ref M, .int (N (p * 3 + c))] (jsetI μ1 M 33 (N 0)) = some (some (.int v), μ2) ∧ FR M μ μ2 ∧ MR μ2 M σ ∧ jiv μ2 M 33 = (vlC (σ.1.1 g) p c).1 ∧ ((vlC (σ.1.1 g) p c).1 = N 0 → v = (vlC (σ.1.1 g) p c).2) := by
  obtain ⟨μ1, a1, a2, a3, a4⟩ := r_asksAnew (d := d + 450) (g := g) (G := σ.1.1 g) h.1
  have m1 : MR μ1 M σ := a2.mr h
  obtain ⟨b1, b2⟩ := m1.slot (j := 33) (v := N 0) (by omega)
  have e31 : jiv (jsetI μ1 M 33 (N 0)) M 31 = N g := (ivj (by decide)).trans a3
  obtain ⟨μ2, v, c1, c2, c3, c4, c5, c6, c7⟩ := ask_all 24 (d + 450) (jsetI μ1 M 33 (N 0)) [] p c (by omega) (b1.ev hg e31) List.nodup_nil (fun s hs => by cases hs) rfl hp hc (if_pos ⟨rfl, rfl⟩) a4.slot (fun s hs => by cases hs)
  have m2 : MR μ2 M σ := b1.aside c2.fn (c2.a3 (b1.2.1 13 (by decide)))
  exact ⟨μ1, μ2, v, a1, m1, c1, (a2.fn.fr.trans b2.fr).trans c2.fn.fr, m2, c3, c4⟩
theorem cell4 {x y z : Int32} {q : Nat × Nat × Nat} (h8 : ∀ g, g < 4 → (σ.1.1 g).length ≤ 8) (h : cix σ 4 x y z = some q) : x = N q.1 ∧ y = N q.2.1 ∧ z = N q.2.2 ∧ q.1 < 4 ∧ q.2.1 < (σ.1.1 q.1).length ∧ q.2.2 < 3 := by
  unfold cix at h
  cases e0 : ix 4 x with
  | none => rw [e0] at h; cases h
  | some g =>
    obtain ⟨rfl, hg⟩ := ix_some (by decide) e0
    rw [e0] at h
    have h8 := h8 g hg
    obtain ⟨r, c, rfl, rfl, rfl, hr, hc⟩ := cell3 (g := g) (n := (σ.1.1 g).length) (by omega) h
    exact ⟨rfl, rfl, rfl, hg, hr, hc⟩
theorem MR.l8 (h : MR μ M σ) : ∀ g, g < 4 → (σ.1.1 g).length ≤ 8 := fun g hg => by
  obtain ⟨-, -, -, a, b⟩ := h.gq hg
  omega
theorem r_isCell (h : MR μ M σ) (x y z : Int32) : jC (d + 2) 169 [.ref M, .int x, .int y, .int z] μ = some (some (.int (okI (cix σ 4 x y z))), μ) := by
  have e : ((ix 4 x).bind fun g => (ix (vN μ (mA M g)) y).bind fun r => (ix 3 z).map fun c => (g, r, c)) = cix σ 4 x y z := by
    unfold cix
    cases e : ix 4 x with
    | none => simp only [Option.bind_none]
    | some g =>
      obtain ⟨-, hg⟩ := ix_some (by decide) e
      have hl := (h.gq hg).2.2.2.1
      simp only [Option.bind_some]
      rw [hl]
  have c := r_cell (d := d) h.1 (fun g hg => (h.2.2.1 g hg).1.gw) x y z
  rw [e] at c
  exact c
theorem p_told (h : MR μ M σ) (g r c w : Int32) : ROP M (jC (d + 451) 208 [.ref M, .int g, .int r, .int c, .int w] μ) μ (o_told σ g r c w) := by
  have hq := h.1
  have k13 := hq.k13
  have ic := r_isCell (d := d + 448) h g r c
  have bad : ∀ u v, jR (d + 451) 208 20 [.ref M, .int g, .int r, .int c, .int w, u, v] [] μ = some (some (.int aBAD), μ) := fun u v => b208_20 ..
  have st : jC (d + 451) 208 [.ref M, .int g, .int r, .int c, .int w] μ = jR (d + 451) 208 7 [.ref M, .int g, .int r, .int c, .int w, .retAddr 0, .retAddr 0] [.int (okI (cix σ 4 g r c))] μ := by
    rw [jC_run (by decide)]
    show jR (d + 451) 208 0 [.ref M, .int g, .int r, .int c, .int w, .retAddr 0, .retAddr 0] [] μ = _
    rw [b208_0]
    simp only [gI13, gR13, pI13, pR13, rv13, k13, ic, if_true, Option.bind_some]
    rfl
  rw [st, b208_7]
  unfold o_told
  cases eq : cix σ 4 g r c with
  | none =>
    rw [if_pos (by rw [okI_0])]
    exact ⟨μ, bad _ _, FR.refl, h⟩
  | some q =>
    obtain ⟨rfl, rfl, rfl, hg, hr, hc⟩ := cell4 h.l8 eq
    obtain ⟨g, r, c⟩ := q
    have hg : g < 4 := hg
    have hr : r < (σ.1.1 g).length := hr
    have hc : c < 3 := hc
    have l8 := h.l8 g hg
    rw [if_neg (by rw [okI_0]; simp)]
    have r3 : jC (d + 450) 165 [.int w, .int 0, .int 3] μ = some (some (.int (if w < N 0 ∨ N 3 < w then N 0 else N 1)), μ) := r_btw w (N 0) (N 3)
    rw [r3]
    show ROP M (jR (d + 451) 208 17 [.ref M, .int (N g), .int (N r), .int (N c), .int w, .retAddr 0, .retAddr 0] [.int (if w < N 0 ∨ N 3 < w then N 0 else N 1)] μ) μ (if w = N 0 then ((cO [] (σ.1.1 g) (some r) c).1, σ) else if w = N 1 then ((cO [] (σ.1.1 g) (some r) c).2.2.2, σ) else if w = N 2 then (keyO (σ.1.1 g) r, σ) else if w = N 3 then ((vlC (σ.1.1 g) r c).1, σ) else (aBAD, σ))
    rw [b208_17]
    by_cases ew : w < N 0 ∨ N 3 < w
    · rw [if_pos ew, if_pos (show N 0 = 0 from rfl)]
      have n : ∀ k : Nat, k ≤ 3 → ¬ w = N k := by
        rintro k hk rfl
        rcases ew with z | z
        · rw [N_lt (by omega) (by decide)] at z; omega
        · rw [N_lt (by decide) (by omega)] at z; omega
      rw [if_neg (n 0 (by decide)), if_neg (n 1 (by decide)), if_neg (n 2 (by decide)), if_neg (n 3 (by decide))]
      exact ⟨μ, bad _ _, FR.refl, h⟩
    · rw [if_neg ew, if_neg (show ¬ N 1 = 0 by decide)]
      obtain ⟨w0, hw0, rfl⟩ := N_of (fun z => ew (Or.inl z))
      have hw3 : w0 ≤ 3 := by
        have : ¬ N 3 < N w0 := fun z => ew (Or.inr z)
        rw [N_lt (by decide) hw0] at this
        omega
      obtain ⟨r8, ec, mc⟩ := h.cell hg hc hr
      have gg := hq.gk hg
      have gr := hq.gr hg
      have ex : (3 : Int32) * N r + N c = N (r * 3 + c) := by rw [show (3 : Int32) = N 3 from rfl, N_mul, N_add, Nat.mul_comm 3]
      have a1 := ent_get (μ := μ) (i := r * 3 + c) gg.2.1.1 gg.2.1.2 (by omega) (by decide)
      have a2 := ent_get (μ := μ) (i := r * 3 + c) gg.2.2.2.1.1 gg.2.2.2.1.2 (by omega) (by decide)
      have a3 := ent_get (μ := μ) (i := r) gg.1.1 gg.1.2 (by omega) (by decide)
      have fin : ∀ a b c e f u v x, jR (d + 451) 208 79 [a, b, c, e, f, u, v] [.int x] μ = some (some (.int x), μ) := fun a b c e f u v x => b208_79 ..
      rcases (show w0 = 0 ∨ w0 = 1 ∨ w0 = 2 ∨ w0 = 3 by omega) with rfl | rfl | rfl | rfl
      · rw [if_pos (show N 0 < 3 by decide), if_pos (show N 0 = 0 from rfl), if_pos rfl]
        simp only [gI13, gR13, pI13, pR13, rv13, k13, hq.f.2.2.1, gr.2.1, ex, a1, if_true, Option.bind_some, rf_some, fin]
        exact ⟨μ, by rw [ec]; rfl, FR.refl, h⟩
      · rw [if_pos (show N 1 < 3 by decide), if_neg (show ¬ N 1 = 0 by decide), if_pos (show N 1 = 1 from rfl), if_neg (by decide), if_pos rfl]
        simp only [gI13, gR13, pI13, pR13, rv13, k13, hq.f.2.2.2.2.1, gr.2.2.2.1, ex, a2, if_true, Option.bind_some, rf_some, fin]
        exact ⟨μ, by rw [ec]; rfl, FR.refl, h⟩
      · rw [if_pos (show N 2 < 3 by decide), if_neg (show ¬ N 2 = 0 by decide), if_neg (show ¬ N 2 = 1 by decide), if_neg (by decide), if_neg (by decide), if_pos rfl]
        simp only [gI13, gR13, pI13, pR13, rv13, k13, hq.f.2.1, gr.1, a3, if_true, Option.bind_some, rf_some, fin]
        exact ⟨μ, by rw [h.key hg hr], FR.refl, h⟩
      · rw [if_neg (show ¬ N 3 < 3 by decide), if_neg (show ¬ N 3 = N 0 by decide), if_neg (show ¬ N 3 = N 1 by decide), if_neg (show ¬ N 3 = N 2 by decide), if_pos rfl]
        obtain ⟨μ1, μ2, v, b1, b2, b3, b4, b5, b6, b7⟩ := r_anew (d := d) h hg hr hc
        simp only [gI13, gR13, pI13, pR13, rv13, k13, b1, ex, if_true, Option.bind_some]
        show ROP M (jR (d + 451) 208 85 [.ref M, .int (N g), .int (N r), .int (N c), .int (N 3), .int (N (r * 3 + c)), .retAddr 0] [] μ1) μ _
        have K1 : jk (jsetI μ1 M 33 (N 0)) M = 13 := b2.1.k13
        have b3 : jC (d + 450) 210 [.ref M, .int (N (r * 3 + c))] (jsetI μ1 M 33 0) = some (some (.int v), μ2) := b3
        refine ⟨μ2, ?_, b4, b5⟩
        rw [b208_85]
        have K1 : jk (jsetI μ1 M 33 0) M = 13 := b2.1.k13
        simp only [gI13, gR13, pI13, pR13, rv13, b2.1.k13, K1, b3, jfit0, and_true, if_true, Option.bind_some]
        show jR (d + 451) 208 96 [.ref M, .int (N g), .int (N r), .int (N c), .int (N 3), .int (N (r * 3 + c)), .retAddr 0] [.int v] μ2 = _
        rw [b208_96]
        simp only [gI13, gR13, pI13, pR13, rv13, b5.1.k13, if_true, Option.bind_some, b6]
theorem p_value (h : MR μ M σ) (g r c : Int32) : ∃ μ', jC (d + 451) 218 [.ref M, .int g, .int r, .int c] μ = some (some (.long (o_value σ g r c)), μ') ∧ FR M μ μ' ∧ MR μ' M σ := by
  have hq := h.1
  have k13 := hq.k13
  have ic := r_isCell (d := d + 448) h g r c
  have st : jC (d + 451) 218 [.ref M, .int g, .int r, .int c] μ = jR (d + 451) 218 7 [.ref M, .int g, .int r, .int c, .retAddr 0] [.int (okI (cix σ 4 g r c))] μ := by
    rw [jC_run (by decide)]
    show jR (d + 451) 218 0 [.ref M, .int g, .int r, .int c, .retAddr 0] [] μ = _
    rw [b218_0]
    simp only [gI13, gR13, pI13, pR13, rv13, k13, ic, if_true, Option.bind_some]
    rfl
  rw [st, b218_7]
  unfold o_value
  cases eq : cix σ 4 g r c with
  | none =>
    rw [if_pos (by rw [okI_0])]
    exact ⟨μ, rfl, FR.refl, h⟩
  | some q =>
    obtain ⟨rfl, rfl, rfl, hg, hr, hc⟩ := cell4 h.l8 eq
    obtain ⟨g, r, c⟩ := q
    have hg : g < 4 := hg
    have hr : r < (σ.1.1 g).length := hr
    have hc : c < 3 := hc
    rw [if_neg (by rw [okI_0]; simp)]
    have ex : (3 : Int32) * N r + N c = N (r * 3 + c) := by rw [show (3 : Int32) = N 3 from rfl, N_mul, N_add, Nat.mul_comm 3]
    obtain ⟨μ1, μ2, v, b1, b2, b3, b4, b5, b6, b7⟩ := r_anew (d := d) h hg hr hc
    simp only [gI13, gR13, pI13, pR13, rv13, k13, b1, if_true, Option.bind_some]
    show ∃ μ', jR (d + 451) 218 19 [.ref M, .int (N g), .int (N r), .int (N c), .retAddr 0] [] μ1 = some (some (.long (if (vlC (σ.1.1 g) r c).1 = N 0 then (vlC (σ.1.1 g) r c).2.toInt64 else aNO)), μ') ∧ _
    have K1 : jk (jsetI μ1 M 33 0) M = 13 := b2.1.k13
    have b3 : jC (d + 450) 210 [.ref M, .int (N (r * 3 + c))] (jsetI μ1 M 33 0) = some (some (.int v), μ2) := b3
    refine ⟨μ2, ?_, b4, b5⟩
    rw [b218_19]
    simp only [gI13, gR13, pI13, pR13, rv13, b2.1.k13, K1, ex, b3, jfit0, and_true, if_true, Option.bind_some]
    show jR (d + 451) 218 33 [.ref M, .int (N g), .int (N r), .int (N c), .retAddr 0] [.int v] μ2 = _
    rw [b218_33]
    simp only [gI13, gR13, pI13, pR13, rv13, b5.1.k13, if_true, Option.bind_some, b6]
    by_cases e0 : (vlC (σ.1.1 g) r c).1 = N 0
    · rw [if_pos (show (vlC (σ.1.1 g) r c).1 = 0 from e0), if_pos e0, b218_51, b7 e0]
    · rw [if_neg (show ¬ (vlC (σ.1.1 g) r c).1 = 0 from e0), if_neg e0, b218_51]
      rfl
end LAY
