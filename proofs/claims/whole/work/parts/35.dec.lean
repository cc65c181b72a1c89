/-! THE METHODS OF Grid, on grids as they are read -/
/-- what lies behind D stays -/
def FD (D : Nat) (μ μ' : jM) : Prop := ∀ a, jk μ a ≠ 99 → jk μ' a = jk μ a ∧ jl μ' a = jl μ a ∧ (D ≤ a → jiv μ' a = jiv μ a ∧ jrv μ' a = jrv μ a)
/-- a good grid -/
def GV (μ : jM) (D g : Nat) : Prop := g + 6 ≤ D ∧ Gs μ g ∧ Gn μ g ∧ rowsOK μ D (rG μ (xA g))
section DEC
variable {μ μ' μ'' : jM} {D g h d f : Nat} {p q : Option Nat} {c : Nat}
theorem FD.refl : FD D μ μ := fun _ _ => ⟨rfl, rfl, fun _ => ⟨rfl, rfl⟩⟩
theorem FD.trans (a : FD D μ μ') (b : FD D μ' μ'') : FD D μ μ'' := fun x hx =>
  have ha := a x hx
  have hb := b x (by rw [ha.1]; exact hx)
  ⟨hb.1.trans ha.1, hb.2.1.trans ha.2.1, fun hd => ⟨(hb.2.2 hd).1.trans (ha.2.2 hd).1, (hb.2.2 hd).2.trans (ha.2.2 hd).2⟩⟩
theorem Fx.fd {S : Nat → Prop} {T : Nat → Nat → Prop} (F : Fx S T μ μ') (hS : ∀ a, S a → a < D) (hT : ∀ a j, T a j → a < D) : FD D μ μ' :=
  fun a _ => ⟨by rw [F.kk], by rw [F.ll], fun ha => ⟨F.iv (fun k => by have := hS a k; omega), by funext j; exact F.rv (fun k => by have := hT a j k; omega)⟩⟩
theorem FG.fd (F : FG g μ μ') (hg : g + 6 ≤ D) : FD D μ μ' := Fx.fd F (fun a ha => by omega) (fun a j ha => by omega)
theorem FD.fs (F : FD D μ μ') (hs : FS μ D f) : FS μ' D f ∧ ftk μ' f = ftk μ f ∧ ford μ' f = ford μ f := by
  obtain ⟨h1, h2, h3, h4, h5, h6, h7⟩ := hs
  have f0 := F f (by rw [h1]; decide)
  have e : ∀ j, fa μ' f j = fa μ f j := fun j => by unfold fa; rw [(f0.2.2 h2).2]
  have fj : ∀ j, j < 4 → jk μ' (fa μ f j) = jk μ (fa μ f j) ∧ jl μ' (fa μ f j) = jl μ (fa μ f j) ∧ jiv μ' (fa μ f j) = jiv μ (fa μ f j) := fun j hj => by
    have g := F (fa μ f j) (by rw [(h3 j hj).2.2]; decide)
    exact ⟨g.1, g.2.1, (g.2.2 (h3 j hj).2.1).1⟩
  refine ⟨⟨by rw [f0.1]; exact h1, h2, fun j hj => ?_, ?_, ?_, ?_, ?_⟩, ?_, ?_⟩
  · rw [e, (f0.2.2 h2).2, (fj j hj).1]; exact h3 j hj
  · rw [e, e, (fj 1 (by decide)).2.1, (fj 0 (by decide)).2.1]; exact h4
  · rw [e, e, (fj 2 (by decide)).2.1, (fj 0 (by decide)).2.1]; exact h5
  · rw [e, (fj 0 (by decide)).2.1]; exact h6
  · rw [e, (fj 3 (by decide)).2.1]; exact h7
  · unfold ftk
    rw [e, e, e, (fj 0 (by decide)).2.1, (fj 0 (by decide)).2.2, (fj 1 (by decide)).2.2, (fj 2 (by decide)).2.2]
  · unfold ford
    rw [e, (fj 3 (by decide)).2.1, (fj 3 (by decide)).2.2]
theorem FD.cell (F : FD D μ μ') {x : RC (Option Nat)} (hx : cellOK μ D x) : cellOK μ' D x ∧ rcm (dF μ') x = rcm (dF μ) x := by
  rcases hx with hx | hx | ⟨h1, h2, f, h3, h4, h5⟩
  · refine ⟨Or.inl hx, ?_⟩
    unfold rcm; rw [hx.2.2]; rfl
  · refine ⟨Or.inr (Or.inl hx), ?_⟩
    unfold rcm; rw [hx.2]; rfl
  · obtain ⟨g1, g2, g3⟩ := F.fs h4
    refine ⟨Or.inr (Or.inr ⟨h1, h2, f, h3, g1, by rw [g2, g3]; exact h5⟩), ?_⟩
    unfold rcm dF; rw [h3]; simp only [g2]
theorem FD.rows (F : FD D μ μ') {l : List (RW (Option Nat))} (hl : rowsOK μ D l) : rowsOK μ' D l ∧ l.map (rwm (dF μ')) = l.map (rwm (dF μ)) := by
  refine ⟨fun w hw => ⟨(F.cell (hl w hw).1).1, (F.cell (hl w hw).2.1).1, (F.cell (hl w hw).2.2).1⟩, ?_⟩
  refine List.map_congr_left fun w hw => ?_
  unfold rwm
  rw [(F.cell (hl w hw).1).2, (F.cell (hl w hw).2.1).2, (F.cell (hl w hw).2.2).2]
/-- a grid that is outside -/
theorem GV.out (hg : GV μ D h) (F : FG g μ μ') (h1 : g + 6 ≤ D) (hd : g + 6 ≤ h ∨ h + 6 ≤ g) : GV μ' D h ∧ dG μ' (xA h) = dG μ (xA h) := by
  obtain ⟨h0, h2, h3, h4⟩ := hg
  obtain ⟨e1, e2⟩ := F.rows hd
  obtain ⟨e3, e4⟩ := (F.fd h1).rows h4
  refine ⟨⟨h0, F.gs' hd h2, F.gn' hd h3, by rw [e1]; exact e3⟩, ?_⟩
  unfold dG
  rw [e1]; exact e4
/-- any change that is outside -/
theorem GV.outx {S : Nat → Prop} {T : Nat → Nat → Prop} (hg : GV μ D h) (F : Fx S T μ μ') (hS : ∀ a, S a → a < D ∧ (a < h ∨ h + 6 ≤ a)) (hT : ∀ a j, T a j → a < D ∧ (a < h ∨ h + 6 ≤ a)) : GV μ' D h ∧ dG μ' (xA h) = dG μ (xA h) := by
  obtain ⟨h0, ⟨k1, k2, k3⟩, h3, h4⟩ := hg
  have hi : ∀ j, j < 6 → jiv μ' (h + j) = jiv μ (h + j) := fun j hj => F.iv (fun k => by have := hS _ k; omega)
  have hr : ∀ j, j < 6 → ∀ i, jrv μ' (h + j) i = jrv μ (h + j) i := fun j hj i => F.rv (fun k => by have := hT _ _ k; omega)
  obtain ⟨e1, e2⟩ : rG μ' (xA h) = rG μ (xA h) ∧ vN μ' (xA h) = vN μ (xA h) := rG_same (congrFun (hi 0 (by omega)) 0) (hi 1 (by omega)) (hi 2 (by omega)) (hi 3 (by omega)) (funext (hr 4 (by omega))) (hi 5 (by omega))
  obtain ⟨e3, e4⟩ := (F.fd (D := D) (fun a k => (hS a k).1) (fun a j k => (hT a j k).1)).rows h4
  refine ⟨⟨h0, ⟨by rw [F.kk, F.ll]; exact k1, ?_, fun j b hb => ?_⟩, ?_, by rw [e1]; exact e3⟩, by unfold dG; rw [e1]; exact e4⟩
  · have := hr 0 (by omega)
    simp only [Nat.add_zero] at this
    simp only [this]
    exact k2
  · rw [hr 4 (by omega)] at hb
    rw [F.kk]; exact k3 j b hb
  · unfold Gn
    rw [e2]
    have := hi 0 (by omega)
    simp only [Nat.add_zero] at this
    rw [this]; exact h3
theorem rowsOK_modify {l : List (RW (Option Nat))} {i : Nat} {F : RW (Option Nat) → RW (Option Nat)} (hl : rowsOK μ D l) (hF : ∀ w, w ∈ l → cellOK μ D (F w).2.1 ∧ cellOK μ D (F w).2.2.1 ∧ cellOK μ D (F w).2.2.2) : rowsOK μ D (l.modify i F) := by
  intro w hw
  obtain ⟨j, hj⟩ := List.getElem?_of_mem hw
  rw [List.getElem?_modify] at hj
  cases e : l[j]? with
  | none => rw [e] at hj; cases hj
  | some v =>
    rw [e] at hj
    have hv := List.mem_of_getElem? e
    simp only [Option.map_eq_map, Option.map_some, Option.some.injEq] at hj
    rw [← hj]
    split
    · exact hF v hv
    · exact hl v hv
theorem rowsOK_lset {l : List (RW (Option Nat))} {v : RC (Option Nat) → RC (Option Nat)} (hl : rowsOK μ D l) (hv : ∀ x, cellOK μ D x → cellOK μ D (v x)) : rowsOK μ D (lset l p c v) := by
  unfold lset
  cases p with
  | none => exact hl
  | some i =>
    refine rowsOK_modify hl (fun w hw => ?_)
    obtain ⟨h1, h2, h3⟩ := hl w hw
    unfold rset rcol
    split
    · exact ⟨hv _ h1, h2, h3⟩
    · split
      · exact ⟨h1, hv _ h2, h3⟩
      · exact ⟨h1, h2, hv _ h3⟩
theorem map_lset {φ ψ : Type} {F : φ → ψ} {l : List (RW φ)} {v : RC φ → RC φ} {v' : RC ψ → RC ψ} (hv : ∀ x, rcm F (v x) = v' (rcm F x)) : (lset l p c v).map (rwm F) = lset (l.map (rwm F)) p c v' := by
  unfold lset
  cases p with
  | none => rfl
  | some i =>
    apply List.ext_getElem?
    intro j
    simp only [List.getElem?_map, List.getElem?_modify]
    cases l[j]? with
    | none => rfl
    | some w =>
      simp only [Option.map_eq_map, Option.map_some]
      by_cases e : i = j
      · simp only [e, if_true]
        congr 1
        unfold rset rcol rwm
        split
        · simp only [hv]
        · split
          · simp only [hv]
          · simp only [hv]
      · simp only [e, if_false]
theorem cell_note {x : RC (Option Nat)} {t : Int32} (h : cellOK μ D x) : cellOK μ D (x.1, x.2.1, x.2.2.1, t) := h
theorem cellOK.f5 {x : RC (Option Nat)} (h : cellOK μ D x) : ∀ b, x.2.2.1 = some b → jk μ b = 5 := by
  intro b hb
  rcases h with h | h | ⟨-, -, f, h3, h4, -⟩
  · rw [h.2.2] at hb; cases hb
  · rw [h.2] at hb; cases hb
  · rw [h3] at hb; cases hb; exact h4.1
/-- a content put -/
theorem d_setC {k n : Int32} {f : Option Nat} (hg : GV μ D g) (hc : c < 3) (hx : cellOK μ D (k, n, f, N 0)) : GV (setC μ (xA g) p c k n f) D g ∧ dG (setC μ (xA g) p c k n f) (xA g) = lset (dG μ (xA g)) p c (fun w => (k, n, dF μ f, w.2.2.2)) := by
  obtain ⟨h0, h2, h3, h4⟩ := hg
  have F : FG g μ (setC μ (xA g) p c k n f) := fg_setC
  have e := rG_setC (μ := μ) (p := p) (c := c) (k := k) (n := n) (f := f) (xA_ok g) hc
  have ok : rowsOK μ D (rG (setC μ (xA g) p c k n f) (xA g)) := by
    rw [e]
    exact rowsOK_lset h4 (fun x _ => hx)
  obtain ⟨e3, e4⟩ := (F.fd h0).rows ok
  refine ⟨⟨h0, gs_setC h2 hx.f5, gn_setC h3, e3⟩, ?_⟩
  unfold dG
  rw [e4, e]
  exact map_lset (fun x => rfl)
theorem d_setT {t : Int32} (hg : GV μ D g) (hc : c < 3) : GV (setT μ (xA g) p c t) D g ∧ dG (setT μ (xA g) p c t) (xA g) = lset (dG μ (xA g)) p c (fun w => (w.1, w.2.1, w.2.2.1, t)) := by
  obtain ⟨h0, h2, h3, h4⟩ := hg
  have F : FG g μ (setT μ (xA g) p c t) := fg_setT
  have e := rG_setT (μ := μ) (p := p) (c := c) (t := t) (xA_ok g) hc
  have ok : rowsOK μ D (rG (setT μ (xA g) p c t) (xA g)) := by
    rw [e]
    exact rowsOK_lset h4 (fun x hx => cell_note hx)
  obtain ⟨e3, e4⟩ := (F.fd h0).rows ok
  refine ⟨⟨h0, gs_setT h2, gn_setT h3, e3⟩, ?_⟩
  unfold dG
  rw [e4, e]
  exact map_lset (fun x => rfl)
/-- the cell of a place, as it is read: good, and its content -/
theorem GV.cell (hg : GV μ D g) : cellOK μ D (cO none (rG μ (xA g)) p c) := hg.2.2.2.cO
theorem lfind_small (hg : GV μ D g) {k : Int32} {i : Nat} (h : lfind k (dG μ (xA g)) = some i) : i < 8 := by
  have h1 := lfind_lt h
  rw [len_dG] at h1
  have := hg.2.2.1.2
  omega
theorem d_setContent {k n : Int32} {f : Option Nat} (hg : GV μ D g) (hp : ∀ i, p = some i → i < 1000) (hc : c < 3) (hx : cellOK μ D (k, n, f, N 0)) : ∃ μ', jC (d + 1) 91 [.ref g, .int (pl p), .int (N c), .int k, .int n, va_rf f] μ = some (none, μ') ∧ FG g μ μ' ∧ GV μ' D g ∧ dG μ' (xA g) = lset (dG μ (xA g)) p c (fun w => (k, n, dF μ f, w.2.2.2)) :=
  ⟨_, x_setContent hg.2.1 hg.2.2.1 hp hc hx.f5, fg_setC, (d_setC hg hc hx).1, (d_setC hg hc hx).2⟩
theorem d_setNote {t : Int32} (hg : GV μ D g) (hp : ∀ i, p = some i → i < 1000) (hc : c < 3) : ∃ μ', jC (d + 1) 94 [.ref g, .int (pl p), .int (N c), .int t] μ = some (none, μ') ∧ FG g μ μ' ∧ GV μ' D g ∧ dG μ' (xA g) = lset (dG μ (xA g)) p c (fun w => (w.1, w.2.1, w.2.2.1, t)) :=
  ⟨_, x_setNote hg.2.1 hg.2.2.1 hp hc, fg_setT, (d_setT hg hc).1, (d_setT hg hc).2⟩
theorem d_contentAsIn (hg : GV μ D g) (hh : GV μ D h) (hd : g + 6 ≤ h ∨ h + 6 ≤ g) (hp : ∀ i, p = some i → i < 1000) (hq : ∀ i, q = some i → i < 1000) (hc : c < 3) : ∃ μ', jC (d + 1) 109 [.ref g, .ref h, .int (pl q), .int (pl p), .int (N c)] μ = some (none, μ') ∧ FG g μ μ' ∧ GV μ' D g ∧ dG μ' (xA g) = lset (dG μ (xA g)) p c (fun w => ((cO [] (dG μ (xA h)) q c).1, (cO [] (dG μ (xA h)) q c).2.1, (cO [] (dG μ (xA h)) q c).2.2.1, w.2.2.2)) := by
  have hx : cellOK μ D ((cO none (rG μ (xA h)) q c).1, (cO none (rG μ (xA h)) q c).2.1, (cO none (rG μ (xA h)) q c).2.2.1, N 0) := hh.cell
  refine ⟨_, x_contentAsIn hg.2.1 hg.2.2.1 hh.2.1 hh.2.2.1 (by unfold Dj; omega) hp hq hc, fg_setC, (d_setC hg hc hx).1, ?_⟩
  rw [(d_setC hg hc hx).2, cO_dG]
  rfl
theorem d_kindAt (hg : GV μ D g) (hp : ∀ i, p = some i → i < 1000) (hc : c < 3) : jC (d + 1) 101 [.ref g, .int (pl p), .int (N c)] μ = some (some (.int (cO [] (dG μ (xA g)) p c).1), μ) := by
  rw [x_kindAt hg.2.1 hg.2.2.1 hp hc, cO_dG]; rfl
theorem d_numberAt (hg : GV μ D g) (hp : ∀ i, p = some i → i < 1000) (hc : c < 3) : jC (d + 1) 102 [.ref g, .int (pl p), .int (N c)] μ = some (some (.int (cO [] (dG μ (xA g)) p c).2.1), μ) := by
  rw [x_numberAt hg.2.1 hg.2.2.1 hp hc, cO_dG]; rfl
theorem d_noteAt (hg : GV μ D g) (hp : ∀ i, p = some i → i < 1000) (hc : c < 3) : jC (d + 1) 99 [.ref g, .int (pl p), .int (N c)] μ = some (some (.int (cO [] (dG μ (xA g)) p c).2.2.2), μ) := by
  rw [x_noteAt hg.2.1 hg.2.2.1 hp hc, cO_dG]; rfl
theorem d_placeOf (hg : GV μ D g) (k : Int32) : jC d 92 [.ref g, .int k] μ = some (some (.int (pl (lfind k (dG μ (xA g))))), μ) := by
  rw [x_placeOf hg.2.1 hg.2.2.1, lfind_dG]
theorem d_keyAt (hg : GV μ D g) {i : Nat} (hi : i < 2147483648) : jC d 89 [.ref g, .int (N i)] μ = some (some (.int (keyO (dG μ (xA g)) i)), μ) := by
  rw [x_keyAt hg.2.1 hg.2.2.1 hi, keyO_dG]
theorem d_become (hs : Gs μ g) (h0 : g + 6 ≤ D) (hh : GV μ D h) (hd : g + 6 ≤ h ∨ h + 6 ≤ g) : ∃ μ', jC (d + 1) 90 [.ref g, .ref h] μ = some (none, μ') ∧ FG g μ μ' ∧ GV μ' D g ∧ dG μ' (xA g) = dG μ (xA h) := by
  obtain ⟨μ', r1, r2, r3, r4, r5⟩ := x_become (d := d) hs hh.2.1 hh.2.2.1 hd
  obtain ⟨e3, e4⟩ := (r2.fd h0).rows hh.2.2.2
  refine ⟨μ', r1, r2, ⟨h0, r3, r4, by rw [r5]; exact e3⟩, ?_⟩
  unfold dG
  rw [r5]; exact e4
theorem map_insertIdx {α β : Type} {F : α → β} : ∀ {l : List α} {i : Nat} {x : α}, (l.insertIdx i x).map F = (l.map F).insertIdx i (F x)
  | l, 0, x => by simp
  | [], i + 1, x => by simp
  | a :: l, i + 1, x => by
    show F a :: (l.insertIdx i x).map F = F a :: (l.map F).insertIdx i (F x)
    rw [map_insertIdx]
theorem d_insertRow {t : Nat} {k : Int32} (hg : GV μ D g) (h8 : (dG μ (xA g)).length < 8) (ht : t ≤ (dG μ (xA g)).length) : ∃ μ', jC (d + 3) 93 [.ref g, .int (N t), .int k] μ = some (none, μ') ∧ FG g μ μ' ∧ GV μ' D g ∧ dG μ' (xA g) = (dG μ (xA g)).insertIdx t (k, zc [], zc [], zc []) := by
  rw [len_dG] at h8 ht
  obtain ⟨μ', r1, r2, r3, r4, r5⟩ := x_insertRow (d := d) (k := k) hg.2.1 hg.2.2.1 h8 ht
  have ok : rowsOK μ D (rG μ' (xA g)) := by
    rw [r5]
    intro w hw
    rcases (List.mem_insertIdx (by rw [len_rG]; exact ht)).mp hw with e | e
    · rw [e]; exact ⟨Or.inl ⟨rfl, rfl, rfl⟩, Or.inl ⟨rfl, rfl, rfl⟩, Or.inl ⟨rfl, rfl, rfl⟩⟩
    · exact hg.2.2.2 w e
  obtain ⟨e3, e4⟩ := (r2.fd hg.1).rows ok
  refine ⟨μ', r1, r2, ⟨hg.1, r3, r4, e3⟩, ?_⟩
  unfold dG
  rw [e4, r5, map_insertIdx]
  rfl
theorem map_eraseIdx {α β : Type} {F : α → β} : ∀ {l : List α} {i : Nat}, (l.eraseIdx i).map F = (l.map F).eraseIdx i
  | [], _ => rfl
  | a :: l, 0 => rfl
  | a :: l, i + 1 => by
    show F a :: (l.eraseIdx i).map F = F a :: (l.map F).eraseIdx i
    rw [map_eraseIdx]
theorem d_removeRow {p : Nat} (hg : GV μ D g) (hp : p < (dG μ (xA g)).length) : ∃ μ', jC (d + 3) 98 [.ref g, .int (N p)] μ = some (none, μ') ∧ FG g μ μ' ∧ GV μ' D g ∧ dG μ' (xA g) = (dG μ (xA g)).eraseIdx p := by
  rw [len_dG] at hp
  obtain ⟨μ', r1, r2, r3, r4, r5⟩ := x_removeRow (d := d) hg.2.1 hg.2.2.1 hp
  have ok : rowsOK μ D (rG μ' (xA g)) := by
    rw [r5]
    exact fun w hw => hg.2.2.2 w (List.mem_of_mem_eraseIdx hw)
  obtain ⟨e3, e4⟩ := (r2.fd hg.1).rows ok
  refine ⟨μ', r1, r2, ⟨hg.1, r3, r4, e3⟩, ?_⟩
  unfold dG
  rw [e4, r5, map_eraseIdx]
theorem map_lswap {α β : Type} {F : α → β} {l : List α} {i j : Nat} : (lswap l i j).map F = lswap (l.map F) i j := by
  unfold lswap
  rw [List.getElem?_map, List.getElem?_map]
  cases l[i]? with
  | none => rfl
  | some x =>
    cases l[j]? with
    | none => rfl
    | some y => simp only [Option.map_some, List.map_set]
theorem map_lup {α β : Type} {F : α → β} : ∀ {k i : Nat} {l : List α}, (lup l i k).map F = lup (l.map F) i k
  | 0, _, _ => rfl
  | k + 1, i, l => by unfold lup; rw [map_lup, map_lswap]
theorem map_ldn {α β : Type} {F : α → β} : ∀ {k i : Nat} {l : List α}, (ldn l i k).map F = ldn (l.map F) i k
  | 0, _, _ => rfl
  | k + 1, i, l => by unfold ldn; rw [map_ldn, map_lswap]
theorem map_lmove {α β : Type} {F : α → β} {l : List α} {i j : Nat} : (lmove l i j).map F = lmove (l.map F) i j := by
  unfold lmove
  split
  · exact map_lup
  · exact map_ldn
theorem mem_lswap {α : Type} {l : List α} {i j : Nat} {w : α} (h : w ∈ lswap l i j) : w ∈ l := by
  unfold lswap at h
  split at h
  · rename_i x y h1 h2
    rcases List.mem_or_eq_of_mem_set h with h | h
    · rcases List.mem_or_eq_of_mem_set h with h | h
      · exact h
      · rw [h]; exact List.mem_of_getElem? h2
    · rw [h]; exact List.mem_of_getElem? h1
  · exact h
theorem mem_lup {α : Type} {w : α} : ∀ {k i : Nat} {l : List α}, w ∈ lup l i k → w ∈ l
  | 0, _, _, h => h
  | k + 1, i, l, h => by unfold lup at h; exact mem_lswap (mem_lup h)
theorem mem_ldn {α : Type} {w : α} : ∀ {k i : Nat} {l : List α}, w ∈ ldn l i k → w ∈ l
  | 0, _, _, h => h
  | k + 1, i, l, h => by unfold ldn at h; exact mem_lswap (mem_ldn h)
theorem mem_lmove {α : Type} {w : α} {l : List α} {i j : Nat} (h : w ∈ lmove l i j) : w ∈ l := by
  unfold lmove at h
  split at h
  · exact mem_lup h
  · exact mem_ldn h
theorem d_moveRow {p t : Nat} (hg : GV μ D g) (hp : p < (dG μ (xA g)).length) (ht : t < (dG μ (xA g)).length) : ∃ μ', jC (d + 2) 95 [.ref g, .int (N p), .int (N t)] μ = some (none, μ') ∧ FG g μ μ' ∧ GV μ' D g ∧ dG μ' (xA g) = lmove (dG μ (xA g)) p t := by
  rw [len_dG] at hp ht
  obtain ⟨μ', r1, r2, r3, r4, r5⟩ := x_moveRow (d := d) hg.2.1 hg.2.2.1 hp ht
  have ok : rowsOK μ D (rG μ' (xA g)) := by
    rw [r5]
    exact fun w hw => hg.2.2.2 w (mem_lmove hw)
  obtain ⟨e3, e4⟩ := (r2.fd hg.1).rows ok
  refine ⟨μ', r1, r2, ⟨hg.1, r3, r4, e3⟩, ?_⟩
  unfold dG
  rw [e4, r5, map_lmove]
theorem d_rowAsIn {i : Nat} (hg : GV μ D g) (hh : GV μ D h) (hd : g + 6 ≤ h ∨ h + 6 ≤ g) (hi : i < 1000) (hq : ∀ i, q = some i → i < 1000) : ∃ μ', jC (d + 2) 108 [.ref g, .ref h, .int (pl q), .int (N i)] μ = some (none, μ') ∧ FG g μ μ' ∧ GV μ' D g ∧ dG μ' (xA g) = lrow (dG μ (xA g)) i (cO [] (dG μ (xA h)) q 0) (cO [] (dG μ (xA h)) q 1) (cO [] (dG μ (xA h)) q 2) := by
  obtain ⟨μ', r1, r2, r3, r4, r5⟩ := x_rowAsIn (d := d) hg.2.1 hg.2.2.1 hh.2.1 hh.2.2.1 hd hi hq
  have ok : rowsOK μ D (rG μ' (xA g)) := by
    rw [r5]
    exact rowsOK_modify hg.2.2.2 (fun w _ => ⟨hh.cell, hh.cell, hh.cell⟩)
  obtain ⟨e3, e4⟩ := (r2.fd hg.1).rows ok
  refine ⟨μ', r1, r2, ⟨hg.1, r3, r4, e3⟩, ?_⟩
  rw [cO_dG, cO_dG, cO_dG]
  unfold dG
  rw [e4, r5]
  unfold lrow
  apply List.ext_getElem?
  intro j
  simp only [List.getElem?_map, List.getElem?_modify]
  cases (rG μ (xA g))[j]? with
  | none => rfl
  | some w =>
    simp only [Option.map_eq_map, Option.map_some]
    split <;> rfl
theorem d_isAl (hg : GV μ D g) (hh : GV μ D h) (hp : ∀ i, p = some i → i < 1000) (hq : ∀ i, q = some i → i < 1000) (hc : c < 3) : jC (d + 2) 107 [.ref g, .int (pl p), .int (N c), .ref h, .int (pl q)] μ = some (some (.int (pN (cnt (cO [] (dG μ (xA g)) p c) = cnt (cO [] (dG μ (xA h)) q c)))), μ) :=
  x_isAl hg.2.1 hg.2.2.1 hh.2.1 hh.2.2.1 hp hq hc hg.2.2.2 hh.2.2.2
theorem d_isRowAlike (hg : GV μ D g) (hh : GV μ D h) (hp : ∀ i, p = some i → i < 1000) (hq : ∀ i, q = some i → i < 1000) : jC (d + 3) 106 [.ref g, .int (pl p), .ref h, .int (pl q)] μ = some (some (.int (pN (∀ c, c < 3 → cO [] (dG μ (xA g)) p c = cO [] (dG μ (xA h)) q c))), μ) :=
  x_isRowAlike hg.2.1 hg.2.2.1 hh.2.1 hh.2.2.1 hp hq hg.2.2.2 hh.2.2.2
end DEC
