/-! WHAT EVERY CALL KEEPS: good keys, rules, clashes, sorts -/
def GOk (G : DG) : Prop := KK G ∧ (ky1 G).Nodup
def BOk (b : PB) : Prop := (∀ c, c < 3 → (b.2.1 c).1 < 6 ∧ (b.2.1 c).2 < 100) ∧ (∀ g, g < 4 → GOk (b.1 g)) ∧ ∀ u, u ∈ b.2.2 → ∀ g, g < 4 → GOk (u g)
def COk (l : List CL) (G : DG) : Prop := (∀ c, c ∈ l → c.2.2.2 = N 0 ∨ c.2.2.2 = N 1) ∧ (∀ c, c ∈ l → c.2.2.2 = N 0 → c.2.1 ∈ ky1 G ∧ (c.1 = N 1 ∨ c.1 = N 3 → ∃ k, k < 3 ∧ c.2.2.1 = N k)) ∧ ∀ (i j : Nat) (c e : CL), l[i]? = some c → l[j]? = some e → i ≠ j → c.2.1 = e.2.1 → c.1 = N 1 ∨ c.1 = N 3
def WFk (σ : SG) : Prop := BOk σ.1 ∧ (∀ b, σ.2.1 = some b → BOk b) ∧ COk σ.2.2.2.1 (σ.1.1 3) ∧ ∀ s, s < 4 → (σ.2.2.2.2.2 s).1 = NEG ∨ (σ.2.2.2.2.2 s).1 = N 0 ∨ (σ.2.2.2.2.2 s).1 = N 1
section WFS
variable {σ : SG} {G V : DG} {g r c k a b s : Nat} {l : List CL} {x : Int32}
theorem kk_iff : KK G ↔ ∀ x, x ∈ ky1 G → ∃ k, 1 ≤ k ∧ k < 100 ∧ x = N k := ⟨KK.ky, fun h w hw => h w.1 (List.mem_map_of_mem hw)⟩
theorem GOk.ky (h : GOk G) (e : ky1 V = ky1 G) : GOk V := by
  unfold GOk at h ⊢
  rw [kk_iff] at h ⊢
  rw [e]
  exact h
theorem GOk.sub (h : GOk G) (e : List.Sublist (ky1 V) (ky1 G)) : GOk V := by
  unfold GOk at h ⊢
  rw [kk_iff] at h ⊢
  exact ⟨fun x hx => h.1 x (e.subset hx), h.2.sublist e⟩
theorem GOk.perm (h : GOk G) (e : List.Perm (ky1 V) (ky1 G)) : GOk V := by
  unfold GOk at h ⊢
  rw [kk_iff] at h ⊢
  exact ⟨fun x hx => h.1 x (e.mem_iff.mp hx), e.nodup_iff.mpr h.2⟩
theorem lswap_perm {α : Type} {l : List α} {i j : Nat} : List.Perm (lswap l i j) l := by
  unfold lswap
  split
  · rename_i x y hx hy
    have hi := (List.getElem?_eq_some_iff.mp hx)
    have hj := (List.getElem?_eq_some_iff.mp hy)
    obtain ⟨hi, ei⟩ := hi
    obtain ⟨hj, ej⟩ := hj
    rw [← ei, ← ej]
    exact List.set_set_perm hi hj
  · exact List.Perm.refl _
theorem lup_perm {α : Type} : ∀ (k : Nat) (l : List α) (i : Nat), List.Perm (lup l i k) l
  | 0, l, i => List.Perm.refl _
  | k + 1, l, i => (lup_perm k _ _).trans lswap_perm
theorem ldn_perm {α : Type} : ∀ (k : Nat) (l : List α) (i : Nat), List.Perm (ldn l i k) l
  | 0, l, i => List.Perm.refl _
  | k + 1, l, i => (ldn_perm k _ _).trans lswap_perm
theorem lmove_perm {α : Type} {l : List α} {p t : Nat} : List.Perm (lmove l p t) l := by
  unfold lmove
  split
  · exact lup_perm ..
  · exact ldn_perm ..
theorem COk.nil : COk [] G := ⟨fun c hc => absurd hc (List.not_mem_nil), fun c hc => absurd hc (List.not_mem_nil), fun i j c e h => by
  have h : ([] : List CL)[i]? = some c := h
  simp at h⟩
theorem wf_chg (h : WFk σ) : WFk (chg σ) := by
  obtain ⟨⟨h1, h2, h3⟩, h4, h5, h6⟩ := h
  refine ⟨⟨h1, h2, fun u hu g hg => ?_⟩, h4, COk.nil, h6⟩
  have hu : u ∈ (σ.1.1 :: σ.1.2.2).take 6 := hu
  rcases List.mem_cons.mp (List.mem_of_mem_take hu) with rfl | hu
  · exact h2 g hg
  · exact h3 u hu g hg
theorem wf_stg (h : WFk σ) (hg : g < 3) (hV : GOk V) : WFk (stg σ g V) := by
  obtain ⟨⟨h1, h2, h3⟩, h4, h5, h6⟩ := h
  refine ⟨⟨h1, fun i hi => ?_, h3⟩, h4, ?_, h6⟩
  · show GOk (if i = g then V else σ.1.1 i)
    split
    · exact hV
    · exact h2 i hi
  · have e : (stg σ g V).1.1 3 = σ.1.1 3 := if_neg (by omega)
    rw [e]
    exact h5
theorem wf_ssh {v : Int32 × List Int32} (h : WFk σ) (hv : v.1 = NEG ∨ v.1 = N 0 ∨ v.1 = N 1) : WFk (ssh σ s v) := by
  obtain ⟨h1, h4, h5, h6⟩ := h
  refine ⟨h1, h4, h5, fun i hi => ?_⟩
  show (if i = s then v else σ.2.2.2.2.2 i).1 = NEG ∨ (if i = s then v else σ.2.2.2.2.2 i).1 = N 0 ∨ (if i = s then v else σ.2.2.2.2.2 i).1 = N 1
  split
  · exact hv
  · exact h6 i hi
theorem wf_g (h : WFk σ) (hg : g < 4) : GOk (σ.1.1 g) := h.1.2.1 g hg
theorem cix_lt {m : Nat} {x y z : Int32} {q : Nat × Nat × Nat} (hm : m < 1000) (h : cix σ m x y z = some q) : q.1 < m := by
  unfold cix at h
  cases e0 : ix m x with
  | none => rw [e0] at h; cases h
  | some g0 =>
    have := (ix_some (by omega) e0).2
    rw [e0] at h
    simp only [Option.bind_some] at h
    cases e1 : ix (σ.1.1 g0).length y with
    | none => rw [e1] at h; cases h
    | some r0 =>
      cases e2 : ix 3 z with
      | none => rw [e1, e2] at h; cases h
      | some c0 =>
        rw [e1, e2] at h
        cases h
        exact this
theorem w_feed (h : WFk σ) (n a b c d e : Int32) : WFk (o_feed σ n a b c d e).2 := by
  unfold o_feed
  split
  · exact h
  · split
    · split
      · exact h
      · exact h
    · exact h
theorem w_write (h : WFk σ) (g r c : Int32) : WFk (o_write σ g r c).2 := by
  unfold o_write
  cases e : cix σ 3 g r c with
  | none => exact h
  | some q =>
    have hq := cix_lt (by decide) e
    have h' : WFk (stp σ []) := h
    show WFk (if (pWr σ q.1).1 = true then _ else _ : RES).2
    split
    · exact wf_stg (wf_chg h') hq ((wf_g h (by omega)).ky ky1_lset)
    · exact h'
theorem w_note (h : WFk σ) (g r c v : Int32) : WFk (o_note σ g r c v).2 := by
  unfold o_note
  cases e : cix σ 3 g r c with
  | none => exact h
  | some q =>
    have hq := cix_lt (by decide) e
    show WFk (if v < N 0 ∨ N 99 < v then _ else _ : RES).2
    split
    · exact h
    · exact wf_stg (wf_chg h) hq ((wf_g h (by omega)).ky ky1_lset)
theorem w_fill (h : WFk σ) (g r c v : Int32) : WFk (o_fill σ g r c v).2 := by
  unfold o_fill
  cases e : cix σ 3 g r c with
  | none => exact h
  | some q =>
    have hq := cix_lt (by decide) e
    show WFk (if v < N 1 ∨ N 7 < v then _ else _ : RES).2
    split
    · exact h
    · exact wf_stg (wf_chg h) hq ((wf_g h (by omega)).ky (ky1_fill _))
theorem rix_lt {x y : Int32} {q : Nat × Nat} (h : rix σ x y = some q) : q.1 < 3 := by
  unfold rix at h
  cases e0 : ix 3 x with
  | none => rw [e0] at h; cases h
  | some g0 =>
    have := (ix_some (by decide) e0).2
    rw [e0] at h
    simp only [Option.bind_some] at h
    cases e1 : ix (σ.1.1 g0).length y with
    | none => rw [e1] at h; cases h
    | some r0 =>
      rw [e1] at h
      cases h
      exact this
theorem ky1_erase : List.Sublist (ky1 (G.eraseIdx a)) (ky1 G) := (List.eraseIdx_sublist G a).map _
theorem w_drop (h : WFk σ) (g r : Int32) : WFk (o_drop σ g r).2 := by
  unfold o_drop
  cases e : rix σ g r with
  | none => exact h
  | some q =>
    have hq := rix_lt e
    exact wf_stg (wf_chg h) hq ((wf_g h (by omega)).sub ky1_erase)
theorem w_move (h : WFk σ) (g r t : Int32) : WFk (o_move σ g r t).2 := by
  unfold o_move
  cases e : rix σ g r with
  | none => exact h
  | some q =>
    have hq := rix_lt e
    show WFk (match ix (σ.1.1 q.1).length t with
      | none => (aBAD, σ)
      | some t => (keyO (lmove (σ.1.1 q.1) q.2 t) t, stg (chg σ) q.1 (lmove (σ.1.1 q.1) q.2 t)) : RES).2
    cases ix (σ.1.1 q.1).length t with
    | none => exact h
    | some t => exact wf_stg (wf_chg h) hq ((wf_g h (by omega)).perm (lmove_perm.map _))
theorem w_like (h : WFk σ) (g o : Int32) : WFk (o_like σ g o).2 := by
  unfold o_like
  cases e : ix 3 g with
  | none => exact h
  | some g0 =>
    have hg := (ix_some (by decide) e).2
    cases e2 : ix 4 o with
    | none => exact h
    | some o0 =>
      have ho := (ix_some (by decide) e2).2
      show WFk (if g0 = o0 then _ else _ : RES).2
      split
      · exact h
      · exact wf_stg (wf_chg h) hg (wf_g h ho)
theorem w_row (h : WFk σ) (g a k : Int32) : WFk (o_row σ g a k).2 := by
  unfold o_row
  cases e : ix 3 g with
  | none => exact h
  | some g0 =>
    have hg := (ix_some (by decide) e).2
    show WFk (match ix ((σ.1.1 g0).length + 1) a with
      | none => (aBAD, σ)
      | some a => if k < N 1 ∨ N 99 < k then (aBAD, σ) else if (lfind k (σ.1.1 g0)).isSome = true then (aSTATE, σ) else if 8 ≤ (σ.1.1 g0).length then (aFULL, σ) else (N ((σ.1.1 g0).length + 1), stg (chg σ) g0 ((σ.1.1 g0).insertIdx a (k, zc [], zc [], zc []))) : RES).2
    cases e2 : ix ((σ.1.1 g0).length + 1) a with
    | none => exact h
    | some a0 =>
      show WFk (if k < N 1 ∨ N 99 < k then _ else _ : RES).2
      split
      · exact h
      · rename_i hk
        split
        · exact h
        · rename_i hf
          split
          · exact h
          · rename_i h8
            have ha := (ix_some (show (σ.1.1 g0).length + 1 < 2147483648 by omega) e2).2
            obtain ⟨n, hn, hn1, hn99⟩ : ∃ n, k = N n ∧ 1 ≤ n ∧ n < 100 := by
              have h1 : ¬ k < N 1 := fun g => hk (Or.inl g)
              have h9 : ¬ N 99 < k := fun g => hk (Or.inr g)
              have h0 : ¬ k < N 0 := fun g => h1 (by
                rw [Int32.lt_iff_toInt_lt] at g ⊢
                rw [N_toInt (by decide)] at g ⊢
                omega)
              obtain ⟨b, hb, rfl⟩ := N_of h0
              rw [N_lt hb (by decide)] at h1
              rw [N_lt (by decide) hb] at h9
              exact ⟨b, rfl, by omega, by omega⟩
            have hni : k ∉ ky1 (σ.1.1 g0) := by
              rw [← lfind_nin]
              cases q : lfind k (σ.1.1 g0) with
              | none => rfl
              | some z => rw [q] at hf; exact absurd rfl hf
            have hG := wf_g h (show g0 < 4 by omega)
            refine wf_stg (wf_chg h) hg ?_
            have hp : List.Perm (ky1 ((σ.1.1 g0).insertIdx a0 (k, zc [], zc [], zc []))) (k :: ky1 (σ.1.1 g0)) := (List.perm_insertIdx _ _ (by omega)).map _
            unfold GOk at hG ⊢
            rw [kk_iff] at hG ⊢
            refine ⟨fun x hx => ?_, hp.nodup_iff.mpr (List.nodup_cons.mpr ⟨hni, hG.2⟩)⟩
            rcases List.mem_cons.mp (hp.mem_iff.mp hx) with rfl | hx
            · exact ⟨n, hn1, hn99, hn⟩
            · exact hG.1 x hx
theorem w_rule (h : WFk σ) (c k f : Int32) : WFk (o_rule σ c k f).2 := by
  unfold o_rule
  cases e : ix 3 c with
  | none => exact h
  | some c0 =>
    cases e2 : ix 6 k with
    | none => exact h
    | some k0 =>
      cases e3 : ix 100 f with
      | none => exact h
      | some f0 =>
        obtain ⟨⟨h1, h2, h3⟩, h4, h5, h6⟩ := h
        refine ⟨⟨fun i hi => ?_, h2, h3⟩, h4, h5, h6⟩
        show (if i = c0 then (k0, f0) else σ.1.2.1 i).1 < 6 ∧ (if i = c0 then (k0, f0) else σ.1.2.1 i).2 < 100
        split
        · exact ⟨(ix_some (by decide) e2).2, (ix_some (by decide) e3).2⟩
        · exact h1 i hi
theorem w_take (h : WFk σ) : WFk (o_take σ).2 := by
  unfold o_take
  split
  · have h3 := wf_g h (show 3 < 4 by decide)
    exact wf_stg (wf_stg (wf_stg (wf_chg h) (by decide) h3) (by decide) h3) (by decide) h3
  · exact h
theorem w_undo (h : WFk σ) : WFk (o_undo σ).2 := by
  unfold o_undo
  obtain ⟨⟨h1, h2, h3⟩, h4, h5, h6⟩ := id h
  cases e : σ.1.2.2 with
  | nil => exact h
  | cons hd tl =>
    rw [e] at h3
    refine ⟨⟨h1, fun g hg => ?_, fun u hu => h3 u (List.mem_cons_of_mem _ hu)⟩, h4, COk.nil, h6⟩
    show GOk (if g < 3 then hd g else σ.1.1 g)
    split
    · exact h3 hd (List.mem_cons_self ..) g hg
    · exact h2 g hg
theorem w_image (h : WFk σ) : WFk (o_image σ).2 := by
  obtain ⟨h1, h4, h5, h6⟩ := h
  exact ⟨h1, fun b hb => by
    have hb : some σ.1 = some b := hb
    rw [← Option.some.inj hb]
    exact h1, h5, h6⟩
theorem w_back (h : WFk σ) : WFk (o_back σ).2 := by
  unfold o_back
  obtain ⟨h1, h4, h5, h6⟩ := id h
  cases e : σ.2.1 with
  | none => exact h
  | some b => exact ⟨h4 b e, h4, COk.nil, h6⟩
end WFS
