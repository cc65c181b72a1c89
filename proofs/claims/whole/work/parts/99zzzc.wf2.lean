/-! WHAT EVERY CALL KEEPS: sheets, merges, settled clashes -/
section WFS
variable {σ : SG} {G V gb gx gt Wf : DG} {g r c k a b s m n : Nat} {l : List CL} {x : Int32} {R : Nat → Nat × Nat} {W : DG × List CL}
theorem w_film (h : WFk σ) (s g c : Int32) : WFk (o_film σ s g c).2 := by
  unfold o_film
  cases ix 4 s with
  | none => exact h
  | some s0 =>
    cases ix 4 g with
    | none => exact h
    | some g0 =>
      cases ix 3 c with
      | none => exact h
      | some c0 => exact wf_ssh h (Or.inr (Or.inr rfl))
theorem w_sheet (h : WFk σ) (s t n : Int32) : WFk (o_sheet σ s t n).2 := by
  unfold o_sheet
  cases ix 4 s with
  | none => exact h
  | some s0 =>
    show WFk (if t = NEG then _ else _ : RES).2
    split
    · exact wf_ssh h (Or.inl rfl)
    · split
      · rename_i ht
        split
        · exact h
        · split
          · exact h
          · exact wf_ssh h (Or.inr ht)
      · exact h
theorem w_put (h : WFk σ) (s i v : Int32) : WFk (o_put σ s i v).2 := by
  unfold o_put
  cases e : ix 4 s with
  | none => exact h
  | some s0 =>
    have hs := (ix_some (by decide) e).2
    show WFk (if (σ.2.2.2.2.2 s0).1 = NEG then _ else _ : RES).2
    split
    · exact h
    · cases ix (σ.2.2.2.2.2 s0).2.length i with
      | none => exact h
      | some i0 => exact wf_ssh h (h.2.2.2 s0 hs)
theorem w_copy (h : WFk σ) (s i o j n : Int32) : WFk (o_copy σ s i o j n).2 := by
  unfold o_copy
  cases e : ix 4 s with
  | none => exact h
  | some s0 =>
    cases e2 : ix 4 o with
    | none => exact h
    | some o0 =>
      have ho := (ix_some (by decide) e2).2
      show WFk (if (σ.2.2.2.2.2 s0).1 = NEG ∨ (σ.2.2.2.2.2 o0).1 = NEG then _ else _ : RES).2
      split
      · exact h
      · split
        · exact h
        · cases hix (σ.2.2.2.2.2 s0).2.length i n with
          | none => exact h
          | some q =>
            cases hix (σ.2.2.2.2.2 o0).2.length j n with
            | none => exact h
            | some t => exact wf_ssh h (h.2.2.2 o0 ho)
/-- a row's clashes: its key, its columns; a row's own clash stands alone -/
def RK (k : Int32) (l : List CL) : Prop := (∀ c, c ∈ l → c.2.1 = k ∧ c.2.2.2 = N 0 ∧ (c.1 = N 1 ∨ c.1 = N 3 → ∃ z, z < 3 ∧ c.2.2.1 = N z)) ∧ ((∀ c, c ∈ l → c.1 = N 1 ∨ c.1 = N 3) ∨ l.length ≤ 1)
theorem pClc_mem {ob ox ot : Option Nat} {k : Int32} {c : Nat} {e : CL} (h : e ∈ pClc R gb gx gt ob ox ot k c) : e.2.1 = k ∧ e.2.2.2 = N 0 ∧ (e.1 = N 1 ∨ e.1 = N 3) ∧ e.2.2.1 = N c := by
  unfold pClc at h
  rcases List.mem_append.mp h with h | h
  · split at h
    · rw [List.mem_singleton.mp h]
      exact ⟨rfl, rfl, Or.inl rfl, rfl⟩
    · exact absurd h List.not_mem_nil
  · split at h
    · rw [List.mem_singleton.mp h]
      exact ⟨rfl, rfl, Or.inr rfl, rfl⟩
    · exact absurd h List.not_mem_nil
theorem pRowK_rk {k : Int32} : RK k (pRowK R gb gx gt k) := by
  unfold pRowK
  split
  · split
    · exact ⟨fun c hc => absurd hc List.not_mem_nil, Or.inr (Nat.zero_le _)⟩
    · refine ⟨fun c hc => ?_, Or.inr (Nat.le_refl _)⟩
      rw [List.mem_singleton.mp hc]
      exact ⟨rfl, rfl, fun q => absurd q (show ¬ (N 2 = N 1 ∨ N 2 = N 3) by decide)⟩
  · have mem : ∀ e, e ∈ pClc R gb gx gt (lfind k gb) (lfind k gx) (lfind k gt) k 0 ++ pClc R gb gx gt (lfind k gb) (lfind k gx) (lfind k gt) k 1 ++ pClc R gb gx gt (lfind k gb) (lfind k gx) (lfind k gt) k 2 → e.2.1 = k ∧ e.2.2.2 = N 0 ∧ (e.1 = N 1 ∨ e.1 = N 3) ∧ ∃ z, z < 3 ∧ e.2.2.1 = N z := fun e he => by
      rcases List.mem_append.mp he with he | he
      · rcases List.mem_append.mp he with he | he
        · obtain ⟨a1, a2, a3, a4⟩ := pClc_mem he
          exact ⟨a1, a2, a3, 0, by decide, a4⟩
        · obtain ⟨a1, a2, a3, a4⟩ := pClc_mem he
          exact ⟨a1, a2, a3, 1, by decide, a4⟩
      · obtain ⟨a1, a2, a3, a4⟩ := pClc_mem he
        exact ⟨a1, a2, a3, 2, by decide, a4⟩
    exact ⟨fun e he => ⟨(mem e he).1, (mem e he).2.1, fun _ => (mem e he).2.2.2⟩, Or.inl fun e he => (mem e he).2.2.1⟩
/-- all rows' clashes -/
theorem pCls_ok : ∀ n, n ≤ 99 → (∀ c, c ∈ pCls R gb gx gt Wf n → (∃ m, m < n ∧ c.2.1 = N (m + 1)) ∧ lfind c.2.1 Wf ≠ none ∧ c.2.2.2 = N 0 ∧ (c.1 = N 1 ∨ c.1 = N 3 → ∃ z, z < 3 ∧ c.2.2.1 = N z)) ∧ ∀ (i j : Nat) (c e : CL), (pCls R gb gx gt Wf n)[i]? = some c → (pCls R gb gx gt Wf n)[j]? = some e → i ≠ j → c.2.1 = e.2.1 → c.1 = N 1 ∨ c.1 = N 3
  | 0, _ => ⟨fun c hc => absurd hc List.not_mem_nil, fun i j c e h => by
    have h : ([] : List CL)[i]? = some c := h
    simp at h⟩
  | n + 1, hn => by
    obtain ⟨i1, i2⟩ := pCls_ok n (by omega)
    have e1 : pCls R gb gx gt Wf (n + 1) = match lfind (N (n + 1)) Wf with
      | none => pCls R gb gx gt Wf n
      | some _ => pCls R gb gx gt Wf n ++ pRowK R gb gx gt (N (n + 1)) := rfl
    rw [e1]
    cases ef : lfind (N (n + 1)) Wf with
    | none => exact ⟨fun c hc => ⟨by obtain ⟨m, h1, h2⟩ := (i1 c hc).1; exact ⟨m, by omega, h2⟩, (i1 c hc).2⟩, i2⟩
    | some p =>
      obtain ⟨k1, k2⟩ := pRowK_rk (R := R) (gb := gb) (gx := gx) (gt := gt) (k := N (n + 1))
      show (∀ c, c ∈ pCls R gb gx gt Wf n ++ pRowK R gb gx gt (N (n + 1)) → _) ∧ ∀ (i j : Nat) (c e : CL), (pCls R gb gx gt Wf n ++ pRowK R gb gx gt (N (n + 1)))[i]? = some c → (pCls R gb gx gt Wf n ++ pRowK R gb gx gt (N (n + 1)))[j]? = some e → _
      have new : ∀ i c, (pCls R gb gx gt Wf n ++ pRowK R gb gx gt (N (n + 1)))[i]? = some c → (i < (pCls R gb gx gt Wf n).length ∧ (pCls R gb gx gt Wf n)[i]? = some c) ∨ ((pCls R gb gx gt Wf n).length ≤ i ∧ (pRowK R gb gx gt (N (n + 1)))[i - (pCls R gb gx gt Wf n).length]? = some c) := fun i c h => by
        by_cases hi : i < (pCls R gb gx gt Wf n).length
        · rw [List.getElem?_append_left hi] at h
          exact Or.inl ⟨hi, h⟩
        · rw [List.getElem?_append_right (by omega)] at h
          exact Or.inr ⟨by omega, h⟩
      have ne : ∀ c e, c ∈ pCls R gb gx gt Wf n → e ∈ pRowK R gb gx gt (N (n + 1)) → c.2.1 ≠ e.2.1 := fun c e hc he q => by
        obtain ⟨m, h1, h2⟩ := (i1 c hc).1
        rw [h2, (k1 e he).1, N_inj (by omega) (by omega)] at q
        omega
      refine ⟨fun c hc => ?_, fun i j c e hi hj hij hk => ?_⟩
      · rcases List.mem_append.mp hc with hc | hc
        · exact ⟨by obtain ⟨m, h1, h2⟩ := (i1 c hc).1; exact ⟨m, by omega, h2⟩, (i1 c hc).2⟩
        · obtain ⟨a1, a2, a3⟩ := k1 c hc
          exact ⟨⟨n, by omega, a1⟩, by rw [a1, ef]; exact (fun q => by cases q), a2, a3⟩
      · rcases new i c hi with ⟨b1, b2⟩ | ⟨b1, b2⟩
        · rcases new j e hj with ⟨d1, d2⟩ | ⟨d1, d2⟩
          · exact i2 i j c e b2 d2 hij hk
          · exact absurd hk (ne c e (List.mem_of_getElem? b2) (List.mem_of_getElem? d2))
        · rcases new j e hj with ⟨d1, d2⟩ | ⟨d1, d2⟩
          · exact absurd hk.symm (ne e c (List.mem_of_getElem? d2) (List.mem_of_getElem? b2))
          · rcases k2 with k2 | k2
            · exact k2 c (List.mem_of_getElem? b2)
            · have l1 := (List.getElem?_eq_some_iff.mp b2).1
              have l2 := (List.getElem?_eq_some_iff.mp d2).1
              omega
theorem ky1_lrow {p : Nat} {a b c : DC} : ky1 (lrow G p a b c) = ky1 G := ky1_mod fun w => rfl
theorem ky1_pRows : ∀ n, ky1 (pRows R gb gx gt Wf n) = ky1 Wf
  | 0 => rfl
  | n + 1 => by
    have i := ky1_pRows n
    show ky1 (match lfind (N (n + 1)) Wf with
      | none => pRows R gb gx gt Wf n
      | some i => lrow (pRows R gb gx gt Wf n) i (pRowC R gb gx gt (N (n + 1)) 0) (pRowC R gb gx gt (N (n + 1)) 1) (pRowC R gb gx gt (N (n + 1)) 2)) = _
    cases lfind (N (n + 1)) Wf with
    | none => exact i
    | some p => exact ky1_lrow.trans i
theorem w_merge (h : WFk σ) (l8 : (σ.1.1 1).length ≤ 8) : WFk (o_merge σ).2 := by
  unfold o_merge
  cases e : pMerge σ.1.2.1 (σ.1.1 0) (σ.1.1 1) (σ.1.1 2) with
  | none => exact h
  | some W =>
    have g1 := wf_g h (show 1 < 4 by decide)
    have g2 := wf_g h (show 2 < 4 by decide)
    unfold pMerge at e
    cases et : thW (σ.1.1 0) (σ.1.1 1) (σ.1.1 2) ((σ.1.1 2).map fun w => w.1) (mineW (σ.1.1 0) (σ.1.1 1) (σ.1.1 2) (σ.1.1 1)) 0 with
    | none => rw [et] at e; cases e
    | some Wf =>
      rw [et] at e
      have e : (pRows σ.1.2.1 (σ.1.1 0) (σ.1.1 1) (σ.1.1 2) Wf 99, pCls σ.1.2.1 (σ.1.1 0) (σ.1.1 1) (σ.1.1 2) Wf 99) = W := Option.some.inj e
      subst e
      obtain ⟨f1, f2, f3, f4⟩ := wf_facts g1.1 g2.1 g1.2 g2.2 l8 et
      obtain ⟨c1, c2⟩ := pCls_ok (R := σ.1.2.1) (gb := σ.1.1 0) (gx := σ.1.1 1) (gt := σ.1.1 2) (Wf := Wf) 99 (Nat.le_refl _)
      have gk : GOk (pRows σ.1.2.1 (σ.1.1 0) (σ.1.1 1) (σ.1.1 2) Wf 99) := GOk.ky ⟨f2, f3⟩ (ky1_pRows 99)
      obtain ⟨⟨h1, h2, h3⟩, h4, h5, h6⟩ := h
      refine ⟨⟨h1, fun g hg => ?_, h3⟩, h4, ⟨fun c hc => ?_, fun c hc _ => ?_, fun i j c e hi hj hij hk => ?_⟩, h6⟩
      · show GOk (if g = 3 then _ else σ.1.1 g)
        split
        · exact gk
        · exact h2 g hg
      · obtain ⟨c0, -, rfl⟩ := List.mem_map.mp hc
        exact Or.inl rfl
      · obtain ⟨c0, hc0, rfl⟩ := List.mem_map.mp hc
        obtain ⟨-, a2, -, a4⟩ := c1 c0 hc0
        refine ⟨?_, a4⟩
        show c0.2.1 ∈ ky1 (if (3 : Nat) = 3 then pRows σ.1.2.1 (σ.1.1 0) (σ.1.1 1) (σ.1.1 2) Wf 99 else σ.1.1 3)
        rw [if_pos rfl, ky1_pRows 99]
        exact Classical.byContradiction fun q => a2 (lfind_nin.mpr q)
      · have hi : (List.map uns0 (pCls σ.1.2.1 (σ.1.1 0) (σ.1.1 1) (σ.1.1 2) Wf 99))[i]? = some c := hi
        have hj : (List.map uns0 (pCls σ.1.2.1 (σ.1.1 0) (σ.1.1 1) (σ.1.1 2) Wf 99))[j]? = some e := hj
        rw [List.getElem?_map] at hi hj
        obtain ⟨c0, q1, rfl⟩ := Option.map_eq_some_iff.mp hi
        obtain ⟨e0, q2, rfl⟩ := Option.map_eq_some_iff.mp hj
        exact c2 i j c0 e0 q1 q2 hij hk
theorem ky1_pSet {S : DG} {kd key col : Int32} : ky1 (pSet G S kd key col) = ky1 G ∨ (¬ (kd = N 1 ∨ kd = N 3) ∧ ∃ p, lfind key G = some p ∧ pSet G S kd key col = G.eraseIdx p) := by
  unfold pSet
  by_cases e1 : kd = N 1
  · rw [if_pos e1]
    exact Or.inl ky1_lset
  · rw [if_neg e1]
    by_cases e3 : kd = N 3
    · rw [if_pos e3]
      exact Or.inl ky1_lset
    · rw [if_neg e3]
      cases ef : lfind key G with
      | none => exact Or.inl rfl
      | some p =>
        show ky1 (match lfind key S with
          | none => G.eraseIdx p
          | some q => lrow G p (cO [] S (some q) 0) (cO [] S (some q) 1) (cO [] S (some q) 2)) = ky1 G ∨ _
        cases eq : lfind key S with
        | none =>
          refine Or.inr ⟨fun q => q.elim e1 e3, p, rfl, ?_⟩
          rfl
        | some q => exact Or.inl ky1_lrow
theorem mem_erase {p : Nat} {k x : Int32} (hf : lfind k G = some p) (hx : x ∈ ky1 G) (hne : x ≠ k) : x ∈ ky1 (G.eraseIdx p) := by
  obtain ⟨j, hj⟩ := List.mem_iff_getElem?.mp hx
  rw [ky1_get] at hj
  obtain ⟨w, hw, rfl⟩ := Option.map_eq_some_iff.mp hj
  have hjp : j ≠ p := fun q => by
    subst q
    have := lfind_key hf
    obtain ⟨w2, h2, h3⟩ := this
    rw [h2] at hw
    cases hw
    exact hne h3
  exact List.mem_map_of_mem (List.mem_eraseIdx_iff_getElem?.mpr ⟨j, hjp, hw⟩)
end WFS
