/-! MERGING, pure: what comes in, how many, its rows -/
theorem cntP_set {f f' : Nat → Bool} {k0 : Nat} (h : ∀ k, k ≠ k0 → f' k = f k) (h0 : f k0 = false) : ∀ (R : List Nat), R.Nodup → k0 ∈ R → R.countP f' = R.countP f + if f' k0 = true then 1 else 0
  | [], _, hk => by cases hk
  | a :: R, hN, hk => by
    obtain ⟨n1, n2⟩ := List.nodup_cons.mp hN
    rw [List.countP_cons, List.countP_cons]
    by_cases e : a = k0
    · subst e
      have : R.countP f' = R.countP f := List.countP_congr (fun x hx => by rw [h x (fun q => n1 (q ▸ hx))])
      rw [this, h0]
      simp
    · have hk' : k0 ∈ R := by
        rcases List.mem_cons.mp hk with q | q
        · exact absurd q.symm e
        · exact q
      rw [cntP_set h h0 R n2 hk', h a e]
      omega
theorem cntP_or {f g : Nat → Bool} (h : ∀ k, f k = true → g k = false) : ∀ (R : List Nat), R.countP (fun k => f k || g k) = R.countP f + R.countP g
  | [] => rfl
  | a :: R => by
    rw [List.countP_cons, List.countP_cons, List.countP_cons, cntP_or h R]
    cases e : f a with
    | true => rw [h a e]; simp; omega
    | false => simp; omega
theorem cnt_keys {p : Int32 → Bool} : ∀ (L : List Int32), L.Nodup → (∀ x, x ∈ L → ∃ k, 1 ≤ k ∧ k < 100 ∧ x = N k) → (List.range' 1 99).countP (fun k => p (N k) && decide (N k ∈ L)) = L.countP p
  | [], _, _ => by
    rw [List.countP_eq_zero.mpr (fun a _ => by simp)]; rfl
  | x :: L, hN, hK => by
    obtain ⟨n1, n2⟩ := List.nodup_cons.mp hN
    obtain ⟨k0, h1, h2, rfl⟩ := hK x (List.mem_cons_self ..)
    rw [List.countP_cons, ← cnt_keys L n2 (fun y hy => hK y (List.mem_cons_of_mem _ hy))]
    have hm : k0 ∈ List.range' 1 99 := by
      rw [List.mem_range'_1]; omega
    have h : ∀ k ∈ List.range' 1 99, k ≠ k0 → (p (N k) && decide (N k ∈ N k0 :: L)) = (p (N k) && decide (N k ∈ L)) := by
      intro k hk hne
      have hk := List.mem_range'_1.mp hk
      have : ¬ N k = N k0 := by rw [N_inj (by omega) (by omega)]; exact hne
      simp [this]
    have := cntP_set (f := fun k => p (N k) && decide (N k ∈ L)) (f' := fun k => if k = k0 then p (N k0) else p (N k) && decide (N k ∈ L)) (k0 := k0) (fun k hk => if_neg hk) (by simp [n1]) (List.range' 1 99) (List.nodup_range') hm
    simp only [if_true] at this
    rw [← this]
    refine List.countP_congr (fun k hk => ?_)
    by_cases e : k = k0
    · subst e; simp
    · rw [if_neg e, h k hk e]
/-- the keys of rows -/
def ky1 {φ : Type} (l : List (RW φ)) : List Int32 := l.map fun w => w.1
theorem lfind_nin {φ : Type} {l : List (RW φ)} {k : Int32} : lfind k l = none ↔ k ∉ ky1 l := by
  unfold lfind ky1
  rw [List.findIdx?_eq_none_iff]
  constructor
  · intro h q
    obtain ⟨w, h1, h2⟩ := List.mem_map.mp q
    have := h w h1
    simp [h2] at this
  · intro h w hw
    refine decide_eq_false (fun q => h (List.mem_map.mpr ⟨w, hw, q⟩))
theorem nextB_leq {W : DG} {k : Int32} {b : Nat} (h : b ≤ W.length) : nextB W k b ≤ W.length := by
  unfold nextB
  split
  · exact h
  · rename_i p e
    have := lfind_lt e
    omega
theorem ky1_ins {l : DG} {b : Nat} {k : Int32} : ky1 (l.insertIdx b (zr k)) = (ky1 l).insertIdx b k := map_insertIdx
/-- the keys of the other one's that come in besides -/
noncomputable def inB (gb gx gt : DG) (k : Int32) : Bool := (lfind k gx).isNone && keepB gb gx gt k
theorem thW_cons {gb gx gt : DG} {k : Int32} {ks : List Int32} {W : DG} {b : Nat} : thW gb gx gt (k :: ks) W b = if inB gb gx gt k = true then (if W.length < 8 then thW gb gx gt ks (W.insertIdx b (zr k)) (nextB (W.insertIdx b (zr k)) k b) else none) else thW gb gx gt ks W (nextB W k b) := rfl
theorem thW_none {gb gx gt : DG} : ∀ (ks : List Int32) (W : DG) (b : Nat), b ≤ W.length → W.length ≤ 8 → (thW gb gx gt ks W b = none ↔ 8 < W.length + ks.countP (inB gb gx gt))
  | [], W, b, hb, h8 => by
    show some W = none ↔ _
    simp; omega
  | k :: ks, W, b, hb, h8 => by
    rw [thW_cons, List.countP_cons]
    by_cases e : inB gb gx gt k = true
    · rw [if_pos e, if_pos e]
      by_cases e8 : W.length < 8
      · have l : (W.insertIdx b (zr k)).length = W.length + 1 := List.length_insertIdx_of_le_length hb _
        rw [if_pos e8, thW_none ks _ _ (nextB_leq (by omega)) (by omega), l]
        omega
      · rw [if_neg e8]
        simp; omega
    · rw [if_neg e, if_neg e, thW_none ks _ _ (nextB_leq hb) h8]
      omega
theorem thW_some {gb gx gt : DG} : ∀ (ks : List Int32) (W : DG) (b : Nat) (W' : DG), b ≤ W.length → W.length ≤ 8 → thW gb gx gt ks W b = some W' → W'.length ≤ 8 ∧ (∀ k, k ∈ ky1 W' ↔ k ∈ ky1 W ∨ (k ∈ ks ∧ inB gb gx gt k = true)) ∧ ((ky1 W).Nodup → ks.Nodup → (∀ k, k ∈ ks → inB gb gx gt k = true → k ∉ ky1 W) → (ky1 W').Nodup)
  | [], W, b, W', hb, h8, h => by
    have h : some W = some W' := h
    cases h
    exact ⟨h8, fun k => by simp, fun n _ _ => n⟩
  | k :: ks, W, b, W', hb, h8, h => by
    rw [thW_cons] at h
    by_cases e : inB gb gx gt k = true
    · rw [if_pos e] at h
      by_cases e8 : W.length < 8
      · rw [if_pos e8] at h
        have l : (W.insertIdx b (zr k)).length = W.length + 1 := List.length_insertIdx_of_le_length hb _
        obtain ⟨a1, a2, a3⟩ := thW_some ks _ _ W' (nextB_leq (by omega)) (by omega) h
        have lk : (ky1 W).length = W.length := List.length_map ..
        have mem : ∀ x, x ∈ ky1 (W.insertIdx b (zr k)) ↔ x = k ∨ x ∈ ky1 W := fun x => by
          rw [ky1_ins]; exact List.mem_insertIdx (by omega)
        refine ⟨a1, fun x => ?_, fun n1 n2 n3 => ?_⟩
        · rw [a2, mem, List.mem_cons]
          constructor
          · rintro ((q | q) | ⟨q1, q2⟩)
            · subst q; exact Or.inr ⟨Or.inl rfl, e⟩
            · exact Or.inl q
            · exact Or.inr ⟨Or.inr q1, q2⟩
          · rintro (q | ⟨q | q, q2⟩)
            · exact Or.inl (Or.inr q)
            · exact Or.inl (Or.inl q)
            · exact Or.inr ⟨q, q2⟩
        · obtain ⟨m1, m2⟩ := List.nodup_cons.mp n2
          refine a3 ?_ m2 (fun x hx hi => ?_)
          · rw [ky1_ins, (List.perm_insertIdx k (ky1 W) (by omega)).nodup_iff]
            exact List.nodup_cons.mpr ⟨n3 k (List.mem_cons_self ..) e, n1⟩
          · rw [mem]
            rintro (q | q)
            · subst q; exact m1 hx
            · exact n3 x (List.mem_cons_of_mem _ hx) hi q
      · rw [if_neg e8] at h; cases h
    · rw [if_neg e] at h
      obtain ⟨a1, a2, a3⟩ := thW_some ks _ _ W' (nextB_leq hb) h8 h
      refine ⟨a1, fun x => ?_, fun n1 n2 n3 => a3 n1 (List.nodup_cons.mp n2).2 (fun x hx => n3 x (List.mem_cons_of_mem _ hx))⟩
      rw [a2, List.mem_cons]
      constructor
      · rintro (q | ⟨q1, q2⟩)
        · exact Or.inl q
        · exact Or.inr ⟨Or.inr q1, q2⟩
      · rintro (q | ⟨q | q, q2⟩)
        · exact Or.inl q
        · subst q; exact absurd q2 e
        · exact Or.inr ⟨q, q2⟩
theorem keepK_in {gb gx gt : DG} {k : Int32} (h : keepK gb gx gt k) : lfind k gx ≠ none ∨ lfind k gt ≠ none := by
  unfold keepK at h
  cases e1 : lfind k gx with
  | some i => exact Or.inl (fun q => by cases q)
  | none =>
    cases e2 : lfind k gt with
    | some j => exact Or.inr (fun q => by cases q)
    | none => rw [e1, e2] at h; exact h.elim
theorem KK.ky {G : DG} (h : KK G) : ∀ x, x ∈ ky1 G → ∃ k, 1 ≤ k ∧ k < 100 ∧ x = N k := by
  intro x hx
  obtain ⟨w, h1, h2⟩ := List.mem_map.mp hx
  obtain ⟨k, a, b, c⟩ := h w h1
  exact ⟨k, a, b, by rw [← h2]; exact c⟩
theorem ky1_mine {gb gx gt : DG} : ky1 (mineW gb gx gt gx) = (ky1 gx).filter (keepB gb gx gt) := by
  unfold mineW ky1
  rw [List.map_map]
  show List.map (fun k => (zr k).1) _ = _
  show List.map id _ = _
  rw [List.map_id]
/-- how many keys come in -/
theorem cnt_in {gb gx gt : DG} (hx : KK gx) (ht : KK gt) (nx : (ky1 gx).Nodup) (nt : (ky1 gt).Nodup) : (List.range' 1 99).countP (fun k => keepB gb gx gt (N k)) = (mineW gb gx gt gx).length + (ky1 gt).countP (inB gb gx gt) := by
  rw [← cnt_keys (p := inB gb gx gt) (ky1 gt) nt ht.ky]
  have e1 : (mineW gb gx gt gx).length = (ky1 gx).countP (keepB gb gx gt) := by
    have : (mineW gb gx gt gx).length = (ky1 (mineW gb gx gt gx)).length := (List.length_map ..).symm
    rw [this, ky1_mine, List.countP_eq_length_filter]
  rw [e1, ← cnt_keys (p := keepB gb gx gt) (ky1 gx) nx hx.ky, ← cntP_or]
  · refine List.countP_congr (fun k _ => ?_)
    simp only [Bool.or_eq_true, Bool.and_eq_true, decide_eq_true_eq, inB, Option.isNone_iff_eq_none, lfind_nin]
    constructor
    · intro h
      rcases keepK_in (keepB_iff.mp h) with q | q
      · exact Or.inl ⟨h, Classical.byContradiction fun z => q (lfind_nin.mpr z)⟩
      · by_cases z : N k ∈ ky1 gx
        · exact Or.inl ⟨h, z⟩
        · exact Or.inr ⟨⟨z, h⟩, Classical.byContradiction fun z => q (lfind_nin.mpr z)⟩
    · rintro (⟨h, _⟩ | ⟨⟨_, h⟩, _⟩) <;> exact h
  · intro k h
    have h := (Bool.and_eq_true _ _).mp h
    have h2 := of_decide_eq_true h.2
    have : inB gb gx gt (N k) = false := by
      unfold inB
      have : lfind (N k) gx ≠ none := fun q => (lfind_nin.mp q) h2
      cases e : lfind (N k) gx with
      | none => exact absurd e this
      | some _ => rfl
    show (inB gb gx gt (N k) && _) = false
    rw [this]; rfl
theorem lfind_of {W : DG} {i : Nat} {w : RW (List Tk)} (hn : (ky1 W).Nodup) (h : W[i]? = some w) : lfind w.1 W = some i := by
  unfold lfind
  obtain ⟨hi, he⟩ := List.getElem?_eq_some_iff.mp h
  rw [List.findIdx?_eq_some_iff_getElem]
  refine ⟨hi, by rw [he]; simp, fun j hj => ?_⟩
  have hj' : j < W.length := by omega
  have l : (ky1 W).length = W.length := List.length_map ..
  have hne := List.pairwise_iff_getElem.mp hn j i (by omega) (by omega) hj
  intro q
  refine hne ?_
  unfold ky1
  rw [List.getElem_map, List.getElem_map, he]
  exact eq_of_beq q
/-- what rows there are behind some keys -/
theorem pRows_get {R : Nat → Nat × Nat} {gb gx gt W : DG} (hn : (ky1 W).Nodup) {i m : Nat} {w : RW (List Tk)} (h : W[i]? = some w) (hw : w.1 = N m) (hm : m < 1000) : ∀ n, n < 1000 → (pRows R gb gx gt W n)[i]? = some (if 1 ≤ m ∧ m ≤ n then (w.1, pRowC R gb gx gt w.1 0, pRowC R gb gx gt w.1 1, pRowC R gb gx gt w.1 2) else w)
  | 0, _ => by
    rw [if_neg (by omega)]; exact h
  | n + 1, hn1 => by
    have ih := pRows_get (R := R) (gb := gb) (gx := gx) (gt := gt) hn h hw hm n (by omega)
    unfold pRows
    cases e : lfind (N (n + 1)) W with
    | none =>
      have : m ≠ n + 1 := by
        rintro rfl
        rw [← hw, lfind_of hn h] at e; cases e
      simp only
      rw [ih]
      by_cases z : 1 ≤ m ∧ m ≤ n
      · rw [if_pos z, if_pos (by omega)]
      · rw [if_neg z, if_neg (by omega)]
    | some j =>
      simp only
      unfold lrow
      rw [List.getElem?_modify, ih]
      by_cases ej : j = i
      · subst ej
        obtain ⟨w', h1, h2⟩ := lfind_key e
        rw [h] at h1
        cases h1
        have : m = n + 1 := by
          rw [hw, N_inj (by omega) (by omega)] at h2; exact h2
        subst this
        rw [if_neg (by omega), if_pos (by omega), ← hw]
        simp
      · have : m ≠ n + 1 := by
          rintro rfl
          rw [← hw, lfind_of hn h] at e
          cases e; exact ej rfl
        simp only [if_neg ej, Option.map_eq_map, Option.map_some]
        by_cases z : 1 ≤ m ∧ m ≤ n
        · rw [if_pos z, if_pos (by omega)]
        · rw [if_neg z, if_neg (by omega)]
