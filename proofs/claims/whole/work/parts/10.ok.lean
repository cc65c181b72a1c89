/-! WHAT THE HEAP HOLDS: the machine's heap against the small machine's memory; locals -/
def gTyL : List (Nat → FieldType) := [tyJ0, tyJ4, tyX0, tyX1, tyX2, tyX3, tyX4, tyX5, tyX6, tyX7, tyX8, tyX9, tyX10, tyX11]
def gTy (k : Nat) : Nat → FieldType := gTyL.getD k tyX0
def gET (k : Nat) : FieldType := if k = 20 ∨ k = 42 then .int else if k = 21 then .boolean else if k = 22 ∨ k = 41 then .byte else if k = 30 then .object RX3 else if k = 31 then .object RX4 else if k = 32 then .object RX7 else if k = 33 then .array .int else if k = 34 then .array (.array .int) else .array (.array (.array .int))
def fval (μ : jM) (k a j : Nat) : Value := if (gTy k j).isReference = true then va_rf (jrv μ a j) else .int (jiv μ a j)
def aval (μ : jM) (k a j : Nat) : Value := if k < 30 then .int (jiv μ a j) else va_rf (jrv μ a j)
def oldA (s0 : State) : Nat → Prop := fun q => s0.heap.size ≤ q
def hcell (s0 : State) (D : va_G) (μ : jM) (H : Heap) (a k n : Nat) : Prop :=
  if k < 20 then ∃ r : vw_C, vwCl[k]? = some r ∧ t_OB a (D.1 k) r.2.2 (D.2 k) H (fval μ k a)
  else if k < 40 then ∃ cA : ClassId, H[a]? = some (arrV cA n (aval μ k a)) ∧ ArrOfT s0 cA (gET k) ∧ va_RA s0 cA (gET k) ∧ (k < 30 → ∀ j, fits (gET k) (.int (jiv μ a j)) = true)
  else if k = 40 then va_O "java/lang/String" a (oldA s0) s0 H ∧ va_OF "java/lang/String" "value" "[B" (va_rf (jrv μ a 0)) a (oldA s0) s0 H ∧ va_OF "java/lang/String" "coder" "B" (.int (jiv μ a 1)) a (oldA s0) s0 H
  else va_T (gET k) a n (fun j => .int (jiv μ a j)) (oldA s0) s0 H ∧ ∀ j, fits (gET k) (.int (jiv μ a j)) = true
def gSF : List (String × String × String) := [("java/lang/String", "COMPACT_STRINGS", "Z"), ("jdk/internal/util/Preconditions", "SIOOBE_FORMATTER", "Ljava/util/function/BiFunction;"), ("java/lang/StringUTF16", "$assertionsDisabled", "Z"), ("java/lang/StringUTF16", "HI_BYTE_SHIFT", "I"), ("java/lang/StringUTF16", "LO_BYTE_SHIFT", "I"), ("java/lang/Integer", "DigitOnes", "[B"), ("java/lang/Integer", "DigitTens", "[B"), ("GridMerger$Rules", "ABOVE", "[I")]
def gSR : List (String × Nat × String) := [("GridMerger$Tape", 58, "total"), ("GridMerger$Tape", 64, "most"), ("GridMerger$Tape", 66, "least"), ("GridMerger$Tape", 68, "many"), ("GridMerger$Formula", 64, "total"), ("GridMerger$Formula", 69, "most"), ("GridMerger$Formula", 71, "least"), ("GridMerger$Formula", 73, "many"), ("GridMergerModel", 199, "total"), ("GridMergerModel", 201, "most"), ("GridMergerModel", 203, "least"), ("GridMergerModel", 205, "many"), ("GridMergerModel", 230, "=+-*():$#"), ("GridMergerModel", 383, ""), ("GridMergerModel", 399, "="), ("GridMergerModel", 374, "abc"), ("GridMergerModel", 376, "#"), ("GridMergerModel", 381, "$")]
/-- what the machine's heap holds of the small machine's memory -/
def Hok (s0 : State) (D : va_G) (μ : jM) (H : Heap) : Prop :=
  (∀ a k n : Nat, jty μ a = some (k, n) → hcell s0 D μ H a k n ∧ (k < 40 → s0.heap.size ≤ a) ∧ (40 ≤ k → a < s0.heap.size)) ∧
  H.size = jsz μ ∧ s0.heap.size ≤ jsz μ ∧ (∀ a : Nat, jsz μ ≤ a → jty μ a = none) ∧
  (∀ (j : Nat) (q : String × String × String), gSF[j]? = some q → va_Z q.1 q.2.1 q.2.2 (jext μ j) (oldA s0) s0 H) ∧
  (∀ (j : Nat) (q : String × Nat × String), gSR[j]? = some q → ∃ a : Nat, jext μ (8 + j) = .ref a ∧ vk_R q.1 q.2.1 q.2.2 a s0)
theorem hcell.kept {s0 : State} {D : va_G} {μ μ' : jM} {H H1 : Heap} {a k n : Nat} (h : hcell s0 D μ H a k n) (hq : H1[a]? = H[a]?) (hi : jiv μ' a = jiv μ a) (hr : jrv μ' a = jrv μ a) (ho : ∀ q : Nat, q < s0.heap.size → H1[q]? = H[q]?) (hs : s0.heap.size ≤ H.size) : hcell s0 D μ' H1 a k n := by
  have ef : fval μ' k a = fval μ k a := by funext j; simp only [fval, hi, hr]
  have ea : aval μ' k a = aval μ k a := by funext j; simp only [aval, hi, hr]
  have hk : ∀ q : Nat, q < H.size → ¬ oldA s0 q → H1[q]? = H[q]? := fun q _ h2 => ho q (Nat.lt_of_not_le h2)
  unfold hcell at h ⊢
  rw [ef, ea, hi, hr]
  split
  · rename_i h1
    rw [if_pos h1] at h
    obtain ⟨r, h2, h3⟩ := h
    exact ⟨r, h2, h3.kept hq⟩
  · rename_i h1
    rw [if_neg h1] at h
    split
    · rename_i h2
      rw [if_pos h2] at h
      obtain ⟨cA, h3, h4⟩ := h
      exact ⟨cA, hq.trans h3, h4⟩
    · rename_i h2
      rw [if_neg h2] at h
      split
      · rename_i h3
        rw [if_pos h3] at h
        exact ⟨h.1.kept hk, h.2.1.kept hk, h.2.2.kept hk⟩
      · rename_i h3
        rw [if_neg h3] at h
        exact ⟨h.1.kept hk, h.2⟩
/-- a change of one cell that is the system's -/
theorem Hok.upd {s0 : State} {D : va_G} {μ μ' : jM} {H H1 : Heap} {a k n : Nat} (h : Hok s0 D μ H) (ha : jty μ a = some (k, n)) (hk : k < 40) (ht : jty μ' = jty μ) (hz : jsz μ' = jsz μ) (he : jext μ' = jext μ) (hi : ∀ b, b ≠ a → jiv μ' b = jiv μ b) (hr : ∀ b, b ≠ a → jrv μ' b = jrv μ b)
    (oq : ∀ q : Nat, q ≠ a → H1[q]? = H[q]?) (hs : H1.size = H.size) (hc : hcell s0 D μ' H1 a k n) : Hok s0 D μ' H1 := by
  obtain ⟨h1, h2, h3, h4, h5, h6⟩ := h
  have hb := (h1 a k n ha).2.1 hk
  have ho : ∀ q : Nat, q < s0.heap.size → H1[q]? = H[q]? := fun q hq => oq q (by omega)
  refine ⟨fun b k' n' hb' => ?_, by rw [hs, h2, hz], by rw [hz]; exact h3, fun b hb => by rw [ht]; exact h4 b (by rw [hz] at hb; exact hb), fun j q hj => ?_, fun j q hj => by rw [he]; exact h6 j q hj⟩
  · rw [ht] at hb'
    by_cases e : b = a
    · subst e
      rw [ha] at hb'
      cases hb'
      exact ⟨hc, (h1 _ _ _ ha).2⟩
    · obtain ⟨g1, g2⟩ := h1 b k' n' hb'
      exact ⟨g1.kept (oq b e) (hi b e) (hr b e) ho (by omega), g2⟩
  · rw [he]
    exact (h5 j q hj).kept (fun q _ hq => ho q (Nat.lt_of_not_le hq))
/-- a new cell -/
theorem Hok.new {s0 : State} {D : va_G} {μ : jM} {H H1 : Heap} {k n w : Nat} (h : Hok s0 D μ H) (hk : k < 40) (oq : ∀ q : Nat, q < H.size → H1[q]? = H[q]?) (hs : H1.size = H.size + 1) (hc : hcell s0 D (jnew μ k n w) H1 (jsz μ) k n) : Hok s0 D (jnew μ k n w) H1 := by
  obtain ⟨h1, h2, h3, h4, h5, h6⟩ := h
  have ho : ∀ q : Nat, q < s0.heap.size → H1[q]? = H[q]? := fun q hq => oq q (by omega)
  have hz : jsz (jnew μ k n w) = jsz μ + 1 := rfl
  have ht : ∀ b, jty (jnew μ k n w) b = if b = jsz μ then some (k, n) else jty μ b := fun _ => rfl
  refine ⟨fun b k' n' hb' => ?_, by omega, by omega, fun b hb => ?_, fun j q hj => ?_, fun j q hj => h6 j q hj⟩
  · rw [ht] at hb'
    by_cases e : b = jsz μ
    · rw [if_pos e] at hb'
      cases hb'
      subst e
      exact ⟨hc, fun _ => h3, fun _ => by omega⟩
    · rw [if_neg e] at hb'
      have hlt : b < jsz μ := by
        rcases Nat.lt_or_ge b (jsz μ) with g | g
        · exact g
        · rw [h4 b g] at hb'; cases hb'
      obtain ⟨g1, g2⟩ := h1 b k' n' hb'
      refine ⟨g1.kept (oq b (by omega)) ?_ ?_ ho (by omega), g2⟩
      · funext j; exact if_neg e
      · funext j; exact if_neg e
  · rw [ht, if_neg (by omega)]
    exact h4 b (by omega)
  · exact (h5 j q hj).kept (fun q _ hq => ho q (Nat.lt_of_not_le hq))
/-- locals: none is of two words; what is unset is told by retAddr -/
def LocOk (la : Array Slot) (nL : Nat) (L : List Value) : Prop :=
  L.length = nL ∧ la.size = nL ∧ lv_wf la ∧ (∀ (i : Nat) (v : Value), L[i]? = some v → (∀ q, v ≠ .retAddr q) → la[i]? = some (.val v)) ∧ ∀ v ∈ L, v.category = 1
theorem LocOk.has {la : Array Slot} {nL : Nat} {L : List Value} (h : LocOk la nL L) {i : Nat} {v : Value} (hi : L[i]? = some v) (hv : ∀ q, v ≠ .retAddr q) : lv_has la nL [(i, v)] :=
  ⟨h.2.1, h.2.2.1, fun q hq => by
    rw [List.mem_singleton] at hq
    subst hq
    exact h.2.2.2.1 i v hi hv⟩
/-- the listed locals -/
def lassoc (L : List Value) : List (Nat × Value) := (List.range L.length).filterMap fun i => match (L[i]? : Option Value) with
  | some (.retAddr _) => none
  | some v => some (i, v)
  | none => none
theorem mem_lassoc {L : List Value} {q : Nat × Value} : q ∈ lassoc L ↔ L[q.1]? = some q.2 ∧ ∀ z, q.2 ≠ .retAddr z := by
  obtain ⟨i, v⟩ := q
  unfold lassoc
  simp only [List.mem_filterMap, List.mem_range]
  constructor
  · rintro ⟨j, hj, h⟩
    split at h
    · cases h
    · rename_i w hw hne
      cases h
      exact ⟨hne, fun z hz => hw z (by rw [hz])⟩
    · cases h
  · rintro ⟨h1, h2⟩
    have hl := (List.getElem?_eq_some_iff.mp h1).1
    refine ⟨i, hl, ?_⟩
    have h1 : L[i]? = some v := h1
    rw [h1]
    cases v with
    | retAddr z => exact absurd rfl (h2 z)
    | _ => rfl
theorem LocOk.all {la : Array Slot} {nL : Nat} {L : List Value} (h : LocOk la nL L) : lv_has la nL (lassoc L) := ⟨h.2.1, h.2.2.1, fun q hq => h.2.2.2.1 _ _ (mem_lassoc.mp hq).1 (mem_lassoc.mp hq).2⟩
/-- behind a store of a value of one word -/
theorem LocOk.put {la : Array Slot} {nL : Nat} {L : List Value} {i : Nat} {v : Value} (h : LocOk la nL L) (hc : v.category = 1) {l : List (Nat × Value)} (hl : lassoc L = l) {la' : Array Slot} (h' : lv_has la' nL ((i, v) :: l.filter (fun q => !(q.1 == i) && !(q.1 + 1 == i && q.2.category == 2)))) (hi : i < L.length) : LocOk la' nL (L.set i v) := by
  refine ⟨by rw [List.length_set]; exact h.1, h'.1, h'.2.1, fun j w hj hw => ?_, fun w hw => ?_⟩
  · by_cases e : j = i
    · subst e
      rw [List.getElem?_set_self hi] at hj
      cases hj
      exact h'.2.2 (j, v) List.mem_cons_self
    · rw [List.getElem?_set_ne (Ne.symm e)] at hj
      refine h'.2.2 (j, w) (List.mem_cons_of_mem _ ?_)
      rw [List.mem_filter]
      refine ⟨by rw [← hl]; exact mem_lassoc.mpr ⟨hj, hw⟩, ?_⟩
      have h2 : w.category = 1 := h.2.2.2.2 w (List.mem_of_getElem? hj)
      simp [e, h2]
  · rcases List.mem_or_eq_of_mem_set hw with g | g
    · exact h.2.2.2.2 w g
    · rw [g]; exact hc
theorem LocOk.entry {args : List Value} {nL : Nat} (hn : args.length ≤ nL) (hc : args.all jcat1 = true) : LocOk (lg_sl args ++ List.replicate (nL - (lg_sl args).length) Slot.unset).toArray nL (jentry nL args) := by
  have hc' : ∀ v ∈ args, v.category = 1 := fun v hv => by simpa [jcat1] using List.all_eq_true.mp hc v hv
  have hsl : lg_sl args = args.map Slot.val := by
    clear hn hc
    induction args with
    | nil => rfl
    | cons v vs ih =>
      have h1 := hc' v List.mem_cons_self
      have h2 := ih (fun w hw => hc' w (List.mem_cons_of_mem _ hw))
      unfold lg_sl at h2 ⊢
      rw [List.flatMap_cons, h2, List.map_cons]
      simp [h1]
  have hlen : (lg_sl args).length = args.length := by rw [hsl, List.length_map]
  have he := lv_entry args (n := nL) (by rw [hlen]; exact hn)
  refine ⟨by simp [jentry]; omega, he.1, he.2.1, fun i v hi hv => ?_, fun v hv => ?_⟩
  · unfold jentry at hi
    have hi2 : i < args.length := by
      rcases Nat.lt_or_ge i args.length with g | g
      · exact g
      · rw [List.getElem?_append_right g] at hi
        have := List.eq_of_mem_replicate (List.mem_of_getElem? hi)
        exact absurd this (hv 0)
    rw [List.getElem?_append_left hi2] at hi
    rw [List.getElem?_toArray, List.getElem?_append_left (by rw [hlen]; exact hi2), hsl, List.getElem?_map, hi]
    rfl
  · unfold jentry at hv
    rcases List.mem_append.mp hv with g | g
    · exact hc' v g
    · rw [List.eq_of_mem_replicate g]; rfl
