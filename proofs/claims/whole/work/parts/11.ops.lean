/-! EACH INSTRUCTION'S STEP: where the small machine goes on, the machine goes on alike -/
/-- a method's run stands: at launch, in a state that has warmed since s0, with room for d calls below -/
def Cx (s0 : State) (args0 : Array Value) (D : va_G) (p : Program) (R : Room) (s : State) (m : MethodId) (meth : Method) (c : Code) (d mi : Nat) : Prop :=
  p.tables.exec = Jvm.exec ∧ c.code = gB mi ∧ c.maxLocals = gML mi ∧ meth.sig.returnType = gRt mi ∧ s.vm.findClass (gON (gOW mi)) = some m.cls ∧ s0.WarmedH s.vm ∧ meth.locks = false ∧ (gIK mi ≠ 0 → meth.name = "<init>") ∧ d ≤ R.frames ∧ 33 * d ≤ R.locals ∧ (∀ q ∈ gPGL.getD mi [], dok (gB mi) q = true) ∧ gOW mi < 22 ∧ (∀ w ∈ lw_tbl, w.before args0 s0 = true) ∧ va_K D vwCl [] s0
theorem lookup_mem {α : Type} {l : List (Nat × α)} {k : Nat} {v : α} (h : List.lookup k l = some v) : (k, v) ∈ l := by
  induction l with
  | nil => cases h
  | cons e l ih =>
    rw [List.lookup_cons] at h
    split at h
    · rename_i he
      cases h
      rw [eq_of_beq he]
      exact List.mem_cons_self
    · exact List.mem_cons_of_mem _ (ih h)
section SIM
variable {p : Program} {l : Launch} {e : Env} {R : Room} {s0 s : State} {D : va_G} {args0 args : Array Value} {m : MethodId} {below : List Frame} {meth : Method} {c : Code} {H : Heap} {locs : List Loc} {cells slots : Nat} {Q : State → Prop} {d mi pc : Nat} {la : Array Slot} {L st : List Value} {μ : jM}
def isSw : Instr → Bool
  | .tableswitch .. => true
  | .lookupswitch .. => true
  | _ => false
theorem Cx.dec (C : Cx s0 args0 D p R s m meth c d mi) {i : Instr} (h : gPG mi pc = some i) (hi : isSw i = false) : decode (gB mi) pc = .ok (i, jlen i) := by
  have h1 := C.2.2.2.2.2.2.2.2.2.2.1 _ (lookup_mem h)
  unfold dok at h1
  simp only at h1
  split at h1
  · rename_i i' n hd
    rw [hd]
    simp only [Bool.and_eq_true, decide_eq_true_eq, Bool.or_eq_true, beq_iff_eq] at h1
    obtain ⟨rfl, h2 | h2⟩ := h1
    · rw [h2]
    · have h3 : isSw i' = true := by cases i' <;> first | rfl | exact h2
      rw [hi] at h3; cases h3
  · cases h1
theorem Cx.decS (C : Cx s0 args0 D p R s m meth c d mi) {i : Instr} (h : gPG mi pc = some i) : ∃ n, decode (gB mi) pc = .ok (i, n) := by
  have h1 := C.2.2.2.2.2.2.2.2.2.2.1 _ (lookup_mem h)
  unfold dok at h1
  simp only at h1
  split at h1
  · rename_i i' n hd
    simp only [Bool.and_eq_true, decide_eq_true_eq] at h1
    exact ⟨n, by rw [hd, h1.1]⟩
  · cases h1
theorem Cx.alike (C : Cx s0 args0 D p R s m meth c d mi) : s0.vm.Alike s.vm := C.2.2.2.2.2.1.alike
theorem Cx.K (C : Cx s0 args0 D p R s m meth c d mi) : va_K D vwCl [] s := va_K.moved C.alike C.2.2.2.2.2.2.2.2.2.2.2.2.2
/-- a word of the claim's, where the method stands -/
theorem Cx.word (C : Cx s0 args0 D p R s m meth c d mi) {w : Jvm.Cond} (h : w ∈ lw_tbl) (hg : goodWord w = true) : w.before args s = true := word_at C.2.2.2.2.2.1 (good_of_word hg) (C.2.2.2.2.2.2.2.2.2.2.2.2.1 w h)
theorem Cx.w0 (C : Cx s0 args0 D p R s m meth c d mi) {w : Jvm.Cond} (h : w ∈ lw_tbl) : w.before args0 s0 = true := C.2.2.2.2.2.2.2.2.2.2.2.2.1 w h
theorem Cx.res (C : Cx s0 args0 D p R s m meth c d mi) {idx : Nat} {q : Nat × Nat × Nat × Nat × Nat} (h : gRS mi idx = some q) : ∀ w ∈ ewords (gON (gOW mi)) idx q, w ∈ lw_tbl := gr_words C.2.2.2.2.2.2.2.2.2.2.2.1 h
theorem jgo_inv {pc' : Nat} {L' st' : List Value} {μ' : jM} {pc1 : Nat} {L1 st1 : List Value} {μ1 : jM} (h : jgo pc1 L1 st1 μ1 = some (.inl (pc', L', st', μ'))) : pc' = pc1 ∧ L' = L1 ∧ st' = st1 ∧ μ' = μ1 := by
  unfold jgo at h
  injection h with h
  injection h with h
  injection h with h1 h
  injection h with h2 h
  injection h with h3 h
  exact ⟨h1.symm, h2.symm, h3.symm, h.symm⟩
theorem jset_inv {ls ls' : List Value} {i : Nat} {v : Value} (h : jset ls i v = some ls') : i < ls.length ∧ ls' = ls.set i v := by
  unfold jset at h
  split at h
  · rename_i hi
    exact ⟨hi, (Option.some.inj h).symm⟩
  · cases h
theorem jtgt_inv {off : Int} {t : Nat} (h : jtgt pc off = some t) : (pc : Int) + off = (t : Int) := by
  unfold jtgt at h
  split at h
  · rename_i t' e
    cases h
    exact e
  · cases h
theorem ref_cases {v : Value} (h : jisref v = true) : v = .null ∨ ∃ a, v = .ref a := by
  cases v with
  | null => exact Or.inl rfl
  | ref a => exact Or.inr ⟨a, rfl⟩
  | _ => cases h

theorem so_iconst {n : Int} (C : Cx s0 args0 D p R s m meth c d mi) (hpg : gPG mi pc = some (.iconst n)) (hL : LocOk la (gML mi) L) (hH : Hok s0 D μ H) (hq : ∀ q ∈ locs, s0.heap.size ≤ q.base) {pc' : Nat} {L' st' : List Value} {μ' : jM} (hs : jstep (gRS mi) (gKV mi) (gRC mi) (gIK mi) (.iconst n) pc L st μ = some (.inl (pc', L', st', μ'))) (hc : cells + (jsz μ' - jsz μ) ≤ R.cells) (hsl : slots + (jsl μ' - jsl μ) ≤ R.slots)
    (kk : ∀ (la' : Array Slot) (H' : Heap) (locs' : List Loc), LocOk la' (gML mi) L' → Hok s0 D μ' H' → (∀ q ∈ locs', s0.heap.size ≤ q.base) → W p l e R s m args below meth c H' locs' (cells + (jsz μ' - jsz μ)) (slots + (jsl μ' - jsl μ)) Q (F0 m pc' la' st')) : W p l e R s m args below meth c H locs cells slots Q (F0 m pc la st) := by
  obtain ⟨rfl, rfl, rfl, rfl⟩ := jgo_inv hs
  simp only [Nat.sub_self, Nat.add_zero] at kk
  exact lv_iconst C.1 C.2.1 (C.dec hpg rfl) rfl (kk la H locs hL hH hq)
theorem so_bipush {n : Int} (C : Cx s0 args0 D p R s m meth c d mi) (hpg : gPG mi pc = some (.bipush n)) (hL : LocOk la (gML mi) L) (hH : Hok s0 D μ H) (hq : ∀ q ∈ locs, s0.heap.size ≤ q.base) {pc' : Nat} {L' st' : List Value} {μ' : jM} (hs : jstep (gRS mi) (gKV mi) (gRC mi) (gIK mi) (.bipush n) pc L st μ = some (.inl (pc', L', st', μ'))) (hc : cells + (jsz μ' - jsz μ) ≤ R.cells) (hsl : slots + (jsl μ' - jsl μ) ≤ R.slots)
    (kk : ∀ (la' : Array Slot) (H' : Heap) (locs' : List Loc), LocOk la' (gML mi) L' → Hok s0 D μ' H' → (∀ q ∈ locs', s0.heap.size ≤ q.base) → W p l e R s m args below meth c H' locs' (cells + (jsz μ' - jsz μ)) (slots + (jsl μ' - jsl μ)) Q (F0 m pc' la' st')) : W p l e R s m args below meth c H locs cells slots Q (F0 m pc la st) := by
  obtain ⟨rfl, rfl, rfl, rfl⟩ := jgo_inv hs
  simp only [Nat.sub_self, Nat.add_zero] at kk
  exact lv_bipush C.1 C.2.1 (C.dec hpg rfl) rfl (kk la H locs hL hH hq)
theorem so_sipush {n : Int} (C : Cx s0 args0 D p R s m meth c d mi) (hpg : gPG mi pc = some (.sipush n)) (hL : LocOk la (gML mi) L) (hH : Hok s0 D μ H) (hq : ∀ q ∈ locs, s0.heap.size ≤ q.base) {pc' : Nat} {L' st' : List Value} {μ' : jM} (hs : jstep (gRS mi) (gKV mi) (gRC mi) (gIK mi) (.sipush n) pc L st μ = some (.inl (pc', L', st', μ'))) (hc : cells + (jsz μ' - jsz μ) ≤ R.cells) (hsl : slots + (jsl μ' - jsl μ) ≤ R.slots)
    (kk : ∀ (la' : Array Slot) (H' : Heap) (locs' : List Loc), LocOk la' (gML mi) L' → Hok s0 D μ' H' → (∀ q ∈ locs', s0.heap.size ≤ q.base) → W p l e R s m args below meth c H' locs' (cells + (jsz μ' - jsz μ)) (slots + (jsl μ' - jsl μ)) Q (F0 m pc' la' st')) : W p l e R s m args below meth c H locs cells slots Q (F0 m pc la st) := by
  obtain ⟨rfl, rfl, rfl, rfl⟩ := jgo_inv hs
  simp only [Nat.sub_self, Nat.add_zero] at kk
  exact lv_sipush C.1 C.2.1 (C.dec hpg rfl) rfl (kk la H locs hL hH hq)
theorem so_aconst_null (C : Cx s0 args0 D p R s m meth c d mi) (hpg : gPG mi pc = some (.aconst_null)) (hL : LocOk la (gML mi) L) (hH : Hok s0 D μ H) (hq : ∀ q ∈ locs, s0.heap.size ≤ q.base) {pc' : Nat} {L' st' : List Value} {μ' : jM} (hs : jstep (gRS mi) (gKV mi) (gRC mi) (gIK mi) (.aconst_null) pc L st μ = some (.inl (pc', L', st', μ'))) (hc : cells + (jsz μ' - jsz μ) ≤ R.cells) (hsl : slots + (jsl μ' - jsl μ) ≤ R.slots)
    (kk : ∀ (la' : Array Slot) (H' : Heap) (locs' : List Loc), LocOk la' (gML mi) L' → Hok s0 D μ' H' → (∀ q ∈ locs', s0.heap.size ≤ q.base) → W p l e R s m args below meth c H' locs' (cells + (jsz μ' - jsz μ)) (slots + (jsl μ' - jsl μ)) Q (F0 m pc' la' st')) : W p l e R s m args below meth c H locs cells slots Q (F0 m pc la st) := by
  obtain ⟨rfl, rfl, rfl, rfl⟩ := jgo_inv hs
  simp only [Nat.sub_self, Nat.add_zero] at kk
  exact lv_null C.1 C.2.1 (C.dec hpg rfl) (kk la H locs hL hH hq)
theorem so_iload_n {k : Fin 4} (C : Cx s0 args0 D p R s m meth c d mi) (hpg : gPG mi pc = some (.iload_n k)) (hL : LocOk la (gML mi) L) (hH : Hok s0 D μ H) (hq : ∀ q ∈ locs, s0.heap.size ≤ q.base) {pc' : Nat} {L' st' : List Value} {μ' : jM} (hs : jstep (gRS mi) (gKV mi) (gRC mi) (gIK mi) (.iload_n k) pc L st μ = some (.inl (pc', L', st', μ'))) (hc : cells + (jsz μ' - jsz μ) ≤ R.cells) (hsl : slots + (jsl μ' - jsl μ) ≤ R.slots)
    (kk : ∀ (la' : Array Slot) (H' : Heap) (locs' : List Loc), LocOk la' (gML mi) L' → Hok s0 D μ' H' → (∀ q ∈ locs', s0.heap.size ≤ q.base) → W p l e R s m args below meth c H' locs' (cells + (jsz μ' - jsz μ)) (slots + (jsl μ' - jsl μ)) Q (F0 m pc' la' st')) : W p l e R s m args below meth c H locs cells slots Q (F0 m pc la st) := by
  simp only [jstep, jld, Option.bind_eq_some_iff] at hs
  obtain ⟨v, h1, h2⟩ := hs
  split at h2
  · rename_i x
    obtain ⟨rfl, rfl, rfl, rfl⟩ := jgo_inv h2
    simp only [Nat.sub_self, Nat.add_zero] at kk
    exact lv_iload_n C.1 C.2.1 (C.dec hpg rfl) rfl (lv_at (hL.has h1 (fun q z => by cases z)) 0 rfl) (kk la H locs hL hH hq)
  · cases h2
theorem so_iload {k : Nat} (C : Cx s0 args0 D p R s m meth c d mi) (hpg : gPG mi pc = some (.iload k)) (hL : LocOk la (gML mi) L) (hH : Hok s0 D μ H) (hq : ∀ q ∈ locs, s0.heap.size ≤ q.base) {pc' : Nat} {L' st' : List Value} {μ' : jM} (hs : jstep (gRS mi) (gKV mi) (gRC mi) (gIK mi) (.iload k) pc L st μ = some (.inl (pc', L', st', μ'))) (hc : cells + (jsz μ' - jsz μ) ≤ R.cells) (hsl : slots + (jsl μ' - jsl μ) ≤ R.slots)
    (kk : ∀ (la' : Array Slot) (H' : Heap) (locs' : List Loc), LocOk la' (gML mi) L' → Hok s0 D μ' H' → (∀ q ∈ locs', s0.heap.size ≤ q.base) → W p l e R s m args below meth c H' locs' (cells + (jsz μ' - jsz μ)) (slots + (jsl μ' - jsl μ)) Q (F0 m pc' la' st')) : W p l e R s m args below meth c H locs cells slots Q (F0 m pc la st) := by
  simp only [jstep, jld, Option.bind_eq_some_iff] at hs
  obtain ⟨v, h1, h2⟩ := hs
  split at h2
  · rename_i x
    obtain ⟨rfl, rfl, rfl, rfl⟩ := jgo_inv h2
    simp only [Nat.sub_self, Nat.add_zero] at kk
    exact lv_iload C.1 C.2.1 (C.dec hpg rfl) (lv_at (hL.has h1 (fun q z => by cases z)) 0 rfl) (kk la H locs hL hH hq)
  · cases h2
theorem so_aload_n {k : Fin 4} (C : Cx s0 args0 D p R s m meth c d mi) (hpg : gPG mi pc = some (.aload_n k)) (hL : LocOk la (gML mi) L) (hH : Hok s0 D μ H) (hq : ∀ q ∈ locs, s0.heap.size ≤ q.base) {pc' : Nat} {L' st' : List Value} {μ' : jM} (hs : jstep (gRS mi) (gKV mi) (gRC mi) (gIK mi) (.aload_n k) pc L st μ = some (.inl (pc', L', st', μ'))) (hc : cells + (jsz μ' - jsz μ) ≤ R.cells) (hsl : slots + (jsl μ' - jsl μ) ≤ R.slots)
    (kk : ∀ (la' : Array Slot) (H' : Heap) (locs' : List Loc), LocOk la' (gML mi) L' → Hok s0 D μ' H' → (∀ q ∈ locs', s0.heap.size ≤ q.base) → W p l e R s m args below meth c H' locs' (cells + (jsz μ' - jsz μ)) (slots + (jsl μ' - jsl μ)) Q (F0 m pc' la' st')) : W p l e R s m args below meth c H locs cells slots Q (F0 m pc la st) := by
  simp only [jstep, jlda, Option.bind_eq_some_iff] at hs
  obtain ⟨v, h1, h2⟩ := hs
  split at h2
  · rename_i hr
    obtain ⟨rfl, rfl, rfl, rfl⟩ := jgo_inv h2
    simp only [Nat.sub_self, Nat.add_zero] at kk
    rcases ref_cases hr with rfl | ⟨a, rfl⟩
    · exact lv_aload_nN C.1 C.2.1 (C.dec hpg rfl) rfl (lv_at (hL.has h1 (fun q z => by cases z)) 0 rfl) (kk la H locs hL hH hq)
    · exact lv_aload_n C.1 C.2.1 (C.dec hpg rfl) rfl (lv_at (hL.has h1 (fun q z => by cases z)) 0 rfl) (kk la H locs hL hH hq)
  · cases h2
theorem so_aload {k : Nat} (C : Cx s0 args0 D p R s m meth c d mi) (hpg : gPG mi pc = some (.aload k)) (hL : LocOk la (gML mi) L) (hH : Hok s0 D μ H) (hq : ∀ q ∈ locs, s0.heap.size ≤ q.base) {pc' : Nat} {L' st' : List Value} {μ' : jM} (hs : jstep (gRS mi) (gKV mi) (gRC mi) (gIK mi) (.aload k) pc L st μ = some (.inl (pc', L', st', μ'))) (hc : cells + (jsz μ' - jsz μ) ≤ R.cells) (hsl : slots + (jsl μ' - jsl μ) ≤ R.slots)
    (kk : ∀ (la' : Array Slot) (H' : Heap) (locs' : List Loc), LocOk la' (gML mi) L' → Hok s0 D μ' H' → (∀ q ∈ locs', s0.heap.size ≤ q.base) → W p l e R s m args below meth c H' locs' (cells + (jsz μ' - jsz μ)) (slots + (jsl μ' - jsl μ)) Q (F0 m pc' la' st')) : W p l e R s m args below meth c H locs cells slots Q (F0 m pc la st) := by
  simp only [jstep, jlda, Option.bind_eq_some_iff] at hs
  obtain ⟨v, h1, h2⟩ := hs
  split at h2
  · rename_i hr
    obtain ⟨rfl, rfl, rfl, rfl⟩ := jgo_inv h2
    simp only [Nat.sub_self, Nat.add_zero] at kk
    rcases ref_cases hr with rfl | ⟨a, rfl⟩
    · exact lv_aloadN C.1 C.2.1 (C.dec hpg rfl) (lv_at (hL.has h1 (fun q z => by cases z)) 0 rfl) (kk la H locs hL hH hq)
    · exact lv_aload C.1 C.2.1 (C.dec hpg rfl) (lv_at (hL.has h1 (fun q z => by cases z)) 0 rfl) (kk la H locs hL hH hq)
  · cases h2
theorem so_istore_n {k : Fin 4} (C : Cx s0 args0 D p R s m meth c d mi) (hpg : gPG mi pc = some (.istore_n k)) (hL : LocOk la (gML mi) L) (hH : Hok s0 D μ H) (hq : ∀ q ∈ locs, s0.heap.size ≤ q.base) {pc' : Nat} {L' st' : List Value} {μ' : jM} (hs : jstep (gRS mi) (gKV mi) (gRC mi) (gIK mi) (.istore_n k) pc L st μ = some (.inl (pc', L', st', μ'))) (hc : cells + (jsz μ' - jsz μ) ≤ R.cells) (hsl : slots + (jsl μ' - jsl μ) ≤ R.slots)
    (kk : ∀ (la' : Array Slot) (H' : Heap) (locs' : List Loc), LocOk la' (gML mi) L' → Hok s0 D μ' H' → (∀ q ∈ locs', s0.heap.size ≤ q.base) → W p l e R s m args below meth c H' locs' (cells + (jsz μ' - jsz μ)) (slots + (jsl μ' - jsl μ)) Q (F0 m pc' la' st')) : W p l e R s m args below meth c H locs cells slots Q (F0 m pc la st) := by
  simp only [jstep, jsti] at hs
  split at hs
  · rename_i x st1
    simp only [Option.bind_eq_some_iff] at hs
    obtain ⟨ls', h1, h2⟩ := hs
    obtain ⟨hi, rfl⟩ := jset_inv h1
    obtain ⟨rfl, rfl, rfl, rfl⟩ := jgo_inv h2
    simp only [Nat.sub_self, Nat.add_zero] at kk
    exact lv_istore_n C.1 C.2.1 (C.dec hpg rfl) rfl hL.all (by rw [← hL.1]; exact hi) rfl (fun ls'' h'' => kk ls'' H locs (hL.put rfl rfl h'' hi) hH hq)
  · cases hs
theorem so_istore {k : Nat} (C : Cx s0 args0 D p R s m meth c d mi) (hpg : gPG mi pc = some (.istore k)) (hL : LocOk la (gML mi) L) (hH : Hok s0 D μ H) (hq : ∀ q ∈ locs, s0.heap.size ≤ q.base) {pc' : Nat} {L' st' : List Value} {μ' : jM} (hs : jstep (gRS mi) (gKV mi) (gRC mi) (gIK mi) (.istore k) pc L st μ = some (.inl (pc', L', st', μ'))) (hc : cells + (jsz μ' - jsz μ) ≤ R.cells) (hsl : slots + (jsl μ' - jsl μ) ≤ R.slots)
    (kk : ∀ (la' : Array Slot) (H' : Heap) (locs' : List Loc), LocOk la' (gML mi) L' → Hok s0 D μ' H' → (∀ q ∈ locs', s0.heap.size ≤ q.base) → W p l e R s m args below meth c H' locs' (cells + (jsz μ' - jsz μ)) (slots + (jsl μ' - jsl μ)) Q (F0 m pc' la' st')) : W p l e R s m args below meth c H locs cells slots Q (F0 m pc la st) := by
  simp only [jstep, jsti] at hs
  split at hs
  · rename_i x st1
    simp only [Option.bind_eq_some_iff] at hs
    obtain ⟨ls', h1, h2⟩ := hs
    obtain ⟨hi, rfl⟩ := jset_inv h1
    obtain ⟨rfl, rfl, rfl, rfl⟩ := jgo_inv h2
    simp only [Nat.sub_self, Nat.add_zero] at kk
    exact lv_istore C.1 C.2.1 (C.dec hpg rfl) hL.all (by rw [← hL.1]; exact hi) rfl (fun ls'' h'' => kk ls'' H locs (hL.put rfl rfl h'' hi) hH hq)
  · cases hs
theorem so_astore_n {k : Fin 4} (C : Cx s0 args0 D p R s m meth c d mi) (hpg : gPG mi pc = some (.astore_n k)) (hL : LocOk la (gML mi) L) (hH : Hok s0 D μ H) (hq : ∀ q ∈ locs, s0.heap.size ≤ q.base) {pc' : Nat} {L' st' : List Value} {μ' : jM} (hs : jstep (gRS mi) (gKV mi) (gRC mi) (gIK mi) (.astore_n k) pc L st μ = some (.inl (pc', L', st', μ'))) (hc : cells + (jsz μ' - jsz μ) ≤ R.cells) (hsl : slots + (jsl μ' - jsl μ) ≤ R.slots)
    (kk : ∀ (la' : Array Slot) (H' : Heap) (locs' : List Loc), LocOk la' (gML mi) L' → Hok s0 D μ' H' → (∀ q ∈ locs', s0.heap.size ≤ q.base) → W p l e R s m args below meth c H' locs' (cells + (jsz μ' - jsz μ)) (slots + (jsl μ' - jsl μ)) Q (F0 m pc' la' st')) : W p l e R s m args below meth c H locs cells slots Q (F0 m pc la st) := by
  simp only [jstep, jsta] at hs
  split at hs
  · rename_i v st1
    split at hs
    · rename_i hr
      simp only [Option.bind_eq_some_iff] at hs
      obtain ⟨ls', h1, h2⟩ := hs
      obtain ⟨hi, rfl⟩ := jset_inv h1
      obtain ⟨rfl, rfl, rfl, rfl⟩ := jgo_inv h2
      simp only [Nat.sub_self, Nat.add_zero] at kk
      rcases ref_cases hr with rfl | ⟨a, rfl⟩
      · exact lv_astore_nN C.1 C.2.1 (C.dec hpg rfl) rfl hL.all (by rw [← hL.1]; exact hi) rfl (fun ls'' h'' => kk ls'' H locs (hL.put rfl rfl h'' hi) hH hq)
      · exact lv_astore_n C.1 C.2.1 (C.dec hpg rfl) rfl hL.all (by rw [← hL.1]; exact hi) rfl (fun ls'' h'' => kk ls'' H locs (hL.put rfl rfl h'' hi) hH hq)
    · cases hs
  · cases hs
theorem so_astore {k : Nat} (C : Cx s0 args0 D p R s m meth c d mi) (hpg : gPG mi pc = some (.astore k)) (hL : LocOk la (gML mi) L) (hH : Hok s0 D μ H) (hq : ∀ q ∈ locs, s0.heap.size ≤ q.base) {pc' : Nat} {L' st' : List Value} {μ' : jM} (hs : jstep (gRS mi) (gKV mi) (gRC mi) (gIK mi) (.astore k) pc L st μ = some (.inl (pc', L', st', μ'))) (hc : cells + (jsz μ' - jsz μ) ≤ R.cells) (hsl : slots + (jsl μ' - jsl μ) ≤ R.slots)
    (kk : ∀ (la' : Array Slot) (H' : Heap) (locs' : List Loc), LocOk la' (gML mi) L' → Hok s0 D μ' H' → (∀ q ∈ locs', s0.heap.size ≤ q.base) → W p l e R s m args below meth c H' locs' (cells + (jsz μ' - jsz μ)) (slots + (jsl μ' - jsl μ)) Q (F0 m pc' la' st')) : W p l e R s m args below meth c H locs cells slots Q (F0 m pc la st) := by
  simp only [jstep, jsta] at hs
  split at hs
  · rename_i v st1
    split at hs
    · rename_i hr
      simp only [Option.bind_eq_some_iff] at hs
      obtain ⟨ls', h1, h2⟩ := hs
      obtain ⟨hi, rfl⟩ := jset_inv h1
      obtain ⟨rfl, rfl, rfl, rfl⟩ := jgo_inv h2
      simp only [Nat.sub_self, Nat.add_zero] at kk
      rcases ref_cases hr with rfl | ⟨a, rfl⟩
      · exact lv_astoreN C.1 C.2.1 (C.dec hpg rfl) hL.all (by rw [← hL.1]; exact hi) rfl (fun ls'' h'' => kk ls'' H locs (hL.put rfl rfl h'' hi) hH hq)
      · exact lv_astore C.1 C.2.1 (C.dec hpg rfl) hL.all (by rw [← hL.1]; exact hi) rfl (fun ls'' h'' => kk ls'' H locs (hL.put rfl rfl h'' hi) hH hq)
    · cases hs
  · cases hs
theorem so_iinc {k : Nat} {n : Int} (C : Cx s0 args0 D p R s m meth c d mi) (hpg : gPG mi pc = some (.iinc k n)) (hL : LocOk la (gML mi) L) (hH : Hok s0 D μ H) (hq : ∀ q ∈ locs, s0.heap.size ≤ q.base) {pc' : Nat} {L' st' : List Value} {μ' : jM} (hs : jstep (gRS mi) (gKV mi) (gRC mi) (gIK mi) (.iinc k n) pc L st μ = some (.inl (pc', L', st', μ'))) (hc : cells + (jsz μ' - jsz μ) ≤ R.cells) (hsl : slots + (jsl μ' - jsl μ) ≤ R.slots)
    (kk : ∀ (la' : Array Slot) (H' : Heap) (locs' : List Loc), LocOk la' (gML mi) L' → Hok s0 D μ' H' → (∀ q ∈ locs', s0.heap.size ≤ q.base) → W p l e R s m args below meth c H' locs' (cells + (jsz μ' - jsz μ)) (slots + (jsl μ' - jsl μ)) Q (F0 m pc' la' st')) : W p l e R s m args below meth c H locs cells slots Q (F0 m pc la st) := by
  simp only [jstep, Option.bind_eq_some_iff] at hs
  obtain ⟨v, h1, h2⟩ := hs
  split at h2
  · rename_i x
    simp only [Option.bind_eq_some_iff] at h2
    obtain ⟨ls', h3, h2⟩ := h2
    obtain ⟨hi, rfl⟩ := jset_inv h3
    obtain ⟨rfl, rfl, rfl, rfl⟩ := jgo_inv h2
    simp only [Nat.sub_self, Nat.add_zero] at kk
    obtain ⟨j, hj⟩ := List.getElem?_of_mem (mem_lassoc.mpr ⟨(show L[((k, Value.int x) : Nat × Value).1]? = some ((k, Value.int x) : Nat × Value).2 from h1), (fun z hz => by cases hz)⟩)
    exact lv_iinc C.1 C.2.1 (C.dec hpg rfl) hL.all hj rfl (by rw [← hL.1]; exact hi) rfl (fun ls'' h'' => kk ls'' H locs (hL.put rfl rfl h'' hi) hH hq)
  · cases h2
theorem so_iadd (C : Cx s0 args0 D p R s m meth c d mi) (hpg : gPG mi pc = some (.iadd)) (hL : LocOk la (gML mi) L) (hH : Hok s0 D μ H) (hq : ∀ q ∈ locs, s0.heap.size ≤ q.base) {pc' : Nat} {L' st' : List Value} {μ' : jM} (hs : jstep (gRS mi) (gKV mi) (gRC mi) (gIK mi) (.iadd) pc L st μ = some (.inl (pc', L', st', μ'))) (hc : cells + (jsz μ' - jsz μ) ≤ R.cells) (hsl : slots + (jsl μ' - jsl μ) ≤ R.slots)
    (kk : ∀ (la' : Array Slot) (H' : Heap) (locs' : List Loc), LocOk la' (gML mi) L' → Hok s0 D μ' H' → (∀ q ∈ locs', s0.heap.size ≤ q.base) → W p l e R s m args below meth c H' locs' (cells + (jsz μ' - jsz μ)) (slots + (jsl μ' - jsl μ)) Q (F0 m pc' la' st')) : W p l e R s m args below meth c H locs cells slots Q (F0 m pc la st) := by
  simp only [jstep, jbin] at hs
  split at hs
  · obtain ⟨rfl, rfl, rfl, rfl⟩ := jgo_inv hs
    simp only [Nat.sub_self, Nat.add_zero] at kk
    exact lv_iadd C.1 C.2.1 (C.dec hpg rfl) (kk la H locs hL hH hq)
  · cases hs
theorem so_isub (C : Cx s0 args0 D p R s m meth c d mi) (hpg : gPG mi pc = some (.isub)) (hL : LocOk la (gML mi) L) (hH : Hok s0 D μ H) (hq : ∀ q ∈ locs, s0.heap.size ≤ q.base) {pc' : Nat} {L' st' : List Value} {μ' : jM} (hs : jstep (gRS mi) (gKV mi) (gRC mi) (gIK mi) (.isub) pc L st μ = some (.inl (pc', L', st', μ'))) (hc : cells + (jsz μ' - jsz μ) ≤ R.cells) (hsl : slots + (jsl μ' - jsl μ) ≤ R.slots)
    (kk : ∀ (la' : Array Slot) (H' : Heap) (locs' : List Loc), LocOk la' (gML mi) L' → Hok s0 D μ' H' → (∀ q ∈ locs', s0.heap.size ≤ q.base) → W p l e R s m args below meth c H' locs' (cells + (jsz μ' - jsz μ)) (slots + (jsl μ' - jsl μ)) Q (F0 m pc' la' st')) : W p l e R s m args below meth c H locs cells slots Q (F0 m pc la st) := by
  simp only [jstep, jbin] at hs
  split at hs
  · obtain ⟨rfl, rfl, rfl, rfl⟩ := jgo_inv hs
    simp only [Nat.sub_self, Nat.add_zero] at kk
    exact lv_isub C.1 C.2.1 (C.dec hpg rfl) (kk la H locs hL hH hq)
  · cases hs
theorem so_imul (C : Cx s0 args0 D p R s m meth c d mi) (hpg : gPG mi pc = some (.imul)) (hL : LocOk la (gML mi) L) (hH : Hok s0 D μ H) (hq : ∀ q ∈ locs, s0.heap.size ≤ q.base) {pc' : Nat} {L' st' : List Value} {μ' : jM} (hs : jstep (gRS mi) (gKV mi) (gRC mi) (gIK mi) (.imul) pc L st μ = some (.inl (pc', L', st', μ'))) (hc : cells + (jsz μ' - jsz μ) ≤ R.cells) (hsl : slots + (jsl μ' - jsl μ) ≤ R.slots)
    (kk : ∀ (la' : Array Slot) (H' : Heap) (locs' : List Loc), LocOk la' (gML mi) L' → Hok s0 D μ' H' → (∀ q ∈ locs', s0.heap.size ≤ q.base) → W p l e R s m args below meth c H' locs' (cells + (jsz μ' - jsz μ)) (slots + (jsl μ' - jsl μ)) Q (F0 m pc' la' st')) : W p l e R s m args below meth c H locs cells slots Q (F0 m pc la st) := by
  simp only [jstep, jbin] at hs
  split at hs
  · obtain ⟨rfl, rfl, rfl, rfl⟩ := jgo_inv hs
    simp only [Nat.sub_self, Nat.add_zero] at kk
    exact lv_imul C.1 C.2.1 (C.dec hpg rfl) (kk la H locs hL hH hq)
  · cases hs
theorem so_iand (C : Cx s0 args0 D p R s m meth c d mi) (hpg : gPG mi pc = some (.iand)) (hL : LocOk la (gML mi) L) (hH : Hok s0 D μ H) (hq : ∀ q ∈ locs, s0.heap.size ≤ q.base) {pc' : Nat} {L' st' : List Value} {μ' : jM} (hs : jstep (gRS mi) (gKV mi) (gRC mi) (gIK mi) (.iand) pc L st μ = some (.inl (pc', L', st', μ'))) (hc : cells + (jsz μ' - jsz μ) ≤ R.cells) (hsl : slots + (jsl μ' - jsl μ) ≤ R.slots)
    (kk : ∀ (la' : Array Slot) (H' : Heap) (locs' : List Loc), LocOk la' (gML mi) L' → Hok s0 D μ' H' → (∀ q ∈ locs', s0.heap.size ≤ q.base) → W p l e R s m args below meth c H' locs' (cells + (jsz μ' - jsz μ)) (slots + (jsl μ' - jsl μ)) Q (F0 m pc' la' st')) : W p l e R s m args below meth c H locs cells slots Q (F0 m pc la st) := by
  simp only [jstep, jbin] at hs
  split at hs
  · obtain ⟨rfl, rfl, rfl, rfl⟩ := jgo_inv hs
    simp only [Nat.sub_self, Nat.add_zero] at kk
    exact lv_iand C.1 C.2.1 (C.dec hpg rfl) (kk la H locs hL hH hq)
  · cases hs
theorem so_ior (C : Cx s0 args0 D p R s m meth c d mi) (hpg : gPG mi pc = some (.ior)) (hL : LocOk la (gML mi) L) (hH : Hok s0 D μ H) (hq : ∀ q ∈ locs, s0.heap.size ≤ q.base) {pc' : Nat} {L' st' : List Value} {μ' : jM} (hs : jstep (gRS mi) (gKV mi) (gRC mi) (gIK mi) (.ior) pc L st μ = some (.inl (pc', L', st', μ'))) (hc : cells + (jsz μ' - jsz μ) ≤ R.cells) (hsl : slots + (jsl μ' - jsl μ) ≤ R.slots)
    (kk : ∀ (la' : Array Slot) (H' : Heap) (locs' : List Loc), LocOk la' (gML mi) L' → Hok s0 D μ' H' → (∀ q ∈ locs', s0.heap.size ≤ q.base) → W p l e R s m args below meth c H' locs' (cells + (jsz μ' - jsz μ)) (slots + (jsl μ' - jsl μ)) Q (F0 m pc' la' st')) : W p l e R s m args below meth c H locs cells slots Q (F0 m pc la st) := by
  simp only [jstep, jbin] at hs
  split at hs
  · obtain ⟨rfl, rfl, rfl, rfl⟩ := jgo_inv hs
    simp only [Nat.sub_self, Nat.add_zero] at kk
    exact lv_ior C.1 C.2.1 (C.dec hpg rfl) (kk la H locs hL hH hq)
  · cases hs
theorem so_ishl (C : Cx s0 args0 D p R s m meth c d mi) (hpg : gPG mi pc = some (.ishl)) (hL : LocOk la (gML mi) L) (hH : Hok s0 D μ H) (hq : ∀ q ∈ locs, s0.heap.size ≤ q.base) {pc' : Nat} {L' st' : List Value} {μ' : jM} (hs : jstep (gRS mi) (gKV mi) (gRC mi) (gIK mi) (.ishl) pc L st μ = some (.inl (pc', L', st', μ'))) (hc : cells + (jsz μ' - jsz μ) ≤ R.cells) (hsl : slots + (jsl μ' - jsl μ) ≤ R.slots)
    (kk : ∀ (la' : Array Slot) (H' : Heap) (locs' : List Loc), LocOk la' (gML mi) L' → Hok s0 D μ' H' → (∀ q ∈ locs', s0.heap.size ≤ q.base) → W p l e R s m args below meth c H' locs' (cells + (jsz μ' - jsz μ)) (slots + (jsl μ' - jsl μ)) Q (F0 m pc' la' st')) : W p l e R s m args below meth c H locs cells slots Q (F0 m pc la st) := by
  simp only [jstep, jbin] at hs
  split at hs
  · obtain ⟨rfl, rfl, rfl, rfl⟩ := jgo_inv hs
    simp only [Nat.sub_self, Nat.add_zero] at kk
    exact lv_ishl C.1 C.2.1 (C.dec hpg rfl) (kk la H locs hL hH hq)
  · cases hs
theorem so_ishr (C : Cx s0 args0 D p R s m meth c d mi) (hpg : gPG mi pc = some (.ishr)) (hL : LocOk la (gML mi) L) (hH : Hok s0 D μ H) (hq : ∀ q ∈ locs, s0.heap.size ≤ q.base) {pc' : Nat} {L' st' : List Value} {μ' : jM} (hs : jstep (gRS mi) (gKV mi) (gRC mi) (gIK mi) (.ishr) pc L st μ = some (.inl (pc', L', st', μ'))) (hc : cells + (jsz μ' - jsz μ) ≤ R.cells) (hsl : slots + (jsl μ' - jsl μ) ≤ R.slots)
    (kk : ∀ (la' : Array Slot) (H' : Heap) (locs' : List Loc), LocOk la' (gML mi) L' → Hok s0 D μ' H' → (∀ q ∈ locs', s0.heap.size ≤ q.base) → W p l e R s m args below meth c H' locs' (cells + (jsz μ' - jsz μ)) (slots + (jsl μ' - jsl μ)) Q (F0 m pc' la' st')) : W p l e R s m args below meth c H locs cells slots Q (F0 m pc la st) := by
  simp only [jstep, jbin] at hs
  split at hs
  · obtain ⟨rfl, rfl, rfl, rfl⟩ := jgo_inv hs
    simp only [Nat.sub_self, Nat.add_zero] at kk
    exact lv_ishr C.1 C.2.1 (C.dec hpg rfl) (kk la H locs hL hH hq)
  · cases hs
theorem so_iushr (C : Cx s0 args0 D p R s m meth c d mi) (hpg : gPG mi pc = some (.iushr)) (hL : LocOk la (gML mi) L) (hH : Hok s0 D μ H) (hq : ∀ q ∈ locs, s0.heap.size ≤ q.base) {pc' : Nat} {L' st' : List Value} {μ' : jM} (hs : jstep (gRS mi) (gKV mi) (gRC mi) (gIK mi) (.iushr) pc L st μ = some (.inl (pc', L', st', μ'))) (hc : cells + (jsz μ' - jsz μ) ≤ R.cells) (hsl : slots + (jsl μ' - jsl μ) ≤ R.slots)
    (kk : ∀ (la' : Array Slot) (H' : Heap) (locs' : List Loc), LocOk la' (gML mi) L' → Hok s0 D μ' H' → (∀ q ∈ locs', s0.heap.size ≤ q.base) → W p l e R s m args below meth c H' locs' (cells + (jsz μ' - jsz μ)) (slots + (jsl μ' - jsl μ)) Q (F0 m pc' la' st')) : W p l e R s m args below meth c H locs cells slots Q (F0 m pc la st) := by
  simp only [jstep, jbin] at hs
  split at hs
  · obtain ⟨rfl, rfl, rfl, rfl⟩ := jgo_inv hs
    simp only [Nat.sub_self, Nat.add_zero] at kk
    exact lv_iushr C.1 C.2.1 (C.dec hpg rfl) rfl (kk la H locs hL hH hq)
  · cases hs
theorem so_idiv (C : Cx s0 args0 D p R s m meth c d mi) (hpg : gPG mi pc = some (.idiv)) (hL : LocOk la (gML mi) L) (hH : Hok s0 D μ H) (hq : ∀ q ∈ locs, s0.heap.size ≤ q.base) {pc' : Nat} {L' st' : List Value} {μ' : jM} (hs : jstep (gRS mi) (gKV mi) (gRC mi) (gIK mi) (.idiv) pc L st μ = some (.inl (pc', L', st', μ'))) (hc : cells + (jsz μ' - jsz μ) ≤ R.cells) (hsl : slots + (jsl μ' - jsl μ) ≤ R.slots)
    (kk : ∀ (la' : Array Slot) (H' : Heap) (locs' : List Loc), LocOk la' (gML mi) L' → Hok s0 D μ' H' → (∀ q ∈ locs', s0.heap.size ≤ q.base) → W p l e R s m args below meth c H' locs' (cells + (jsz μ' - jsz μ)) (slots + (jsl μ' - jsl μ)) Q (F0 m pc' la' st')) : W p l e R s m args below meth c H locs cells slots Q (F0 m pc la st) := by
  simp only [jstep] at hs
  split at hs
  · split at hs
    · cases hs
    · rename_i hne
      obtain ⟨rfl, rfl, rfl, rfl⟩ := jgo_inv hs
      simp only [Nat.sub_self, Nat.add_zero] at kk
      exact lv_idiv C.1 C.2.1 (C.dec hpg rfl) hne (kk la H locs hL hH hq)
  · cases hs
theorem so_irem (C : Cx s0 args0 D p R s m meth c d mi) (hpg : gPG mi pc = some (.irem)) (hL : LocOk la (gML mi) L) (hH : Hok s0 D μ H) (hq : ∀ q ∈ locs, s0.heap.size ≤ q.base) {pc' : Nat} {L' st' : List Value} {μ' : jM} (hs : jstep (gRS mi) (gKV mi) (gRC mi) (gIK mi) (.irem) pc L st μ = some (.inl (pc', L', st', μ'))) (hc : cells + (jsz μ' - jsz μ) ≤ R.cells) (hsl : slots + (jsl μ' - jsl μ) ≤ R.slots)
    (kk : ∀ (la' : Array Slot) (H' : Heap) (locs' : List Loc), LocOk la' (gML mi) L' → Hok s0 D μ' H' → (∀ q ∈ locs', s0.heap.size ≤ q.base) → W p l e R s m args below meth c H' locs' (cells + (jsz μ' - jsz μ)) (slots + (jsl μ' - jsl μ)) Q (F0 m pc' la' st')) : W p l e R s m args below meth c H locs cells slots Q (F0 m pc la st) := by
  simp only [jstep] at hs
  split at hs
  · split at hs
    · cases hs
    · rename_i hne
      obtain ⟨rfl, rfl, rfl, rfl⟩ := jgo_inv hs
      simp only [Nat.sub_self, Nat.add_zero] at kk
      exact lv_irem C.1 C.2.1 (C.dec hpg rfl) hne (kk la H locs hL hH hq)
  · cases hs
theorem so_ineg (C : Cx s0 args0 D p R s m meth c d mi) (hpg : gPG mi pc = some (.ineg)) (hL : LocOk la (gML mi) L) (hH : Hok s0 D μ H) (hq : ∀ q ∈ locs, s0.heap.size ≤ q.base) {pc' : Nat} {L' st' : List Value} {μ' : jM} (hs : jstep (gRS mi) (gKV mi) (gRC mi) (gIK mi) (.ineg) pc L st μ = some (.inl (pc', L', st', μ'))) (hc : cells + (jsz μ' - jsz μ) ≤ R.cells) (hsl : slots + (jsl μ' - jsl μ) ≤ R.slots)
    (kk : ∀ (la' : Array Slot) (H' : Heap) (locs' : List Loc), LocOk la' (gML mi) L' → Hok s0 D μ' H' → (∀ q ∈ locs', s0.heap.size ≤ q.base) → W p l e R s m args below meth c H' locs' (cells + (jsz μ' - jsz μ)) (slots + (jsl μ' - jsl μ)) Q (F0 m pc' la' st')) : W p l e R s m args below meth c H locs cells slots Q (F0 m pc la st) := by
  simp only [jstep, jun1] at hs
  split at hs
  · obtain ⟨rfl, rfl, rfl, rfl⟩ := jgo_inv hs
    simp only [Nat.sub_self, Nat.add_zero] at kk
    exact lv_ineg C.1 C.2.1 (C.dec hpg rfl) (kk la H locs hL hH hq)
  · cases hs
theorem so_i2b (C : Cx s0 args0 D p R s m meth c d mi) (hpg : gPG mi pc = some (.i2b)) (hL : LocOk la (gML mi) L) (hH : Hok s0 D μ H) (hq : ∀ q ∈ locs, s0.heap.size ≤ q.base) {pc' : Nat} {L' st' : List Value} {μ' : jM} (hs : jstep (gRS mi) (gKV mi) (gRC mi) (gIK mi) (.i2b) pc L st μ = some (.inl (pc', L', st', μ'))) (hc : cells + (jsz μ' - jsz μ) ≤ R.cells) (hsl : slots + (jsl μ' - jsl μ) ≤ R.slots)
    (kk : ∀ (la' : Array Slot) (H' : Heap) (locs' : List Loc), LocOk la' (gML mi) L' → Hok s0 D μ' H' → (∀ q ∈ locs', s0.heap.size ≤ q.base) → W p l e R s m args below meth c H' locs' (cells + (jsz μ' - jsz μ)) (slots + (jsl μ' - jsl μ)) Q (F0 m pc' la' st')) : W p l e R s m args below meth c H locs cells slots Q (F0 m pc la st) := by
  simp only [jstep, jun1] at hs
  split at hs
  · obtain ⟨rfl, rfl, rfl, rfl⟩ := jgo_inv hs
    simp only [Nat.sub_self, Nat.add_zero] at kk
    exact lv_i2b C.1 C.2.1 (C.dec hpg rfl) rfl (kk la H locs hL hH hq)
  · cases hs
theorem so_i2s (C : Cx s0 args0 D p R s m meth c d mi) (hpg : gPG mi pc = some (.i2s)) (hL : LocOk la (gML mi) L) (hH : Hok s0 D μ H) (hq : ∀ q ∈ locs, s0.heap.size ≤ q.base) {pc' : Nat} {L' st' : List Value} {μ' : jM} (hs : jstep (gRS mi) (gKV mi) (gRC mi) (gIK mi) (.i2s) pc L st μ = some (.inl (pc', L', st', μ'))) (hc : cells + (jsz μ' - jsz μ) ≤ R.cells) (hsl : slots + (jsl μ' - jsl μ) ≤ R.slots)
    (kk : ∀ (la' : Array Slot) (H' : Heap) (locs' : List Loc), LocOk la' (gML mi) L' → Hok s0 D μ' H' → (∀ q ∈ locs', s0.heap.size ≤ q.base) → W p l e R s m args below meth c H' locs' (cells + (jsz μ' - jsz μ)) (slots + (jsl μ' - jsl μ)) Q (F0 m pc' la' st')) : W p l e R s m args below meth c H locs cells slots Q (F0 m pc la st) := by
  simp only [jstep, jun1] at hs
  split at hs
  · obtain ⟨rfl, rfl, rfl, rfl⟩ := jgo_inv hs
    simp only [Nat.sub_self, Nat.add_zero] at kk
    exact lv_i2s C.1 C.2.1 (C.dec hpg rfl) rfl (kk la H locs hL hH hq)
  · cases hs
theorem so_i2c (C : Cx s0 args0 D p R s m meth c d mi) (hpg : gPG mi pc = some (.i2c)) (hL : LocOk la (gML mi) L) (hH : Hok s0 D μ H) (hq : ∀ q ∈ locs, s0.heap.size ≤ q.base) {pc' : Nat} {L' st' : List Value} {μ' : jM} (hs : jstep (gRS mi) (gKV mi) (gRC mi) (gIK mi) (.i2c) pc L st μ = some (.inl (pc', L', st', μ'))) (hc : cells + (jsz μ' - jsz μ) ≤ R.cells) (hsl : slots + (jsl μ' - jsl μ) ≤ R.slots)
    (kk : ∀ (la' : Array Slot) (H' : Heap) (locs' : List Loc), LocOk la' (gML mi) L' → Hok s0 D μ' H' → (∀ q ∈ locs', s0.heap.size ≤ q.base) → W p l e R s m args below meth c H' locs' (cells + (jsz μ' - jsz μ)) (slots + (jsl μ' - jsl μ)) Q (F0 m pc' la' st')) : W p l e R s m args below meth c H locs cells slots Q (F0 m pc la st) := by
  simp only [jstep, jun1] at hs
  split at hs
  · obtain ⟨rfl, rfl, rfl, rfl⟩ := jgo_inv hs
    simp only [Nat.sub_self, Nat.add_zero] at kk
    exact lv_i2c C.1 C.2.1 (C.dec hpg rfl) rfl (kk la H locs hL hH hq)
  · cases hs
theorem so_i2l (C : Cx s0 args0 D p R s m meth c d mi) (hpg : gPG mi pc = some (.i2l)) (hL : LocOk la (gML mi) L) (hH : Hok s0 D μ H) (hq : ∀ q ∈ locs, s0.heap.size ≤ q.base) {pc' : Nat} {L' st' : List Value} {μ' : jM} (hs : jstep (gRS mi) (gKV mi) (gRC mi) (gIK mi) (.i2l) pc L st μ = some (.inl (pc', L', st', μ'))) (hc : cells + (jsz μ' - jsz μ) ≤ R.cells) (hsl : slots + (jsl μ' - jsl μ) ≤ R.slots)
    (kk : ∀ (la' : Array Slot) (H' : Heap) (locs' : List Loc), LocOk la' (gML mi) L' → Hok s0 D μ' H' → (∀ q ∈ locs', s0.heap.size ≤ q.base) → W p l e R s m args below meth c H' locs' (cells + (jsz μ' - jsz μ)) (slots + (jsl μ' - jsl μ)) Q (F0 m pc' la' st')) : W p l e R s m args below meth c H locs cells slots Q (F0 m pc la st) := by
  simp only [jstep] at hs
  split at hs
  · obtain ⟨rfl, rfl, rfl, rfl⟩ := jgo_inv hs
    simp only [Nat.sub_self, Nat.add_zero] at kk
    exact lv_i2l C.1 C.2.1 (C.dec hpg rfl) rfl (kk la H locs hL hH hq)
  · cases hs
theorem so_lcmp (C : Cx s0 args0 D p R s m meth c d mi) (hpg : gPG mi pc = some (.lcmp)) (hL : LocOk la (gML mi) L) (hH : Hok s0 D μ H) (hq : ∀ q ∈ locs, s0.heap.size ≤ q.base) {pc' : Nat} {L' st' : List Value} {μ' : jM} (hs : jstep (gRS mi) (gKV mi) (gRC mi) (gIK mi) (.lcmp) pc L st μ = some (.inl (pc', L', st', μ'))) (hc : cells + (jsz μ' - jsz μ) ≤ R.cells) (hsl : slots + (jsl μ' - jsl μ) ≤ R.slots)
    (kk : ∀ (la' : Array Slot) (H' : Heap) (locs' : List Loc), LocOk la' (gML mi) L' → Hok s0 D μ' H' → (∀ q ∈ locs', s0.heap.size ≤ q.base) → W p l e R s m args below meth c H' locs' (cells + (jsz μ' - jsz μ)) (slots + (jsl μ' - jsl μ)) Q (F0 m pc' la' st')) : W p l e R s m args below meth c H locs cells slots Q (F0 m pc la st) := by
  simp only [jstep] at hs
  split at hs
  · obtain ⟨rfl, rfl, rfl, rfl⟩ := jgo_inv hs
    simp only [Nat.sub_self, Nat.add_zero] at kk
    exact W.lcmp C.1 C.2.1 (C.dec hpg rfl) (kk la H locs hL hH hq)
  · cases hs
theorem so_dup (C : Cx s0 args0 D p R s m meth c d mi) (hpg : gPG mi pc = some (.dup)) (hL : LocOk la (gML mi) L) (hH : Hok s0 D μ H) (hq : ∀ q ∈ locs, s0.heap.size ≤ q.base) {pc' : Nat} {L' st' : List Value} {μ' : jM} (hs : jstep (gRS mi) (gKV mi) (gRC mi) (gIK mi) (.dup) pc L st μ = some (.inl (pc', L', st', μ'))) (hc : cells + (jsz μ' - jsz μ) ≤ R.cells) (hsl : slots + (jsl μ' - jsl μ) ≤ R.slots)
    (kk : ∀ (la' : Array Slot) (H' : Heap) (locs' : List Loc), LocOk la' (gML mi) L' → Hok s0 D μ' H' → (∀ q ∈ locs', s0.heap.size ≤ q.base) → W p l e R s m args below meth c H' locs' (cells + (jsz μ' - jsz μ)) (slots + (jsl μ' - jsl μ)) Q (F0 m pc' la' st')) : W p l e R s m args below meth c H locs cells slots Q (F0 m pc la st) := by
  simp only [jstep] at hs
  split at hs
  · split at hs
    · rename_i hc1
      obtain ⟨rfl, rfl, rfl, rfl⟩ := jgo_inv hs
      simp only [Nat.sub_self, Nat.add_zero] at kk
      exact lv_dup C.1 C.2.1 (C.dec hpg rfl) (by simpa [jcat1] using hc1) (kk la H locs hL hH hq)
    · cases hs
  · cases hs
theorem so_pop (C : Cx s0 args0 D p R s m meth c d mi) (hpg : gPG mi pc = some (.pop)) (hL : LocOk la (gML mi) L) (hH : Hok s0 D μ H) (hq : ∀ q ∈ locs, s0.heap.size ≤ q.base) {pc' : Nat} {L' st' : List Value} {μ' : jM} (hs : jstep (gRS mi) (gKV mi) (gRC mi) (gIK mi) (.pop) pc L st μ = some (.inl (pc', L', st', μ'))) (hc : cells + (jsz μ' - jsz μ) ≤ R.cells) (hsl : slots + (jsl μ' - jsl μ) ≤ R.slots)
    (kk : ∀ (la' : Array Slot) (H' : Heap) (locs' : List Loc), LocOk la' (gML mi) L' → Hok s0 D μ' H' → (∀ q ∈ locs', s0.heap.size ≤ q.base) → W p l e R s m args below meth c H' locs' (cells + (jsz μ' - jsz μ)) (slots + (jsl μ' - jsl μ)) Q (F0 m pc' la' st')) : W p l e R s m args below meth c H locs cells slots Q (F0 m pc la st) := by
  simp only [jstep] at hs
  split at hs
  · split at hs
    · rename_i hc1
      obtain ⟨rfl, rfl, rfl, rfl⟩ := jgo_inv hs
      simp only [Nat.sub_self, Nat.add_zero] at kk
      exact lv_pop C.1 C.2.1 (C.dec hpg rfl) (by simpa [jcat1] using hc1) (kk la H locs hL hH hq)
    · cases hs
  · cases hs
theorem so_dup_x1 (C : Cx s0 args0 D p R s m meth c d mi) (hpg : gPG mi pc = some (.dup_x1)) (hL : LocOk la (gML mi) L) (hH : Hok s0 D μ H) (hq : ∀ q ∈ locs, s0.heap.size ≤ q.base) {pc' : Nat} {L' st' : List Value} {μ' : jM} (hs : jstep (gRS mi) (gKV mi) (gRC mi) (gIK mi) (.dup_x1) pc L st μ = some (.inl (pc', L', st', μ'))) (hc : cells + (jsz μ' - jsz μ) ≤ R.cells) (hsl : slots + (jsl μ' - jsl μ) ≤ R.slots)
    (kk : ∀ (la' : Array Slot) (H' : Heap) (locs' : List Loc), LocOk la' (gML mi) L' → Hok s0 D μ' H' → (∀ q ∈ locs', s0.heap.size ≤ q.base) → W p l e R s m args below meth c H' locs' (cells + (jsz μ' - jsz μ)) (slots + (jsl μ' - jsl μ)) Q (F0 m pc' la' st')) : W p l e R s m args below meth c H locs cells slots Q (F0 m pc la st) := by
  simp only [jstep] at hs
  split at hs
  · split at hs
    · rename_i hc1
      obtain ⟨rfl, rfl, rfl, rfl⟩ := jgo_inv hs
      simp only [Nat.sub_self, Nat.add_zero] at kk
      exact lv_dup_x1 C.1 C.2.1 (C.dec hpg rfl) (by simpa [jcat1] using hc1.1) (by simpa [jcat1] using hc1.2) (kk la H locs hL hH hq)
    · cases hs
  · cases hs
theorem so_dup2 (C : Cx s0 args0 D p R s m meth c d mi) (hpg : gPG mi pc = some (.dup2)) (hL : LocOk la (gML mi) L) (hH : Hok s0 D μ H) (hq : ∀ q ∈ locs, s0.heap.size ≤ q.base) {pc' : Nat} {L' st' : List Value} {μ' : jM} (hs : jstep (gRS mi) (gKV mi) (gRC mi) (gIK mi) (.dup2) pc L st μ = some (.inl (pc', L', st', μ'))) (hc : cells + (jsz μ' - jsz μ) ≤ R.cells) (hsl : slots + (jsl μ' - jsl μ) ≤ R.slots)
    (kk : ∀ (la' : Array Slot) (H' : Heap) (locs' : List Loc), LocOk la' (gML mi) L' → Hok s0 D μ' H' → (∀ q ∈ locs', s0.heap.size ≤ q.base) → W p l e R s m args below meth c H' locs' (cells + (jsz μ' - jsz μ)) (slots + (jsl μ' - jsl μ)) Q (F0 m pc' la' st')) : W p l e R s m args below meth c H locs cells slots Q (F0 m pc la st) := by
  simp only [jstep] at hs
  split at hs
  · split at hs
    · rename_i hc1
      obtain ⟨rfl, rfl, rfl, rfl⟩ := jgo_inv hs
      simp only [Nat.sub_self, Nat.add_zero] at kk
      exact lv_dup2_11 C.1 C.2.1 (C.dec hpg rfl) (by simpa [jcat1] using hc1.1) (by simpa [jcat1] using hc1.2) (kk la H locs hL hH hq)
    · cases hs
  · cases hs
theorem so_goto {off : Int} (C : Cx s0 args0 D p R s m meth c d mi) (hpg : gPG mi pc = some (.goto off)) (hL : LocOk la (gML mi) L) (hH : Hok s0 D μ H) (hq : ∀ q ∈ locs, s0.heap.size ≤ q.base) {pc' : Nat} {L' st' : List Value} {μ' : jM} (hs : jstep (gRS mi) (gKV mi) (gRC mi) (gIK mi) (.goto off) pc L st μ = some (.inl (pc', L', st', μ'))) (hc : cells + (jsz μ' - jsz μ) ≤ R.cells) (hsl : slots + (jsl μ' - jsl μ) ≤ R.slots)
    (kk : ∀ (la' : Array Slot) (H' : Heap) (locs' : List Loc), LocOk la' (gML mi) L' → Hok s0 D μ' H' → (∀ q ∈ locs', s0.heap.size ≤ q.base) → W p l e R s m args below meth c H' locs' (cells + (jsz μ' - jsz μ)) (slots + (jsl μ' - jsl μ)) Q (F0 m pc' la' st')) : W p l e R s m args below meth c H locs cells slots Q (F0 m pc la st) := by
  simp only [jstep, Option.bind_eq_some_iff] at hs
  obtain ⟨t, h1, h2⟩ := hs
  obtain ⟨rfl, rfl, rfl, rfl⟩ := jgo_inv h2
  simp only [Nat.sub_self, Nat.add_zero] at kk
  exact lv_goto C.1 C.2.1 (C.dec hpg rfl) (jtgt_inv h1) (kk la H locs hL hH hq)
theorem so_ifCond {cc : Jvm.ClassFile.Cond} {off : Int} (C : Cx s0 args0 D p R s m meth c d mi) (hpg : gPG mi pc = some (.ifCond cc off)) (hL : LocOk la (gML mi) L) (hH : Hok s0 D μ H) (hq : ∀ q ∈ locs, s0.heap.size ≤ q.base) {pc' : Nat} {L' st' : List Value} {μ' : jM} (hs : jstep (gRS mi) (gKV mi) (gRC mi) (gIK mi) (.ifCond cc off) pc L st μ = some (.inl (pc', L', st', μ'))) (hc : cells + (jsz μ' - jsz μ) ≤ R.cells) (hsl : slots + (jsl μ' - jsl μ) ≤ R.slots)
    (kk : ∀ (la' : Array Slot) (H' : Heap) (locs' : List Loc), LocOk la' (gML mi) L' → Hok s0 D μ' H' → (∀ q ∈ locs', s0.heap.size ≤ q.base) → W p l e R s m args below meth c H' locs' (cells + (jsz μ' - jsz μ)) (slots + (jsl μ' - jsl μ)) Q (F0 m pc' la' st')) : W p l e R s m args below meth c H locs cells slots Q (F0 m pc la st) := by
  simp only [jstep] at hs
  split at hs
  · simp only [Option.bind_eq_some_iff] at hs
    obtain ⟨t, h1, h2⟩ := hs
    rename_i x st1
    have kt : jcmp cc x 0 = true → W p l e R s m args below meth c H locs cells slots Q (F0 m t la st1) := fun hb => by
      rw [if_pos hb] at h2
      obtain ⟨rfl, rfl, rfl, rfl⟩ := jgo_inv h2
      simp only [Nat.sub_self, Nat.add_zero] at kk
      exact kk la H locs hL hH hq
    have kf : ¬ jcmp cc x 0 = true → W p l e R s m args below meth c H locs cells slots Q (F0 m (pc + 3) la st1) := fun hb => by
      rw [if_neg hb] at h2
      obtain ⟨rfl, rfl, rfl, rfl⟩ := jgo_inv h2
      simp only [Nat.sub_self, Nat.add_zero] at kk
      exact kk la H locs hL hH hq
    cases cc with
    | eq => exact lv_if_eq C.1 C.2.1 (C.dec hpg rfl) (jtgt_inv h1) (fun z => kt (by simpa [jcmp, Int32.not_lt] using z)) (fun z => kf (by simpa [jcmp, Int32.not_lt] using z))
    | ne => exact lv_if_ne C.1 C.2.1 (C.dec hpg rfl) (jtgt_inv h1) (fun z => kt (by simpa [jcmp, Int32.not_lt] using z)) (fun z => kf (by simpa [jcmp, Int32.not_lt] using z))
    | lt => exact lv_if_lt C.1 C.2.1 (C.dec hpg rfl) (jtgt_inv h1) (fun z => kt (by simpa [jcmp, Int32.not_lt] using z)) (fun z => kf (by simpa [jcmp, Int32.not_lt] using z))
    | ge => exact lv_if_ge C.1 C.2.1 (C.dec hpg rfl) (jtgt_inv h1) (fun z => kt (by simpa [jcmp, Int32.not_lt] using z)) (fun z => kf (by simpa [jcmp, Int32.not_lt] using z))
    | gt => exact lv_if_gt C.1 C.2.1 (C.dec hpg rfl) (jtgt_inv h1) (fun z => kt (by simpa [jcmp, Int32.not_lt] using z)) (fun z => kf (by simpa [jcmp, Int32.not_lt] using z))
    | le => exact lv_if_le C.1 C.2.1 (C.dec hpg rfl) (jtgt_inv h1) (fun z => kt (by simpa [jcmp, Int32.not_lt] using z)) (fun z => kf (by simpa [jcmp, Int32.not_lt] using z))
  · cases hs
theorem so_if_icmp {cc : Jvm.ClassFile.Cond} {off : Int} (C : Cx s0 args0 D p R s m meth c d mi) (hpg : gPG mi pc = some (.if_icmp cc off)) (hL : LocOk la (gML mi) L) (hH : Hok s0 D μ H) (hq : ∀ q ∈ locs, s0.heap.size ≤ q.base) {pc' : Nat} {L' st' : List Value} {μ' : jM} (hs : jstep (gRS mi) (gKV mi) (gRC mi) (gIK mi) (.if_icmp cc off) pc L st μ = some (.inl (pc', L', st', μ'))) (hc : cells + (jsz μ' - jsz μ) ≤ R.cells) (hsl : slots + (jsl μ' - jsl μ) ≤ R.slots)
    (kk : ∀ (la' : Array Slot) (H' : Heap) (locs' : List Loc), LocOk la' (gML mi) L' → Hok s0 D μ' H' → (∀ q ∈ locs', s0.heap.size ≤ q.base) → W p l e R s m args below meth c H' locs' (cells + (jsz μ' - jsz μ)) (slots + (jsl μ' - jsl μ)) Q (F0 m pc' la' st')) : W p l e R s m args below meth c H locs cells slots Q (F0 m pc la st) := by
  simp only [jstep] at hs
  split at hs
  · simp only [Option.bind_eq_some_iff] at hs
    obtain ⟨t, h1, h2⟩ := hs
    rename_i y x st1
    have kt : jcmp cc x y = true → W p l e R s m args below meth c H locs cells slots Q (F0 m t la st1) := fun hb => by
      rw [if_pos hb] at h2
      obtain ⟨rfl, rfl, rfl, rfl⟩ := jgo_inv h2
      simp only [Nat.sub_self, Nat.add_zero] at kk
      exact kk la H locs hL hH hq
    have kf : ¬ jcmp cc x y = true → W p l e R s m args below meth c H locs cells slots Q (F0 m (pc + 3) la st1) := fun hb => by
      rw [if_neg hb] at h2
      obtain ⟨rfl, rfl, rfl, rfl⟩ := jgo_inv h2
      simp only [Nat.sub_self, Nat.add_zero] at kk
      exact kk la H locs hL hH hq
    cases cc with
    | eq => exact lv_icmp_eq C.1 C.2.1 (C.dec hpg rfl) (jtgt_inv h1) (fun z => kt (by simpa [jcmp, Int32.not_lt] using z)) (fun z => kf (by simpa [jcmp, Int32.not_lt] using z))
    | ne => exact lv_icmp_ne C.1 C.2.1 (C.dec hpg rfl) (jtgt_inv h1) (fun z => kt (by simpa [jcmp, Int32.not_lt] using z)) (fun z => kf (by simpa [jcmp, Int32.not_lt] using z))
    | lt => exact lv_icmp_lt C.1 C.2.1 (C.dec hpg rfl) (jtgt_inv h1) (fun z => kt (by simpa [jcmp, Int32.not_lt] using z)) (fun z => kf (by simpa [jcmp, Int32.not_lt] using z))
    | ge => exact lv_icmp_ge C.1 C.2.1 (C.dec hpg rfl) (jtgt_inv h1) (fun z => kt (by simpa [jcmp, Int32.not_lt] using z)) (fun z => kf (by simpa [jcmp, Int32.not_lt] using z))
    | gt => exact lv_icmp_gt C.1 C.2.1 (C.dec hpg rfl) (jtgt_inv h1) (fun z => kt (by simpa [jcmp, Int32.not_lt] using z)) (fun z => kf (by simpa [jcmp, Int32.not_lt] using z))
    | le => exact lv_icmp_le C.1 C.2.1 (C.dec hpg rfl) (jtgt_inv h1) (fun z => kt (by simpa [jcmp, Int32.not_lt] using z)) (fun z => kf (by simpa [jcmp, Int32.not_lt] using z))
  · cases hs
theorem so_ifnull {off : Int} (C : Cx s0 args0 D p R s m meth c d mi) (hpg : gPG mi pc = some (.ifnull off)) (hL : LocOk la (gML mi) L) (hH : Hok s0 D μ H) (hq : ∀ q ∈ locs, s0.heap.size ≤ q.base) {pc' : Nat} {L' st' : List Value} {μ' : jM} (hs : jstep (gRS mi) (gKV mi) (gRC mi) (gIK mi) (.ifnull off) pc L st μ = some (.inl (pc', L', st', μ'))) (hc : cells + (jsz μ' - jsz μ) ≤ R.cells) (hsl : slots + (jsl μ' - jsl μ) ≤ R.slots)
    (kk : ∀ (la' : Array Slot) (H' : Heap) (locs' : List Loc), LocOk la' (gML mi) L' → Hok s0 D μ' H' → (∀ q ∈ locs', s0.heap.size ≤ q.base) → W p l e R s m args below meth c H' locs' (cells + (jsz μ' - jsz μ)) (slots + (jsl μ' - jsl μ)) Q (F0 m pc' la' st')) : W p l e R s m args below meth c H locs cells slots Q (F0 m pc la st) := by
  simp only [jstep] at hs
  split at hs
  · split at hs
    · rename_i hr
      simp only [Option.bind_eq_some_iff] at hs
      obtain ⟨t, h1, h2⟩ := hs
      rcases ref_cases hr with rfl | ⟨a, rfl⟩
      · rw [if_pos (show jun Value.null = none from rfl)] at h2
        obtain ⟨rfl, rfl, rfl, rfl⟩ := jgo_inv h2
        simp only [Nat.sub_self, Nat.add_zero] at kk
        exact lv_ifnullN C.1 C.2.1 (C.dec hpg rfl) (jtgt_inv h1) (kk la H locs hL hH hq)
      · rw [if_neg (by simp [jun])] at h2
        obtain ⟨rfl, rfl, rfl, rfl⟩ := jgo_inv h2
        simp only [Nat.sub_self, Nat.add_zero] at kk
        exact lv_ifnull C.1 C.2.1 (C.dec hpg rfl) (kk la H locs hL hH hq)
    · cases hs
  · cases hs
theorem so_ifnonnull {off : Int} (C : Cx s0 args0 D p R s m meth c d mi) (hpg : gPG mi pc = some (.ifnonnull off)) (hL : LocOk la (gML mi) L) (hH : Hok s0 D μ H) (hq : ∀ q ∈ locs, s0.heap.size ≤ q.base) {pc' : Nat} {L' st' : List Value} {μ' : jM} (hs : jstep (gRS mi) (gKV mi) (gRC mi) (gIK mi) (.ifnonnull off) pc L st μ = some (.inl (pc', L', st', μ'))) (hc : cells + (jsz μ' - jsz μ) ≤ R.cells) (hsl : slots + (jsl μ' - jsl μ) ≤ R.slots)
    (kk : ∀ (la' : Array Slot) (H' : Heap) (locs' : List Loc), LocOk la' (gML mi) L' → Hok s0 D μ' H' → (∀ q ∈ locs', s0.heap.size ≤ q.base) → W p l e R s m args below meth c H' locs' (cells + (jsz μ' - jsz μ)) (slots + (jsl μ' - jsl μ)) Q (F0 m pc' la' st')) : W p l e R s m args below meth c H locs cells slots Q (F0 m pc la st) := by
  simp only [jstep] at hs
  split at hs
  · split at hs
    · rename_i hr
      simp only [Option.bind_eq_some_iff] at hs
      obtain ⟨t, h1, h2⟩ := hs
      rcases ref_cases hr with rfl | ⟨a, rfl⟩
      · rw [if_pos (show jun Value.null = none from rfl)] at h2
        obtain ⟨rfl, rfl, rfl, rfl⟩ := jgo_inv h2
        simp only [Nat.sub_self, Nat.add_zero] at kk
        exact lv_ifnonnullN C.1 C.2.1 (C.dec hpg rfl) (kk la H locs hL hH hq)
      · rw [if_neg (by simp [jun])] at h2
        obtain ⟨rfl, rfl, rfl, rfl⟩ := jgo_inv h2
        simp only [Nat.sub_self, Nat.add_zero] at kk
        exact lv_ifnonnull C.1 C.2.1 (C.dec hpg rfl) (jtgt_inv h1) (kk la H locs hL hH hq)
    · cases hs
  · cases hs
theorem so_tableswitch {df lo hi : Int} {offs : Array Int} (C : Cx s0 args0 D p R s m meth c d mi) (hpg : gPG mi pc = some (.tableswitch df lo hi offs)) (hL : LocOk la (gML mi) L) (hH : Hok s0 D μ H) (hq : ∀ q ∈ locs, s0.heap.size ≤ q.base) {pc' : Nat} {L' st' : List Value} {μ' : jM} (hs : jstep (gRS mi) (gKV mi) (gRC mi) (gIK mi) (.tableswitch df lo hi offs) pc L st μ = some (.inl (pc', L', st', μ'))) (hc : cells + (jsz μ' - jsz μ) ≤ R.cells) (hsl : slots + (jsl μ' - jsl μ) ≤ R.slots)
    (kk : ∀ (la' : Array Slot) (H' : Heap) (locs' : List Loc), LocOk la' (gML mi) L' → Hok s0 D μ' H' → (∀ q ∈ locs', s0.heap.size ≤ q.base) → W p l e R s m args below meth c H' locs' (cells + (jsz μ' - jsz μ)) (slots + (jsl μ' - jsl μ)) Q (F0 m pc' la' st')) : W p l e R s m args below meth c H locs cells slots Q (F0 m pc la st) := by
  simp only [jstep] at hs
  split at hs
  · simp only [Option.bind_eq_some_iff] at hs
    obtain ⟨o, h0, t, h1, h2⟩ := hs
    obtain ⟨rfl, rfl, rfl, rfl⟩ := jgo_inv h2
    simp only [Nat.sub_self, Nat.add_zero] at kk
    obtain ⟨n, hd⟩ := C.decS hpg
    simp only [jsw] at h0
    split at h0
    · rename_i ho
      cases h0
      exact lv_tableOut C.1 C.2.1 hd ho (jtgt_inv h1) (kk la H locs hL hH hq)
    · rename_i ho
      exact lv_tableIn C.1 C.2.1 hd (fun z => ho (Or.inl z)) (fun z => ho (Or.inr z)) h0 (jtgt_inv h1) (kk la H locs hL hH hq)
  · cases hs
theorem so_lookupswitch {df : Int} {ps : Array (Int × Int)} (C : Cx s0 args0 D p R s m meth c d mi) (hpg : gPG mi pc = some (.lookupswitch df ps)) (hL : LocOk la (gML mi) L) (hH : Hok s0 D μ H) (hq : ∀ q ∈ locs, s0.heap.size ≤ q.base) {pc' : Nat} {L' st' : List Value} {μ' : jM} (hs : jstep (gRS mi) (gKV mi) (gRC mi) (gIK mi) (.lookupswitch df ps) pc L st μ = some (.inl (pc', L', st', μ'))) (hc : cells + (jsz μ' - jsz μ) ≤ R.cells) (hsl : slots + (jsl μ' - jsl μ) ≤ R.slots)
    (kk : ∀ (la' : Array Slot) (H' : Heap) (locs' : List Loc), LocOk la' (gML mi) L' → Hok s0 D μ' H' → (∀ q ∈ locs', s0.heap.size ≤ q.base) → W p l e R s m args below meth c H' locs' (cells + (jsz μ' - jsz μ)) (slots + (jsl μ' - jsl μ)) Q (F0 m pc' la' st')) : W p l e R s m args below meth c H locs cells slots Q (F0 m pc la st) := by
  simp only [jstep] at hs
  split at hs
  · simp only [Option.bind_eq_some_iff] at hs
    obtain ⟨o, h0, t, h1, h2⟩ := hs
    obtain ⟨rfl, rfl, rfl, rfl⟩ := jgo_inv h2
    simp only [Nat.sub_self, Nat.add_zero] at kk
    obtain ⟨n, hd⟩ := C.decS hpg
    simp only [jsw] at h0
    split at h0
    · rename_i ho
      cases h0
      exact lv_lookup C.1 C.2.1 hd ho rfl (jtgt_inv h1) (kk la H locs hL hH hq)
    · cases h0
  · cases hs
end SIM
