/-! EACH INSTRUCTION'S STEP: references stored, objects and arrays made, constants, statics, casts -/
def arrName (k : Nat) : String := if k = 20 then "[I" else if k = 22 then "[B" else if k = 33 then "[[I" else if k = 34 then "[[[I" else "[[[[I"
def clName (k : Nat) : String := ((vwCl[k]?).map (fun r => r.1)).getD ""
/-- what an array of references is linked by: its components' class -/
def elName (k : Nat) : String := match gET k with
  | .object C => C
  | t => t.toString
/-- the words that the making instructions of a method ask -/
def swords (mi : Nat) (i : Instr) : List Cond := match i with
  | .new idx => (match gRS mi idx with | some q => [.classLink (gON (gOW mi)) idx (clName q.1), .instantiable (clName q.1) q.2.1, .initialized (clName q.1)] | none => [])
  | .anewarray idx => (match gRS mi idx with | some q => [.classLink (gON (gOW mi)) idx (elName q.2.2.2.1), .arrayOver (gET q.2.2.2.1)] | none => [])
  | .multianewarray idx _ => (match gRS mi idx with | some q => [.classLink (gON (gOW mi)) idx (arrName q.2.2.2.1), .arrayOver (gET q.2.2.2.1)] | none => [])
  | .checkcast idx => (match gRS mi idx with | some q => [.classLink (gON (gOW mi)) idx (arrName q.2.2.1)] | none => [])
  | _ => []
/-- shapes of the entries -/
def sshape (mi : Nat) (i : Instr) : Bool := match i with
  | .new idx => (match gRS mi idx with | some q => !(q.2.2.2.2 == 30) || (decide (q.1 < 14) && decide (((vwCl[q.1]?).map (fun r => r.2.2)) = some q.2.1)) | none => true)
  | .anewarray idx => (match gRS mi idx with | some q => !(q.2.2.2.2 == 30) || (decide (30 ≤ q.2.2.2.1) && decide (q.2.2.2.1 < 34)) | none => true)
  | .multianewarray idx n => (match gRS mi idx with | some q => !(q.2.2.2.2 == 30) || (decide (33 ≤ q.2.2.2.1) && decide (q.2.2.2.1 < 36) && decide (n = 2 → q.2.2.2.1 < 35) && decide (n = 3 → 33 < q.2.2.2.1)) | none => true)
  | _ => true
def ismk : Instr → Bool
  | .new _ => true | .anewarray _ => true | .multianewarray _ _ => true | .checkcast _ => true
  | _ => false
def mkl : List (Nat × Instr × List Nat) := [(10, .new 7, [186, 187, 161]), (10, .new 10, [1392, 1393, 171]), (11, .new 11, [194, 195, 162]), (11, .new 21, [280, 281, 165]), (11, .new 28, [309, 310, 166]), (11, .new 37, [348, 349, 167]), (11, .new 44, [374, 375, 168]), (11, .new 51, [401, 402, 169]), (11, .new 61, [447, 201, 163]), (11, .new 71, [449, 233, 164]), (11, .anewarray 78, [451, 452]), (11, .new 78, [451, 453, 170]), (30, .new 197, [941, 942, 182]), (68, .new 9, [200, 201, 163]), (68, .new 27, [232, 233, 164]), (68, .anewarray 9, [200, 248]), (81, .new 10, [873, 746, 178]), (87, .anewarray 21, [206, 207]), (111, .new 9, [407, 201, 163]), (111, .new 18, [409, 375, 168]), (159, .new 65, [745, 746, 178]), (160, .multianewarray 15 2, [1398, 1399]), (160, .multianewarray 29 2, [1400, 1401]), (160, .multianewarray 29 3, [1400, 1401]), (160, .multianewarray 55 3, [1402, 1403]), (160, .anewarray 106, [1404, 1399]), (205, .checkcast 106, [1404]), (220, .new 378, [1867, 942, 182]), (221, .new 378, [1867, 942, 182]), (297, .new 18, [1875, 1876, 172]), (304, .checkcast 317, [756]), (306, .checkcast 311, [1010]), (307, .checkcast 311, [1010])]
theorem mkl_ok : mkl.all (fun e => (((swords e.1 e.2.1).zip e.2.2).all (fun p => hint p.1 p.2) && (swords e.1 e.2.1).length == e.2.2.length) && sshape e.1 e.2.1) = true := by decide +kernel
/-- each making instruction of the tables is in that list, or its entry is none -/
def mkin (mi : Nat) : Bool := (gPGL.getD mi []).all (fun q => !(ismk q.2) || mkl.any (fun e => e.1 == mi && decide (e.2.1 = q.2)) || (match q.2 with | .new idx => (gRS mi idx).isNone | .anewarray idx => (gRS mi idx).isNone | .multianewarray idx _ => (gRS mi idx).isNone | .checkcast idx => (gRS mi idx).isNone | _ => true))
theorem mk_all : (List.range 313).all mkin = true := by decide +kernel
theorem gPGL_big {mi : Nat} (h : 313 ≤ mi) : gPGL.getD mi [] = [] := by
  rw [List.getD_eq_getElem?_getD, List.getElem?_eq_none]
  · rfl
  · exact Nat.le_trans (show gPGL.length ≤ 313 by decide +kernel) h
theorem mk_words {mi pc : Nat} {i : Instr} (hpg : gPG mi pc = some i) (hi : ismk i = true) {idx : Nat} {q : Nat × Nat × Nat × Nat × Nat} (hr : gRS mi idx = some q) (hx : i = .new idx ∨ i = .anewarray idx ∨ (∃ n, i = .multianewarray idx n) ∨ i = .checkcast idx) : (∀ w ∈ swords mi i, w ∈ lw_tbl) ∧ sshape mi i = true := by
  have hm : (pc, i) ∈ gPGL.getD mi [] := lookup_mem hpg
  rcases Nat.lt_or_ge mi 313 with g | g
  · have h1 := List.all_eq_true.mp mk_all mi (List.mem_range.mpr g)
    have h2 := List.all_eq_true.mp h1 _ hm
    simp only [hi, Bool.not_true, Bool.false_or, Bool.or_eq_true] at h2
    rcases h2 with h2 | h2
    · obtain ⟨e, he, h3⟩ := List.any_eq_true.mp h2
      simp only [Bool.and_eq_true, beq_iff_eq, decide_eq_true_eq] at h3
      obtain ⟨rfl, rfl⟩ := h3
      have h4 := List.all_eq_true.mp mkl_ok e he
      rw [Bool.and_eq_true] at h4
      exact ⟨hin_mem h4.1, h4.2⟩
    · exfalso
      rcases hx with rfl | rfl | ⟨n, rfl⟩ | rfl <;> simp [hr] at h2
  · rw [gPGL_big g] at hm; cases hm
def kword (own : String) (idx : Nat) : Value ⊕ Nat → List Cond
  | .inl (.int v) => [.constant own idx v]
  | .inl (.long v) => [.constantLong own idx v]
  | .inl _ => []
  | .inr j => if j < 8 then (match gSF[j]? with | some q => [.fieldLink own idx q.1 q.2.1 q.2.2] | none => []) else []
/-- an entry for a constant: its word, or the place of its text -/
def kok (o idx : Nat) (v : Value ⊕ Nat) (h : Nat) : Bool := (kword (gON o) idx v).all (fun w => hint w h) && (match v with
  | .inl (.int _) => true
  | .inl (.long _) => true
  | .inl _ => false
  | .inr j => if j < 8 then (gSF[j]?).isSome else (match gSR[j - 8]? with | some q => decide (q.1 = gON o) && decide (q.2.1 = idx) | none => false))
def khl : List (Nat × Nat × Nat) := [(1, 195, 936), (1, 353, 1307), (2, 104, 926), (2, 105, 927), (5, 64, 0), (5, 69, 0), (5, 71, 0), (5, 73, 0), (7, 136, 1233), (8, 22, 1157), (10, 58, 0), (10, 64, 0), (10, 66, 0), (10, 68, 0), (12, 199, 0), (12, 201, 0), (12, 203, 0), (12, 205, 0), (12, 230, 0), (12, 372, 1857), (12, 374, 0), (12, 376, 0), (12, 381, 0), (12, 383, 0), (12, 399, 0), (12, 483, 2053), (13, 18, 950), (13, 39, 1002), (14, 83, 1057), (14, 87, 1059), (16, 38, 600), (16, 1053, 616), (20, 200, 998)]
def khint (o idx : Nat) : Nat := ((khl.find? (fun e => e.1 == o && e.2.1 == idx)).map (fun e => e.2.2)).getD 0
theorem kok_all : ∀ o, o < 22 → (gKL.getD o []).all (fun e => kok o e.1 e.2 (khint o e.1)) = true := by decide +kernel
theorem kok_look {o idx : Nat} {v : Value ⊕ Nat} (ho : o < 22) (h : List.lookup idx (gKL.getD o []) = some v) : kok o idx v (khint o idx) = true := List.all_eq_true.mp (kok_all o ho) _ (lookup_mem h)
theorem kok_word {o idx h : Nat} {v : Value ⊕ Nat} (hk : kok o idx v h = true) : ∀ w ∈ kword (gON o) idx v, w ∈ lw_tbl := by
  unfold kok at hk
  rw [Bool.and_eq_true] at hk
  exact fun w hw => hint_mem (List.all_eq_true.mp hk.1 w hw)
theorem ac_int : Cond.arrayClass .int ∈ lw_tbl := hint_mem (i := 231) (by decide +kernel)
theorem ac_byte : Cond.arrayClass .byte ∈ lw_tbl := hint_mem (i := 780) (by decide +kernel)
theorem ac_bool : Cond.arrayClass .boolean ∈ lw_tbl := hint_mem (i := 1574) (by decide +kernel)
theorem ao_i : Cond.arrayOver (.array .int) ∈ lw_tbl := hint_mem (i := 1399) (by decide +kernel)
theorem ao_ii : Cond.arrayOver (.array (.array .int)) ∈ lw_tbl := hint_mem (i := 1401) (by decide +kernel)
theorem ao_iii : Cond.arrayOver (.array (.array (.array .int))) ∈ lw_tbl := hint_mem (i := 1403) (by decide +kernel)
section SIM
variable {p : Program} {l : Launch} {e : Env} {R : Room} {s0 s : State} {D : va_G} {args0 args : Array Value} {m : MethodId} {below : List Frame} {meth : Method} {c : Code} {H : Heap} {locs : List Loc} {cells slots : Nat} {Q : State → Prop} {d mi pc : Nat} {la : Array Slot} {L st : List Value} {μ : jM}
theorem so_ldc {idx : Nat} (C : Cx s0 args0 D p R s m meth c d mi) (hpg : gPG mi pc = some (.ldc idx)) (hL : LocOk la (gML mi) L) (hH : Hok s0 D μ H) (hq : ∀ q ∈ locs, s0.heap.size ≤ q.base) {pc' : Nat} {L' st' : List Value} {μ' : jM} (hs : jstep (gRS mi) (gKV mi) (gRC mi) (gIK mi) (.ldc idx) pc L st μ = some (.inl (pc', L', st', μ'))) (hc : cells + (jsz μ' - jsz μ) ≤ R.cells) (hsl : slots + (jsl μ' - jsl μ) ≤ R.slots)
    (kk : ∀ (la' : Array Slot) (H' : Heap) (locs' : List Loc), LocOk la' (gML mi) L' → Hok s0 D μ' H' → (∀ q ∈ locs', s0.heap.size ≤ q.base) → W p l e R s m args below meth c H' locs' (cells + (jsz μ' - jsz μ)) (slots + (jsl μ' - jsl μ)) Q (F0 m pc' la' st')) : W p l e R s m args below meth c H locs cells slots Q (F0 m pc la st) := by
  simp only [jstep, Option.bind_eq_some_iff] at hs
  obtain ⟨v, hr, hs⟩ := hs
  have hk := kok_look C.2.2.2.2.2.2.2.2.2.2.2.1 hr
  have hw := kok_word hk
  split at hs
  · rename_i v
    split at hs
    · rename_i hcat
      obtain ⟨rfl, rfl, rfl, rfl⟩ := jgo_inv hs
      simp only [Nat.sub_self, Nat.add_zero] at kk
      cases v with
      | int x => exact lv_ldc C.1 C.2.1 C.2.2.2.2.1 (C.word (hw _ (List.mem_singleton.mpr rfl)) rfl) (C.dec hpg rfl) (kk la H locs hL hH hq)
      | long x => cases hcat
      | _ => (exfalso; simp [kok] at hk)
    · cases hs
  · rename_i j
    split at hs
    · cases hs
    · rename_i hj
      obtain ⟨rfl, rfl, rfl, rfl⟩ := jgo_inv hs
      simp only [Nat.sub_self, Nat.add_zero] at kk
      unfold kok at hk
      simp only [hj, if_false, Bool.and_eq_true] at hk
      have hk2 := hk.2
      split at hk2
      · rename_i q hq2
        simp only [Bool.and_eq_true, decide_eq_true_eq] at hk2
        have hkk := hk2
        obtain ⟨a, ha, hv⟩ := hH.2.2.2.2.2 _ _ hq2
        have e8 : 8 + (j - 8) = j := by omega
        rw [e8] at ha
        rw [ha] at kk
        exact va_ldcS C.1 C.2.1 C.2.2.2.2.1 (vk_R.warm C.2.2.2.2.2.1 (by rw [← hkk.1, ← hkk.2]; exact hv)) (C.dec hpg rfl) (kk la H locs hL hH hq)
      · cases hk2
theorem so_ldc_w {idx : Nat} (C : Cx s0 args0 D p R s m meth c d mi) (hpg : gPG mi pc = some (.ldc_w idx)) (hL : LocOk la (gML mi) L) (hH : Hok s0 D μ H) (hq : ∀ q ∈ locs, s0.heap.size ≤ q.base) {pc' : Nat} {L' st' : List Value} {μ' : jM} (hs : jstep (gRS mi) (gKV mi) (gRC mi) (gIK mi) (.ldc_w idx) pc L st μ = some (.inl (pc', L', st', μ'))) (hc : cells + (jsz μ' - jsz μ) ≤ R.cells) (hsl : slots + (jsl μ' - jsl μ) ≤ R.slots)
    (kk : ∀ (la' : Array Slot) (H' : Heap) (locs' : List Loc), LocOk la' (gML mi) L' → Hok s0 D μ' H' → (∀ q ∈ locs', s0.heap.size ≤ q.base) → W p l e R s m args below meth c H' locs' (cells + (jsz μ' - jsz μ)) (slots + (jsl μ' - jsl μ)) Q (F0 m pc' la' st')) : W p l e R s m args below meth c H locs cells slots Q (F0 m pc la st) := by
  simp only [jstep, Option.bind_eq_some_iff] at hs
  obtain ⟨v, hr, hs⟩ := hs
  have hk := kok_look C.2.2.2.2.2.2.2.2.2.2.2.1 hr
  have hw := kok_word hk
  split at hs
  · rename_i v
    split at hs
    · rename_i hcat
      obtain ⟨rfl, rfl, rfl, rfl⟩ := jgo_inv hs
      simp only [Nat.sub_self, Nat.add_zero] at kk
      cases v with
      | int x => exact lv_ldcw C.1 C.2.1 C.2.2.2.2.1 (C.word (hw _ (List.mem_singleton.mpr rfl)) rfl) (C.dec hpg rfl) (kk la H locs hL hH hq)
      | long x => cases hcat
      | _ => (exfalso; simp [kok] at hk)
    · cases hs
  · rename_i j
    split at hs
    · cases hs
    · rename_i hj
      obtain ⟨rfl, rfl, rfl, rfl⟩ := jgo_inv hs
      simp only [Nat.sub_self, Nat.add_zero] at kk
      unfold kok at hk
      simp only [hj, if_false, Bool.and_eq_true] at hk
      have hk2 := hk.2
      split at hk2
      · rename_i q hq2
        simp only [Bool.and_eq_true, decide_eq_true_eq] at hk2
        have hkk := hk2
        obtain ⟨a, ha, hv⟩ := hH.2.2.2.2.2 _ _ hq2
        have e8 : 8 + (j - 8) = j := by omega
        rw [e8] at ha
        rw [ha] at kk
        intro T hT X
        obtain ⟨t, a1, b1⟩ := kk la H locs hL hH hq T hT X
        have hv2 := vk_R.warm C.2.2.2.2.2.1 hv
        exact ⟨t, Stand.ldcStringW X C.1 (by rw [hkk.1]; exact C.2.2.2.2.1) hv2.1 hv2.2 (g := F0 m pc la st) rfl (by rw [C.2.1, hkk.2]; exact C.dec hpg rfl) t a1, b1⟩
      · cases hk2
theorem so_ldc2_w {idx : Nat} (C : Cx s0 args0 D p R s m meth c d mi) (hpg : gPG mi pc = some (.ldc2_w idx)) (hL : LocOk la (gML mi) L) (hH : Hok s0 D μ H) (hq : ∀ q ∈ locs, s0.heap.size ≤ q.base) {pc' : Nat} {L' st' : List Value} {μ' : jM} (hs : jstep (gRS mi) (gKV mi) (gRC mi) (gIK mi) (.ldc2_w idx) pc L st μ = some (.inl (pc', L', st', μ'))) (hc : cells + (jsz μ' - jsz μ) ≤ R.cells) (hsl : slots + (jsl μ' - jsl μ) ≤ R.slots)
    (kk : ∀ (la' : Array Slot) (H' : Heap) (locs' : List Loc), LocOk la' (gML mi) L' → Hok s0 D μ' H' → (∀ q ∈ locs', s0.heap.size ≤ q.base) → W p l e R s m args below meth c H' locs' (cells + (jsz μ' - jsz μ)) (slots + (jsl μ' - jsl μ)) Q (F0 m pc' la' st')) : W p l e R s m args below meth c H locs cells slots Q (F0 m pc la st) := by
  simp only [jstep, Option.bind_eq_some_iff] at hs
  obtain ⟨v, hr, hs⟩ := hs
  have hk := kok_look C.2.2.2.2.2.2.2.2.2.2.2.1 hr
  have hw := kok_word hk
  split at hs
  · rename_i v
    split at hs
    · rename_i x
      obtain ⟨rfl, rfl, rfl, rfl⟩ := jgo_inv hs
      simp only [Nat.sub_self, Nat.add_zero] at kk
      exact lv_ldc2 C.1 C.2.1 C.2.2.2.2.1 (C.word (hw _ (List.mem_singleton.mpr rfl)) rfl) (C.dec hpg rfl) (kk la H locs hL hH hq)
    · cases hs
  · cases hs
theorem so_getstatic {idx : Nat} (C : Cx s0 args0 D p R s m meth c d mi) (hpg : gPG mi pc = some (.getstatic idx)) (hL : LocOk la (gML mi) L) (hH : Hok s0 D μ H) (hq : ∀ q ∈ locs, s0.heap.size ≤ q.base) {pc' : Nat} {L' st' : List Value} {μ' : jM} (hs : jstep (gRS mi) (gKV mi) (gRC mi) (gIK mi) (.getstatic idx) pc L st μ = some (.inl (pc', L', st', μ'))) (hc : cells + (jsz μ' - jsz μ) ≤ R.cells) (hsl : slots + (jsl μ' - jsl μ) ≤ R.slots)
    (kk : ∀ (la' : Array Slot) (H' : Heap) (locs' : List Loc), LocOk la' (gML mi) L' → Hok s0 D μ' H' → (∀ q ∈ locs', s0.heap.size ≤ q.base) → W p l e R s m args below meth c H' locs' (cells + (jsz μ' - jsz μ)) (slots + (jsl μ' - jsl μ)) Q (F0 m pc' la' st')) : W p l e R s m args below meth c H locs cells slots Q (F0 m pc la st) := by
  simp only [jstep, Option.bind_eq_some_iff] at hs
  obtain ⟨v, hr, hs⟩ := hs
  have hk := kok_look C.2.2.2.2.2.2.2.2.2.2.2.1 hr
  have hw := kok_word hk
  split at hs
  · cases hs
  · rename_i j
    split at hs
    · rename_i hj
      obtain ⟨rfl, rfl, rfl, rfl⟩ := jgo_inv hs
      simp only [Nat.sub_self, Nat.add_zero] at kk
      cases hq2 : gSF[j]? with
      | none => (exfalso; unfold kok at hk; simp [hj, hq2] at hk)
      | some q =>
        have hwd : Cond.fieldLink (gON (gOW mi)) idx q.1 q.2.1 q.2.2 ∈ lw_tbl := hw _ (by simp only [kword, if_pos hj, hq2]; exact List.mem_singleton.mpr rfl)
        obtain ⟨cf, kf, fi, f, a, cell, h1, h2, h3, h4, h5, h6, h7, -⟩ := va_Z.moved C.alike (hH.2.2.2.2.1 _ _ hq2)
        exact W.gets C.1 C.2.1 C.2.2.2.2.1 (C.word hwd rfl) h1 h2 h3 h4 h5 (fun g => by rw [g] at h6; cases h6) h7 rfl (C.dec hpg rfl) (kk la H locs hL hH hq)
    · cases hs
theorem so_checkcast {idx : Nat} (C : Cx s0 args0 D p R s m meth c d mi) (hpg : gPG mi pc = some (.checkcast idx)) (hL : LocOk la (gML mi) L) (hH : Hok s0 D μ H) (hq : ∀ q ∈ locs, s0.heap.size ≤ q.base) {pc' : Nat} {L' st' : List Value} {μ' : jM} (hs : jstep (gRS mi) (gKV mi) (gRC mi) (gIK mi) (.checkcast idx) pc L st μ = some (.inl (pc', L', st', μ'))) (hc : cells + (jsz μ' - jsz μ) ≤ R.cells) (hsl : slots + (jsl μ' - jsl μ) ≤ R.slots)
    (kk : ∀ (la' : Array Slot) (H' : Heap) (locs' : List Loc), LocOk la' (gML mi) L' → Hok s0 D μ' H' → (∀ q ∈ locs', s0.heap.size ≤ q.base) → W p l e R s m args below meth c H' locs' (cells + (jsz μ' - jsz μ)) (slots + (jsl μ' - jsl μ)) Q (F0 m pc' la' st')) : W p l e R s m args below meth c H locs cells slots Q (F0 m pc la st) := by
  simp only [jstep, Option.bind_eq_some_iff] at hs
  obtain ⟨q, hr, hs⟩ := hs
  split at hs
  · cases hs
  · rename_i hz
    split at hs
    · simp only [Option.bind_eq_some_iff] at hs
      obtain ⟨t, h1, h2⟩ := hs
      split at h2
      · rename_i hk
        obtain ⟨rfl, ht⟩ := jat_inv h1
        obtain ⟨rfl, rfl, rfl, rfl⟩ := jgo_inv h2
        simp only [Nat.sub_self, Nat.add_zero] at kk
        have hw := (mk_words hpg rfl hr (Or.inr (Or.inr (Or.inr rfl)))).1
        have hwd : Cond.classLink (gON (gOW mi)) idx (arrName q.2.2.1) ∈ lw_tbl := hw _ (by simp only [swords, hr]; exact List.mem_singleton.mpr rfl)
        obtain ⟨cA, g1, g2, g3, -⟩ := (hH.1 _ _ _ ht).1.arr (by omega) (by omega)
        have hP : va_P D vwCl [(t.1, .inl (cA, t.2.2, .inl (jiv μ' t.1)))] H := by
          intro k x hx
          have hz : k < 1 := (List.getElem?_eq_some_iff.mp hx).1
          rw [show k = 0 by omega] at hx
          cases hx
          show H[t.1]? = some (vp_cell cA (t.2.2, .inl (jiv μ' t.1)))
          rw [vp_cell_i, g1]
          congr 2
          funext j
          unfold aval
          rw [if_pos (by omega)]
        have hnm : s.vm.findClass (arrName q.2.2.1) = some cA := by
          have g4 := g3.moved C.alike
          rw [← hk.1]
          rcases hk.2 with e | e
          · rw [e] at g4 ⊢; exact g4
          · rw [e] at g4 ⊢; exact g4
        exact va_castA C.1 C.2.1 C.2.2.2.2.1 (C.word hwd rfl) hP 0 rfl hnm (C.dec hpg rfl) (kk la H locs hL hH hq)
      · cases h2
    · cases hs
theorem so_new {idx : Nat} (C : Cx s0 args0 D p R s m meth c d mi) (hpg : gPG mi pc = some (.new idx)) (hL : LocOk la (gML mi) L) (hH : Hok s0 D μ H) (hq : ∀ q ∈ locs, s0.heap.size ≤ q.base) {pc' : Nat} {L' st' : List Value} {μ' : jM} (hs : jstep (gRS mi) (gKV mi) (gRC mi) (gIK mi) (.new idx) pc L st μ = some (.inl (pc', L', st', μ'))) (hc : cells + (jsz μ' - jsz μ) ≤ R.cells) (hsl : slots + (jsl μ' - jsl μ) ≤ R.slots)
    (kk : ∀ (la' : Array Slot) (H' : Heap) (locs' : List Loc), LocOk la' (gML mi) L' → Hok s0 D μ' H' → (∀ q ∈ locs', s0.heap.size ≤ q.base) → W p l e R s m args below meth c H' locs' (cells + (jsz μ' - jsz μ)) (slots + (jsl μ' - jsl μ)) Q (F0 m pc' la' st')) : W p l e R s m args below meth c H locs cells slots Q (F0 m pc la st) := by
  simp only [jstep, Option.bind_eq_some_iff] at hs
  obtain ⟨q, hr, hs⟩ := hs
  split at hs
  · cases hs
  · rename_i hz
    obtain ⟨rfl, rfl, rfl, rfl⟩ := jgo_inv hs
    have hz2 : q.2.2.2.2 = 30 := Classical.not_not.mp hz
    obtain ⟨hw, hsh⟩ := mk_words hpg rfl hr (Or.inl rfl)
    unfold sshape at hsh
    simp only [hr, hz2, beq_self_eq_true, Bool.not_true, Bool.false_or, Bool.and_eq_true, decide_eq_true_eq] at hsh
    obtain ⟨h14, hN⟩ := hsh
    obtain ⟨Cn, N, hcl⟩ := vwCl_at q.1 h14
    rw [hcl] at hN
    have hN : N = q.2.1 := Option.some.inj hN
    have hcn : clName q.1 = Cn := by unfold clName; rw [hcl]; rfl
    unfold swords at hw
    simp only [hr, hcn] at hw
    have w1 := hw _ List.mem_cons_self
    have w2 := hw _ (List.mem_cons_of_mem _ List.mem_cons_self)
    have w3 := hw _ (List.mem_cons_of_mem _ (List.mem_cons_of_mem _ List.mem_cons_self))
    have hKn := C.K.1 q.1 _ hcl
    have e1 : jsz (jnew μ q.1 0 q.2.1) - jsz μ = 1 := by show jsz μ + 1 - jsz μ = 1; omega
    have e2 : jsl (jnew μ q.1 0 q.2.1) - jsl μ = q.2.1 := by show jsl μ + q.2.1 - jsl μ = q.2.1; omega
    rw [e1] at hc kk
    rw [e2] at hsl kk
    refine W.newcK C.1 C.2.1 C.2.2.2.2.1 (C.word w1 rfl) (C.word w2 rfl) (C.word w3 rfl) rfl (C.dec hpg rfl) hc hsl hKn.2.1 hH.2.1 (fun H1 kC hkC g1 g2 g3 => ?_)
    rw [hH.2.1.symm] at g1 g2 g3
    refine kk la H1 locs hL (hH.new (by omega) g3 g2 ?_) hq
    unfold hcell
    rw [if_pos (by omega)]
    refine ⟨_, hcl, ?_⟩
    rw [← hH.2.1]
    refine (u_born (args := args) (ty := gTy q.1) (C.cls h14 hcl) (fun w h => h) hKn hkC g1 (ty_ok q.1 h14 _ hcl)).to (fun j hj => ?_)
    have htc : ∀ k, k < 14 → ((List.range (((vwCl[k]?).map (fun r => r.2.2)).getD 0)).all (fun j => decide (defaultValue (gTy k j) = if (gTy k j).isReference = true then .null else .int 0))) = true := by decide +kernel
    have h5 := htc q.1 h14
    rw [hcl] at h5
    have h6 := of_decide_eq_true (List.all_eq_true.mp h5 j (List.mem_range.mpr hj))
    rw [h6]
    unfold fval
    have e3 : jiv (jnew μ q.1 0 q.2.1) H.size j = 0 := by rw [hH.2.1]; exact if_pos rfl
    have e4 : jrv (jnew μ q.1 0 q.2.1) H.size j = none := by rw [hH.2.1]; exact if_pos rfl
    rw [e3, e4]
    rfl
theorem hcell.newA {s0 : State} {D : va_G} {μ : jM} {H : Heap} {k n w : Nat} {cA : ClassId} {v : Value} (h1 : 20 ≤ k) (h2 : k < 40) (hv : v = if k < 30 then .int 0 else .null) (hc : H[jsz μ]? = some (arrV cA n (fun _ => v))) (hA : ArrOfT s0 cA (gET k)) (hR : va_RA s0 cA (gET k)) (hf : k < 30 → fits (gET k) (.int 0) = true) : hcell s0 D (jnew μ k n w) H (jsz μ) k n := by
  unfold hcell
  rw [if_neg (by omega), if_pos h2]
  have e3 : ∀ j, jiv (jnew μ k n w) (jsz μ) j = 0 := fun j => if_pos rfl
  have e4 : ∀ j, jrv (jnew μ k n w) (jsz μ) j = none := fun j => if_pos rfl
  refine ⟨cA, ?_, hA, hR, fun g j => by rw [e3]; exact hf g⟩
  rw [hc]
  congr 2
  funext j
  unfold aval
  rw [e3, e4, hv]
  rfl
/-- what is told of an array's class where a method stands, told of the start -/
theorem ArrOfT.back {u U : State} (hvm : u.vm.Alike U.vm) {cA : ClassId} {ty : FieldType} (h : ArrOfT U cA ty) : ArrOfT u cA ty := arrOfT_moved hvm.symm h
theorem jnA_inv {μ : jM} {k : Nat} {n : Int32} {q : Value × jM} (h : jnA μ k n = some q) : (¬ n < 0) ∧ n.toNatClampNeg ≤ 65536 ∧ q = (.ref (jsz μ), jnew μ k n.toNatClampNeg n.toNatClampNeg) := by
  unfold jnA at h
  split at h
  · rename_i hn
    refine ⟨Int32.not_lt.mpr hn.1, ?_, (Option.some.inj h).symm⟩
    have h1 := Int32.le_iff_toInt_le.mp hn.2
    have h2 : (65536 : Int32).toInt = 65536 := by decide
    rw [h2] at h1
    show n.toInt.toNat ≤ 65536
    omega
  · cases h
theorem so_newarray {t : ArrayType} (C : Cx s0 args0 D p R s m meth c d mi) (hpg : gPG mi pc = some (.newarray t)) (hL : LocOk la (gML mi) L) (hH : Hok s0 D μ H) (hq : ∀ q ∈ locs, s0.heap.size ≤ q.base) {pc' : Nat} {L' st' : List Value} {μ' : jM} (hs : jstep (gRS mi) (gKV mi) (gRC mi) (gIK mi) (.newarray t) pc L st μ = some (.inl (pc', L', st', μ'))) (hc : cells + (jsz μ' - jsz μ) ≤ R.cells) (hsl : slots + (jsl μ' - jsl μ) ≤ R.slots)
    (kk : ∀ (la' : Array Slot) (H' : Heap) (locs' : List Loc), LocOk la' (gML mi) L' → Hok s0 D μ' H' → (∀ q ∈ locs', s0.heap.size ≤ q.base) → W p l e R s m args below meth c H' locs' (cells + (jsz μ' - jsz μ)) (slots + (jsl μ' - jsl μ)) Q (F0 m pc' la' st')) : W p l e R s m args below meth c H locs cells slots Q (F0 m pc la st) := by
  simp only [jstep] at hs
  split at hs
  · rename_i n st1
    simp only [Option.bind_eq_some_iff] at hs
    obtain ⟨q, h1, h2⟩ := hs
    have key : ∀ (k : Nat) (ty : FieldType), newarray.typeOf t = ty → gET k = ty → 20 ≤ k → k < 30 → Cond.arrayClass ty ∈ lw_tbl → jnA μ k n = some q → defaultValue ty = .int 0 → componentBytes ty ≤ 8 → fits ty (.int 0) = true → W p l e R s m args below meth c H locs cells slots Q (F0 m pc la (.int n :: st1)) := by
      intro k ty e1 e2 k1 k2 hw hj hdv hcb hft
      obtain ⟨j1, j2, rfl⟩ := jnA_inv hj
      obtain ⟨rfl, rfl, rfl, rfl⟩ := jgo_inv h2
      have e3 : jsz (jnew μ k n.toNatClampNeg n.toNatClampNeg) - jsz μ = 1 := by show jsz μ + 1 - jsz μ = 1; omega
      have e4 : jsl (jnew μ k n.toNatClampNeg n.toNatClampNeg) - jsl μ = n.toNatClampNeg := by show jsl μ + n.toNatClampNeg - jsl μ = _; omega
      simp only [e3, e4] at hc hsl kk
      refine va_newaK C.1 C.2.1 (by rw [e1]; exact C.word hw rfl) rfl (C.dec hpg rfl) rfl j1 rfl (by rw [e1]; exact Nat.le_trans (Nat.mul_le_mul j2 hcb) (Nat.le_of_ble_eq_true rfl)) hc hsl hH.2.1 (fun H1 cA g1 g2 g3 g4 g5 => ?_)
      refine kk la H1 locs hL (hH.new (by omega) (by rw [hH.2.1]; exact g3) (by rw [hH.2.1]; exact g2) (hcell.newA (v := .int 0) k1 (by omega) (by rw [if_pos k2]) (by rw [g1, e1, hdv]) ?_ ?_ (fun _ => by rw [e2]; exact hft))) hq
      · rw [e2, ← e1]; exact g4.back C.alike
      · rw [e2, ← e1]
        have h5 : s0.vm.findClass ("[" ++ (newarray.typeOf t).toString) = some cA := by rw [C.alike.findClass] at g5; exact g5
        cases t <;> exact h5
    cases t with
    | int => exact key 20 .int rfl rfl (by omega) (by omega) ac_int h1 rfl (by decide) rfl
    | boolean => exact key 21 .boolean rfl rfl (by omega) (by omega) ac_bool h1 rfl (by decide) rfl
    | byte => exact key 22 .byte rfl rfl (by omega) (by omega) ac_byte h1 rfl (by decide) rfl
    | _ => cases h1
  · cases hs
end SIM
