/-! EACH INSTRUCTION'S STEP, of those that look at the memory or change it -/
theorem hin_mem {ws : List Cond} {is : List Nat} (h : ((ws.zip is).all (fun p => hint p.1 p.2) && ws.length == is.length) = true) : ∀ w ∈ ws, w ∈ lw_tbl := by
  simp only [Bool.and_eq_true, beq_iff_eq] at h
  intro w hw
  obtain ⟨i, hi⟩ := List.getElem?_of_mem hw
  have hl : i < ws.length := (List.getElem?_eq_some_iff.mp hi).1
  have hl2 : i < is.length := by omega
  have hz : (w, is[i]) ∈ ws.zip is := by
    refine List.mem_of_getElem? (i := i) ?_
    rw [List.getElem?_zip_eq_some]
    exact ⟨hi, by simp [hl2]⟩
  exact hint_mem (List.all_eq_true.mp h.1 _ hz)
theorem in_0 : ∀ w ∈ u_ws RJ0 TJ0 4, w ∈ lw_tbl := hin_mem (is := [1912, 1914, 1916, 1918]) (by decide +kernel)
theorem in_1 : ∀ w ∈ u_ws RJ4 TJ4 4, w ∈ lw_tbl := hin_mem (is := [962, 964, 966, 968]) (by decide +kernel)
theorem in_2 : ∀ w ∈ u_ws RX0 TX0 6, w ∈ lw_tbl := hin_mem (is := [361, 363, 365, 367, 369, 371]) (by decide +kernel)
theorem in_3 : ∀ w ∈ u_ws RX1 TX1 8, w ∈ lw_tbl := hin_mem (is := [263, 265, 267, 269, 271, 273, 275, 277]) (by decide +kernel)
theorem in_4 : ∀ w ∈ u_ws RX2 TX2 5, w ∈ lw_tbl := hin_mem (is := [390, 392, 394, 396, 398]) (by decide +kernel)
theorem in_5 : ∀ w ∈ u_ws RX3 TX3 4, w ∈ lw_tbl := hin_mem (is := [771, 773, 775, 777]) (by decide +kernel)
theorem in_6 : ∀ w ∈ u_ws RX4 TX4 6, w ∈ lw_tbl := hin_mem (is := [218, 220, 222, 224, 226, 228]) (by decide +kernel)
theorem in_7 : ∀ w ∈ u_ws RX5 TX5 11, w ∈ lw_tbl := hin_mem (is := [424, 426, 428, 430, 432, 434, 436, 438, 440, 442, 444]) (by decide +kernel)
theorem in_8 : ∀ w ∈ u_ws RX6 TX6 2, w ∈ lw_tbl := hin_mem (is := [243, 245]) (by decide +kernel)
theorem in_9 : ∀ w ∈ u_ws RX7 TX7 3, w ∈ lw_tbl := hin_mem (is := [464, 466, 468]) (by decide +kernel)
theorem in_10 : ∀ w ∈ u_ws RX8 TX8 7, w ∈ lw_tbl := hin_mem (is := [294, 296, 298, 300, 302, 304, 306]) (by decide +kernel)
theorem in_11 : ∀ w ∈ u_ws RX9 TX9 10, w ∈ lw_tbl := hin_mem (is := [327, 329, 331, 333, 335, 337, 339, 341, 343, 345]) (by decide +kernel)
theorem in_12 : ∀ w ∈ u_ws RX10 TX10 15, w ∈ lw_tbl := hin_mem (is := [486, 488, 490, 492, 494, 496, 498, 500, 502, 504, 506, 508, 510, 512, 514]) (by decide +kernel)
theorem in_13 : ∀ w ∈ u_ws RX11 TX11 56, w ∈ lw_tbl := hin_mem (is := [1461, 1463, 1465, 1467, 1469, 1471, 1473, 1475, 1477, 1479, 1481, 1483, 1485, 1487, 1489, 1491, 1493, 1495, 1497, 1499, 1501, 1503, 1505, 1507, 1509, 1511, 1513, 1515, 1517, 1519, 1521, 1523, 1525, 1527, 1529, 1531, 1533, 1535, 1537, 1539, 1541, 1543, 1545, 1547, 1549, 1551, 1553, 1555, 1557, 1559, 1561, 1563, 1565, 1567, 1569, 1571]) (by decide +kernel)
theorem jat_inv {μ : jM} {v : Value} {q : Nat × Nat × Nat} (h : jat μ v = some q) : v = .ref q.1 ∧ jty μ q.1 = some (q.2.1, q.2.2) := by
  unfold jat at h
  cases v with
  | ref a =>
    simp only [Option.map_eq_some_iff] at h
    obtain ⟨x, h1, rfl⟩ := h
    exact ⟨rfl, h1⟩
  | _ => cases h
theorem jinb_in {i : Int32} {n : Nat} (h : jinb i n = true) : ¬ (i < 0 ∨ n ≤ i.toNatClampNeg) := by
  unfold jinb at h
  simp only [Bool.not_eq_true', Bool.or_eq_false_iff, decide_eq_false_iff_not] at h
  rintro (g | g)
  · exact h.1 g
  · rw [Nat.ble_eq_true_of_le g] at h; cases h.2
/-- the table of the classes, its lengths and types -/
theorem vwCl_at (k : Nat) (hk : k < 14) : ∃ (C : String) (N : Nat), vwCl[k]? = some (C, fT k, N) := by
  match k, hk with
  | 0, _ => exact ⟨_, _, rfl⟩
  | 1, _ => exact ⟨_, _, rfl⟩
  | 2, _ => exact ⟨_, _, rfl⟩
  | 3, _ => exact ⟨_, _, rfl⟩
  | 4, _ => exact ⟨_, _, rfl⟩
  | 5, _ => exact ⟨_, _, rfl⟩
  | 6, _ => exact ⟨_, _, rfl⟩
  | 7, _ => exact ⟨_, _, rfl⟩
  | 8, _ => exact ⟨_, _, rfl⟩
  | 9, _ => exact ⟨_, _, rfl⟩
  | 10, _ => exact ⟨_, _, rfl⟩
  | 11, _ => exact ⟨_, _, rfl⟩
  | 12, _ => exact ⟨_, _, rfl⟩
  | 13, _ => exact ⟨_, _, rfl⟩
  | k + 14, h => omega
theorem ty_ok : ∀ k, k < 14 → ∀ r, vwCl[k]? = some r → ∀ j, j < r.2.2 → parseFieldDescriptor (r.2.1 j).2.2.1 = some (gTy k j) := by
  intro k hk r hr
  match k, hk with
  | 0, _ => cases hr; exact tyJ0_ok
  | 1, _ => cases hr; exact tyJ4_ok
  | 2, _ => cases hr; exact tyX0_ok
  | 3, _ => cases hr; exact tyX1_ok
  | 4, _ => cases hr; exact tyX2_ok
  | 5, _ => cases hr; exact tyX3_ok
  | 6, _ => cases hr; exact tyX4_ok
  | 7, _ => cases hr; exact tyX5_ok
  | 8, _ => cases hr; exact tyX6_ok
  | 9, _ => cases hr; exact tyX7_ok
  | 10, _ => cases hr; exact tyX8_ok
  | 11, _ => cases hr; exact tyX9_ok
  | 12, _ => cases hr; exact tyX10_ok
  | 13, _ => cases hr; exact tyX11_ok
  | k + 14, h => omega
theorem nm_ok : ∀ k, k < 14 → ∀ r, vwCl[k]? = some r → ∀ a, a < r.2.2 → ∀ b, b < r.2.2 → a ≠ b → (r.2.1 a).2.1 ≠ (r.2.1 b).2.1 := by
  intro k hk r hr
  match k, hk with
  | 0, _ => cases hr; exact nmJ0
  | 1, _ => cases hr; exact nmJ4
  | 2, _ => cases hr; exact nmX0
  | 3, _ => cases hr; exact nmX1
  | 4, _ => cases hr; exact nmX2
  | 5, _ => cases hr; exact nmX3
  | 6, _ => cases hr; exact nmX4
  | 7, _ => cases hr; exact nmX5
  | 8, _ => cases hr; exact nmX6
  | 9, _ => cases hr; exact nmX7
  | 10, _ => cases hr; exact nmX8
  | 11, _ => cases hr; exact nmX9
  | 12, _ => cases hr; exact nmX10
  | 13, _ => cases hr; exact nmX11
  | k + 14, h => omega
theorem in_ok : ∀ k, k < 14 → ∀ r, vwCl[k]? = some r → ∀ w ∈ u_ws r.1 r.2.1 r.2.2, w ∈ lw_tbl := by
  intro k hk r hr
  match k, hk with
  | 0, _ => cases hr; exact in_0
  | 1, _ => cases hr; exact in_1
  | 2, _ => cases hr; exact in_2
  | 3, _ => cases hr; exact in_3
  | 4, _ => cases hr; exact in_4
  | 5, _ => cases hr; exact in_5
  | 6, _ => cases hr; exact in_6
  | 7, _ => cases hr; exact in_7
  | 8, _ => cases hr; exact in_8
  | 9, _ => cases hr; exact in_9
  | 10, _ => cases hr; exact in_10
  | 11, _ => cases hr; exact in_11
  | 12, _ => cases hr; exact in_12
  | 13, _ => cases hr; exact in_13
  | k + 14, h => omega
theorem u_ws_good : ∀ k, k < 14 → ∀ r, vwCl[k]? = some r → ∀ w ∈ u_ws r.1 r.2.1 r.2.2, goodWord w = true := by
  intro k hk r hr w hw
  obtain ⟨j, -, rfl⟩ := List.mem_map.mp hw
  unfold u_lay
  split <;> rfl
theorem hcell.obj {s0 : State} {D : va_G} {μ : jM} {H : Heap} {a k n : Nat} (h : hcell s0 D μ H a k n) (hk : k < 20) : ∃ r : vw_C, vwCl[k]? = some r ∧ t_OB a (D.1 k) r.2.2 (D.2 k) H (fval μ k a) := by
  unfold hcell at h
  rw [if_pos hk] at h
  exact h
theorem hcell.arr {s0 : State} {D : va_G} {μ : jM} {H : Heap} {a k n : Nat} (h : hcell s0 D μ H a k n) (h1 : 20 ≤ k) (h2 : k < 40) : ∃ cA : ClassId, H[a]? = some (arrV cA n (aval μ k a)) ∧ ArrOfT s0 cA (gET k) ∧ va_RA s0 cA (gET k) ∧ (k < 30 → ∀ j, fits (gET k) (.int (jiv μ a j)) = true) := by
  unfold hcell at h
  rw [if_neg (by omega), if_pos h2] at h
  exact h
theorem hcell.str {s0 : State} {D : va_G} {μ : jM} {H : Heap} {a n : Nat} (h : hcell s0 D μ H a 40 n) : va_O "java/lang/String" a (oldA s0) s0 H ∧ va_OF "java/lang/String" "value" "[B" (va_rf (jrv μ a 0)) a (oldA s0) s0 H ∧ va_OF "java/lang/String" "coder" "B" (.int (jiv μ a 1)) a (oldA s0) s0 H := h
theorem hcell.old {s0 : State} {D : va_G} {μ : jM} {H : Heap} {a k n : Nat} (h : hcell s0 D μ H a k n) (h1 : 40 < k) : va_T (gET k) a n (fun j => .int (jiv μ a j)) (oldA s0) s0 H ∧ ∀ j, fits (gET k) (.int (jiv μ a j)) = true := by
  unfold hcell at h
  rw [if_neg (by omega), if_neg (by omega), if_neg (by omega)] at h
  exact h
section SIM
variable {p : Program} {l : Launch} {e : Env} {R : Room} {s0 s : State} {D : va_G} {args0 args : Array Value} {m : MethodId} {below : List Frame} {meth : Method} {c : Code} {H : Heap} {locs : List Loc} {cells slots : Nat} {Q : State → Prop} {d mi pc : Nat} {la : Array Slot} {L st : List Value} {μ : jM}
/-- an array's reading: of an array of the system's, or of an old one -/
theorem Cx.rd (C : Cx s0 args0 D p R s m meth c d mi) (hH : Hok s0 D μ H) {a k n : Nat} (ht : jty μ a = some (k, n)) (hk : 20 ≤ k) (hk2 : k ≠ 40) {i : Int32} (hi : jinb i n = true) : ∃ cell : Cell, H[a]? = some cell ∧ s.isArrayOf cell (gET k) ∧ cell.vm ≠ .unknown ∧ ¬ (i < 0 ∨ cell.slots.size ≤ i.toNatClampNeg) ∧ cell.slots[i.toNatClampNeg]? = some (if k < 30 ∨ 40 < k then .int (jiv μ a i.toNatClampNeg) else va_rf (jrv μ a i.toNatClampNeg)) := by
  have hin := jinb_in hi
  have hc := (hH.1 a k n ht).1
  by_cases h4 : k < 40
  · obtain ⟨cA, h1, h2, h3, -⟩ := hc.arr hk h4
    have hlt : i.toNatClampNeg < n := Nat.lt_of_not_le (fun g => hin (Or.inr g))
    refine ⟨_, h1, arrOfT_moved C.alike h2 n _, (fun q => by cases q), by rw [arrV_size]; exact hin, ?_⟩
    rw [arrV_read _ _ hlt]
    unfold aval
    by_cases h5 : k < 30
    · rw [if_pos h5, if_pos (Or.inl h5)]
    · rw [if_neg h5, if_neg (by omega)]
  · obtain ⟨⟨cell, h1, h2, h3, h5, -, h6, -⟩, -⟩ := hc.old (by omega)
    have hlt : i.toNatClampNeg < n := Nat.lt_of_not_le (fun g => hin (Or.inr g))
    refine ⟨cell, h1, State.isArrayOf_alike C.alike h2, h3, ?_, ?_⟩
    · rintro (g | g)
      · exact hin (Or.inl g)
      · omega
    · rw [h6 _ hlt, if_pos (Or.inr (by omega))]

theorem so_iaload (C : Cx s0 args0 D p R s m meth c d mi) (hpg : gPG mi pc = some (.iaload)) (hL : LocOk la (gML mi) L) (hH : Hok s0 D μ H) (hq : ∀ q ∈ locs, s0.heap.size ≤ q.base) {pc' : Nat} {L' st' : List Value} {μ' : jM} (hs : jstep (gRS mi) (gKV mi) (gRC mi) (gIK mi) (.iaload) pc L st μ = some (.inl (pc', L', st', μ'))) (hc : cells + (jsz μ' - jsz μ) ≤ R.cells) (hsl : slots + (jsl μ' - jsl μ) ≤ R.slots)
    (kk : ∀ (la' : Array Slot) (H' : Heap) (locs' : List Loc), LocOk la' (gML mi) L' → Hok s0 D μ' H' → (∀ q ∈ locs', s0.heap.size ≤ q.base) → W p l e R s m args below meth c H' locs' (cells + (jsz μ' - jsz μ)) (slots + (jsl μ' - jsl μ)) Q (F0 m pc' la' st')) : W p l e R s m args below meth c H locs cells slots Q (F0 m pc la st) := by
  simp only [jstep] at hs
  split at hs
  · simp only [jaI, Option.bind_eq_some_iff] at hs
    obtain ⟨x, ⟨q, h1, h3⟩, h2⟩ := hs
    split at h3
    · rename_i hk
      obtain ⟨rfl, ht⟩ := jat_inv h1
      cases h3
      obtain ⟨rfl, rfl, rfl, rfl⟩ := jgo_inv h2
      simp only [Nat.sub_self, Nat.add_zero] at kk
      obtain ⟨cell, g1, g2, g3, g4, g5⟩ := C.rd hH ht (by omega) (by omega) hk.2
      refine W.iald C.1 C.2.1 g1 (by have e : gET q.2.1 = .int := by unfold gET; rw [if_pos hk.1]
                                     rw [← e]; exact g2) g3 g4 g5 rfl rfl (C.dec hpg rfl) ?_
      rw [if_pos (by omega)]
      exact kk la H locs hL hH hq
    · cases h3
  · cases hs
theorem so_baload (C : Cx s0 args0 D p R s m meth c d mi) (hpg : gPG mi pc = some (.baload)) (hL : LocOk la (gML mi) L) (hH : Hok s0 D μ H) (hq : ∀ q ∈ locs, s0.heap.size ≤ q.base) {pc' : Nat} {L' st' : List Value} {μ' : jM} (hs : jstep (gRS mi) (gKV mi) (gRC mi) (gIK mi) (.baload) pc L st μ = some (.inl (pc', L', st', μ'))) (hc : cells + (jsz μ' - jsz μ) ≤ R.cells) (hsl : slots + (jsl μ' - jsl μ) ≤ R.slots)
    (kk : ∀ (la' : Array Slot) (H' : Heap) (locs' : List Loc), LocOk la' (gML mi) L' → Hok s0 D μ' H' → (∀ q ∈ locs', s0.heap.size ≤ q.base) → W p l e R s m args below meth c H' locs' (cells + (jsz μ' - jsz μ)) (slots + (jsl μ' - jsl μ)) Q (F0 m pc' la' st')) : W p l e R s m args below meth c H locs cells slots Q (F0 m pc la st) := by
  simp only [jstep] at hs
  split at hs
  · simp only [jaB, Option.bind_eq_some_iff] at hs
    obtain ⟨x, ⟨q, h1, h3⟩, h2⟩ := hs
    split at h3
    · rename_i hk
      obtain ⟨rfl, ht⟩ := jat_inv h1
      cases h3
      obtain ⟨rfl, rfl, rfl, rfl⟩ := jgo_inv h2
      simp only [Nat.sub_self, Nat.add_zero] at kk
      obtain ⟨cell, g1, g2, g3, g4, g5⟩ := C.rd hH ht (by omega) (by omega) hk.2
      rw [if_pos (by omega)] at g5
      by_cases hz : q.2.1 = 21
      · exact W.zald C.1 C.2.1 g1 (by have e : gET q.2.1 = .boolean := by rw [hz]; rfl
                                      rw [← e]; exact g2) g3 g4 g5 rfl rfl (C.dec hpg rfl) (kk la H locs hL hH hq)
      · exact W.bald C.1 C.2.1 g1 (by have e : gET q.2.1 = .byte := by unfold gET; rw [if_neg (by omega), if_neg hz, if_pos (by omega)]
                                      rw [← e]; exact g2) g3 g4 g5 rfl rfl (C.dec hpg rfl) (kk la H locs hL hH hq)
    · cases h3
  · cases hs
theorem so_aaload (C : Cx s0 args0 D p R s m meth c d mi) (hpg : gPG mi pc = some (.aaload)) (hL : LocOk la (gML mi) L) (hH : Hok s0 D μ H) (hq : ∀ q ∈ locs, s0.heap.size ≤ q.base) {pc' : Nat} {L' st' : List Value} {μ' : jM} (hs : jstep (gRS mi) (gKV mi) (gRC mi) (gIK mi) (.aaload) pc L st μ = some (.inl (pc', L', st', μ'))) (hc : cells + (jsz μ' - jsz μ) ≤ R.cells) (hsl : slots + (jsl μ' - jsl μ) ≤ R.slots)
    (kk : ∀ (la' : Array Slot) (H' : Heap) (locs' : List Loc), LocOk la' (gML mi) L' → Hok s0 D μ' H' → (∀ q ∈ locs', s0.heap.size ≤ q.base) → W p l e R s m args below meth c H' locs' (cells + (jsz μ' - jsz μ)) (slots + (jsl μ' - jsl μ)) Q (F0 m pc' la' st')) : W p l e R s m args below meth c H locs cells slots Q (F0 m pc la st) := by
  simp only [jstep] at hs
  split at hs
  · simp only [jaR, Option.bind_eq_some_iff] at hs
    obtain ⟨x, ⟨q, h1, h3⟩, h2⟩ := hs
    split at h3
    · rename_i hk
      obtain ⟨rfl, ht⟩ := jat_inv h1
      cases h3
      obtain ⟨rfl, rfl, rfl, rfl⟩ := jgo_inv h2
      simp only [Nat.sub_self, Nat.add_zero] at kk
      obtain ⟨cell, g1, g2, g3, g4, g5⟩ := C.rd hH ht (by omega) (by omega) hk.2
      rw [if_neg (by omega)] at g5
      have e : (gET q.2.1).isReference = true := by
        have h6 := hk.1
        generalize q.2.1 = k at h6
        obtain rfl | rfl | rfl | rfl | rfl | rfl : k = 30 ∨ k = 31 ∨ k = 32 ∨ k = 33 ∨ k = 34 ∨ k = 35 := by omega
        all_goals rfl
      exact W.aald C.1 C.2.1 g1 g2 e g3 g4 g5 rfl rfl (C.dec hpg rfl) (kk la H locs hL hH hq)
    · cases h3
  · cases hs
theorem so_arraylength (C : Cx s0 args0 D p R s m meth c d mi) (hpg : gPG mi pc = some (.arraylength)) (hL : LocOk la (gML mi) L) (hH : Hok s0 D μ H) (hq : ∀ q ∈ locs, s0.heap.size ≤ q.base) {pc' : Nat} {L' st' : List Value} {μ' : jM} (hs : jstep (gRS mi) (gKV mi) (gRC mi) (gIK mi) (.arraylength) pc L st μ = some (.inl (pc', L', st', μ'))) (hc : cells + (jsz μ' - jsz μ) ≤ R.cells) (hsl : slots + (jsl μ' - jsl μ) ≤ R.slots)
    (kk : ∀ (la' : Array Slot) (H' : Heap) (locs' : List Loc), LocOk la' (gML mi) L' → Hok s0 D μ' H' → (∀ q ∈ locs', s0.heap.size ≤ q.base) → W p l e R s m args below meth c H' locs' (cells + (jsz μ' - jsz μ)) (slots + (jsl μ' - jsl μ)) Q (F0 m pc' la' st')) : W p l e R s m args below meth c H locs cells slots Q (F0 m pc la st) := by
  simp only [jstep] at hs
  split at hs
  · simp only [jal, Option.bind_eq_some_iff] at hs
    obtain ⟨x, ⟨q, h1, h3⟩, h2⟩ := hs
    split at h3
    · rename_i hk
      obtain ⟨rfl, ht⟩ := jat_inv h1
      cases h3
      obtain ⟨rfl, rfl, rfl, rfl⟩ := jgo_inv h2
      simp only [Nat.sub_self, Nat.add_zero] at kk
      have hc := (hH.1 _ _ _ ht).1
      by_cases h4 : q.2.1 < 40
      · obtain ⟨cA, h1, h2, h3, -⟩ := hc.arr hk.1 h4
        exact W.alen C.1 C.2.1 h1 (arrOfT_moved C.alike h2 _ _) (by rw [arrV_size]) rfl rfl (C.dec hpg rfl) (kk la H locs hL hH hq)
      · obtain ⟨⟨cell, h1, h2, h3, h5, h6, -⟩, -⟩ := hc.old (by omega)
        exact W.alen C.1 C.2.1 h1 (State.isArrayOf_alike C.alike h2) h6 rfl rfl (C.dec hpg rfl) (kk la H locs hL hH hq)
    · cases h3
  · cases hs
theorem Hok.setI {s0 : State} {D : va_G} {μ : jM} {H H1 : Heap} {a k n i : Nat} {x : Int32} {cA : ClassId} (hH : Hok s0 D μ H) (ht : jty μ a = some (k, n)) (h1 : 20 ≤ k) (h2 : k < 30) (hi : i < n) (hf : fits (gET k) (.int x) = true) (hc : H[a]? = some (arrV cA n (aval μ k a))) (hA : ArrOfT s0 cA (gET k)) (hR : va_RA s0 cA (gET k))
    (he : H1[a]? = some ((arrV cA n (aval μ k a)).setSlot i (.int x))) (hz : H1.size = H.size) (oq : ∀ q : Nat, q ≠ a → H1[q]? = H[q]?) : Hok s0 D (jsetI μ a i x) H1 := by
  refine hH.upd ht (by omega) rfl rfl rfl (fun b hb => ?_) (fun b hb => rfl) oq hz ?_
  · funext j; exact if_neg (fun g => hb g.1)
  · have hold := (hH.1 a k n ht).1.arr h1 (by omega)
    obtain ⟨_, _, _, _, hfit⟩ := hold
    unfold hcell
    rw [if_neg (by omega), if_pos (by omega)]
    refine ⟨cA, ?_, hA, hR, fun _ j => ?_⟩
    · rw [he, arrV_store]
      congr 2
      funext j
      unfold updV aval
      rw [if_pos h2, if_pos h2]
      by_cases e : j = i
      · subst e
        rw [if_pos rfl]
        exact congrArg Value.int (if_pos ⟨rfl, rfl⟩).symm
      · rw [if_neg e]
        exact congrArg Value.int (if_neg (fun g => e g.2)).symm
    · by_cases e : j = i
      · have e2 : jiv (jsetI μ a i x) a j = x := if_pos ⟨rfl, e⟩
        rw [e2]; exact hf
      · have e2 : jiv (jsetI μ a i x) a j = jiv μ a j := if_neg (fun g => e g.2)
        rw [e2]; exact hfit h2 j
theorem loc_app {b : Nat} {locs : List Loc} {x : Loc} (h : ∀ q ∈ locs, b ≤ q.base) (hx : b ≤ x.base) : ∀ q ∈ locs ++ [x], b ≤ q.base := by
  intro q hq
  rcases List.mem_append.mp hq with g | g
  · exact h q g
  · rw [List.mem_singleton] at g; rw [g]; exact hx
theorem so_iastore (C : Cx s0 args0 D p R s m meth c d mi) (hpg : gPG mi pc = some (.iastore)) (hL : LocOk la (gML mi) L) (hH : Hok s0 D μ H) (hq : ∀ q ∈ locs, s0.heap.size ≤ q.base) {pc' : Nat} {L' st' : List Value} {μ' : jM} (hs : jstep (gRS mi) (gKV mi) (gRC mi) (gIK mi) (.iastore) pc L st μ = some (.inl (pc', L', st', μ'))) (hc : cells + (jsz μ' - jsz μ) ≤ R.cells) (hsl : slots + (jsl μ' - jsl μ) ≤ R.slots)
    (kk : ∀ (la' : Array Slot) (H' : Heap) (locs' : List Loc), LocOk la' (gML mi) L' → Hok s0 D μ' H' → (∀ q ∈ locs', s0.heap.size ≤ q.base) → W p l e R s m args below meth c H' locs' (cells + (jsz μ' - jsz μ)) (slots + (jsl μ' - jsl μ)) Q (F0 m pc' la' st')) : W p l e R s m args below meth c H locs cells slots Q (F0 m pc la st) := by
  simp only [jstep] at hs
  split at hs
  · simp only [jsI, Option.bind_eq_some_iff] at hs
    obtain ⟨x, ⟨q, h1, h3⟩, h2⟩ := hs
    split at h3
    · rename_i hk
      obtain ⟨rfl, ht⟩ := jat_inv h1
      cases h3
      obtain ⟨rfl, rfl, rfl, rfl⟩ := jgo_inv h2
      have e0 : ∀ (a i : Nat) (x : Int32), jsz (jsetI μ a i x) = jsz μ ∧ jsl (jsetI μ a i x) = jsl μ := fun _ _ _ => ⟨rfl, rfl⟩
      simp only [(e0 _ _ _).1, (e0 _ _ _).2, Nat.sub_self, Nat.add_zero] at kk
      have hin := jinb_in hk.2
      obtain ⟨cA, g1, g2, g3, -⟩ := (hH.1 _ _ _ ht).1.arr (by omega) (by omega)
      have hlt := Nat.lt_of_not_le (fun g => hin (Or.inr g))
      have eT : gET q.2.1 = .int := by unfold gET; rw [if_pos (Or.inl hk.1)]
      refine W.iast C.1 C.2.1 g1 (by rw [← eT]; exact arrOfT_moved C.alike g2 _ _) (fun q => by cases q) (by rw [arrV_size]; exact hin) rfl rfl (C.dec hpg rfl) (fun H1 he hz oq => ?_)
      exact kk la H1 _ hL (hH.setI ht (by omega) (by omega) hlt (by rw [eT]; rfl) g1 g2 g3 he hz oq) (loc_app hq ((hH.1 _ _ _ ht).2.1 (by omega)))
    · cases h3
  · cases hs
theorem so_bastore (C : Cx s0 args0 D p R s m meth c d mi) (hpg : gPG mi pc = some (.bastore)) (hL : LocOk la (gML mi) L) (hH : Hok s0 D μ H) (hq : ∀ q ∈ locs, s0.heap.size ≤ q.base) {pc' : Nat} {L' st' : List Value} {μ' : jM} (hs : jstep (gRS mi) (gKV mi) (gRC mi) (gIK mi) (.bastore) pc L st μ = some (.inl (pc', L', st', μ'))) (hc : cells + (jsz μ' - jsz μ) ≤ R.cells) (hsl : slots + (jsl μ' - jsl μ) ≤ R.slots)
    (kk : ∀ (la' : Array Slot) (H' : Heap) (locs' : List Loc), LocOk la' (gML mi) L' → Hok s0 D μ' H' → (∀ q ∈ locs', s0.heap.size ≤ q.base) → W p l e R s m args below meth c H' locs' (cells + (jsz μ' - jsz μ)) (slots + (jsl μ' - jsl μ)) Q (F0 m pc' la' st')) : W p l e R s m args below meth c H locs cells slots Q (F0 m pc la st) := by
  simp only [jstep] at hs
  split at hs
  · rename_i x i v st1
    simp only [jsB, Option.bind_eq_some_iff] at hs
    obtain ⟨μ1, ⟨q, h1, h3⟩, h2⟩ := hs
    have e0 : ∀ (a i : Nat) (x : Int32), jsz (jsetI μ a i x) = jsz μ ∧ jsl (jsetI μ a i x) = jsl μ := fun _ _ _ => ⟨rfl, rfl⟩
    split at h3
    · rename_i hk
      obtain ⟨rfl, ht⟩ := jat_inv h1
      cases h3
      obtain ⟨rfl, rfl, rfl, rfl⟩ := jgo_inv h2
      simp only [(e0 _ _ _).1, (e0 _ _ _).2, Nat.sub_self, Nat.add_zero] at kk
      have hin := jinb_in hk.2
      obtain ⟨cA, g1, g2, g3, -⟩ := (hH.1 _ _ _ ht).1.arr (by omega) (by omega)
      have hlt := Nat.lt_of_not_le (fun g => hin (Or.inr g))
      have eT : gET q.2.1 = .byte := by rw [hk.1]; rfl
      refine W.bast C.1 C.2.1 g1 (by rw [← eT]; exact arrOfT_moved C.alike g2 _ _) (fun q => by cases q) (by rw [arrV_size]; exact hin) rfl rfl (C.dec hpg rfl) (fun H1 he hz oq => ?_)
      exact kk la H1 _ hL (hH.setI ht (by omega) (by omega) hlt (by rw [eT]; exact pk_fb _) g1 g2 g3 he hz oq) (loc_app hq ((hH.1 _ _ _ ht).2.1 (by omega)))
    · split at h3
      · rename_i hk
        obtain ⟨rfl, ht⟩ := jat_inv h1
        cases h3
        obtain ⟨rfl, rfl, rfl, rfl⟩ := jgo_inv h2
        simp only [(e0 _ _ _).1, (e0 _ _ _).2, Nat.sub_self, Nat.add_zero] at kk
        have hin := jinb_in hk.2.1
        obtain ⟨cA, g1, g2, g3, -⟩ := (hH.1 _ _ _ ht).1.arr (by omega) (by omega)
        have hlt := Nat.lt_of_not_le (fun g => hin (Or.inr g))
        have eT : gET q.2.1 = .boolean := by rw [hk.1]; rfl
        have ex : x &&& 1 = x := by rcases hk.2.2 with rfl | rfl <;> decide
        have ef : fits .boolean (.int x) = true := by rcases hk.2.2 with rfl | rfl <;> decide
        refine W.zast C.1 C.2.1 g1 (by rw [← eT]; exact arrOfT_moved C.alike g2 _ _) (fun q => by cases q) (by rw [arrV_size]; exact hin) rfl rfl (C.dec hpg rfl) (fun H1 he hz oq => ?_)
        have he' : H1[q.1]? = some ((arrV cA q.2.2 (aval μ q.2.1 q.1)).setSlot i.toNatClampNeg (.int x)) := by
          rw [he]
          first
            | rfl
            | (congr 2; show narrow .boolean (.int x) = _; simp [narrow, ex])
            | simp [narrow, ex]
        exact kk la H1 _ hL (hH.setI ht (by omega) (by omega) hlt (by rw [eT]; exact ef) g1 g2 g3 he' hz oq) (loc_app hq ((hH.1 _ _ _ ht).2.1 (by omega)))
      · cases h3
  · cases hs
end SIM
