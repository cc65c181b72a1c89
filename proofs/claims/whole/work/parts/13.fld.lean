/-! EACH INSTRUCTION'S STEP: fields, constants, objects made, references stored -/
def tcOf (t : FieldType) : Nat := match t with
  | .int => 0
  | .boolean => 2
  | .byte => 3
  | .object _ => 1
  | .array _ => 1
  | _ => 9
/-- an entry for a field: its class, its place, its type, whether it's final -/
def fok (q : Nat × Nat × Nat × Nat × Nat) : Bool := decide (1 < q.2.2.2.2) || (decide (q.1 < 14) && decide (q.2.1 < ((vwCl[q.1]?).map (fun r => r.2.2)).getD 0) && q.2.2.1 == tcOf (gTy q.1 q.2.1) && q.2.2.2.1 == (if (fT q.1 q.2.1).2.2.2 then 1 else 0) && decide (parseFieldDescriptor (fT q.1 q.2.1).2.2.1 = some (gTy q.1 q.2.1)))
theorem gr_fok : ∀ o, o < 22 → (gRL.getD o []).all (fun e => fok e.2) = true := by decide +kernel
theorem gr_look {o idx : Nat} {q : Nat × Nat × Nat × Nat × Nat} (ho : o < 22) (h : List.lookup idx (gRL.getD o []) = some q) : fok q = true := List.all_eq_true.mp (gr_fok o ho) _ (lookup_mem h)
theorem fval_upI {μ : jM} {k a j : Nat} {x : Int32} (hr : (gTy k j).isReference = false) : fval (jsetI μ a j x) k a = updV (fval μ k a) j (.int x) := by
  funext i
  unfold fval updV
  by_cases e : i = j
  · subst e
    rw [if_neg (by rw [hr]; decide), if_pos rfl]
    exact congrArg Value.int (if_pos ⟨rfl, rfl⟩)
  · rw [if_neg e]
    have e2 : jiv (jsetI μ a j x) a i = jiv μ a i := if_neg (fun g => e g.2)
    rw [e2]
    rfl
theorem va_rf_jun {w : Value} (h : jisref w = true) : va_rf (jun w) = w := by
  rcases ref_cases h with rfl | ⟨a, rfl⟩ <;> rfl
theorem fval_upR {μ : jM} {k a j : Nat} {w : Value} (hw : jisref w = true) (hr : (gTy k j).isReference = true) : fval (jsetR μ a j (jun w)) k a = updV (fval μ k a) j w := by
  funext i
  unfold fval updV
  by_cases e : i = j
  · subst e
    rw [if_pos hr, if_pos rfl]
    have e2 : jrv (jsetR μ a i (jun w)) a i = jun w := if_pos ⟨rfl, rfl⟩
    rw [e2]
    exact va_rf_jun hw
  · rw [if_neg e]
    have e2 : jrv (jsetR μ a j (jun w)) a i = jrv μ a i := if_neg (fun g => e g.2)
    rw [e2]
    rfl
section SIM
variable {p : Program} {l : Launch} {e : Env} {R : Room} {s0 s : State} {D : va_G} {args0 args : Array Value} {m : MethodId} {below : List Frame} {meth : Method} {c : Code} {H : Heap} {locs : List Loc} {cells slots : Nat} {Q : State → Prop} {d mi pc : Nat} {la : Array Slot} {L st : List Value} {μ : jM}
/-- the words of a class, where a method stands -/
theorem Cx.cls (C : Cx s0 args0 D p R s m meth c d mi) {k : Nat} (hk : k < 14) {r : vw_C} (hr : vwCl[k]? = some r) : ∀ w ∈ u_ws r.1 r.2.1 r.2.2, w.before args s = true := fun w hw => C.word (in_ok k hk r hr w hw) (u_ws_good k hk r hr w hw)
/-- a field's place: an object's own, or a constant text's -/
theorem Cx.fld (args1 : Array Value) (C : Cx s0 args0 D p R s m meth c d mi) (hH : Hok s0 D μ H) {idx : Nat} {q : Nat × Nat × Nat × Nat × Nat} (hq : gRS mi idx = some q) (hz : ¬ 1 < q.2.2.2.2) {a k n : Nat} (ht : jty μ a = some (k, n)) (hk : k = q.1 ∨ (k = 40 ∧ q.1 = 0 ∧ q.2.1 < 2)) :
    ∃ (cf i : Nat) (kf : Class) (f : Field) (cell : Cell), s.fieldFound? (fT q.1 q.2.1).1 (fT q.1 q.2.1).2.1 (fT q.1 q.2.1).2.2.1 = some (cf, kf, i, f) ∧ f.isStatic = false ∧ H[a]? = some cell ∧ cell.vm ≠ .unknown ∧ cell.slots[f.slot]? = some (if k = 40 then (if q.2.1 = 0 then va_rf (jrv μ a 0) else .int (jiv μ a 1)) else fval μ k a q.2.1) := by
  have hf := gr_look C.2.2.2.2.2.2.2.2.2.2.2.1 hq
  unfold fok at hf
  rw [decide_eq_false hz, Bool.false_or] at hf
  simp only [Bool.and_eq_true, decide_eq_true_eq, beq_iff_eq] at hf
  obtain ⟨⟨⟨⟨h14, hsl⟩, htc⟩, hfin⟩, hpd⟩ := hf
  have hc := (hH.1 a k n ht).1
  rcases hk with rfl | ⟨rfl, h0, h2⟩
  · obtain ⟨r, hr, cell, q1, q2, q3, q4⟩ := hc.obj (by omega)
    obtain ⟨Cn, N, hr2⟩ := vwCl_at q.1 h14
    cases hr.symm.trans hr2
    rw [hr] at hsl
    obtain ⟨hS, hfc, kC, hkC, hkind⟩ := C.K.1 q.1 _ hr
    obtain ⟨cf, kf, fi, f, hi, hs2⟩ := hS q.2.1 hsl
    refine ⟨cf, fi, kf, f, cell, hi, (u_facts (args := args1) hfc hkC (u_lays (C.cls (args := args1) h14 hr) (fun w h => h) hsl) hi).1, q1, (by rw [q3]; exact fun h => (by cases h)), ?_⟩
    rw [hs2, q4 _ hsl, if_neg (by omega)]
  · obtain ⟨g1, g2, g3⟩ := hc.str
    have hT0 : fT q.1 = TJ0 := by rw [h0]; rfl
    rw [hT0]
    have h5 : q.2.1 = 0 ∨ q.2.1 = 1 := by omega
    rcases h5 with h5 | h5
    · obtain ⟨cf, kf, fi, f, cell, e1, e2, e3, e4, e5, -⟩ := va_OF.moved C.alike g2
      rw [h5]
      exact ⟨cf, fi, kf, f, cell, e1, e2, e3, e4, e5⟩
    · obtain ⟨cf, kf, fi, f, cell, e1, e2, e3, e4, e5, -⟩ := va_OF.moved C.alike g3
      rw [h5]
      exact ⟨cf, fi, kf, f, cell, e1, e2, e3, e4, e5⟩
theorem Cx.getf (C : Cx s0 args0 D p R s m meth c d mi) {idx : Nat} {q : Nat × Nat × Nat × Nat × Nat} (hq : gRS mi idx = some q) (hz : ¬ 1 < q.2.2.2.2) (hdg : decode (gB mi) pc = .ok (.getfield idx, 3)) {cf i : Nat} {kf : Class} {f : Field} {cell : Cell} {a : Nat} {v : Value} {rest : List Value} (h1 : s.fieldFound? (fT q.1 q.2.1).1 (fT q.1 q.2.1).2.1 (fT q.1 q.2.1).2.2.1 = some (cf, kf, i, f)) (h2 : f.isStatic = false) (h3 : H[a]? = some cell) (h4 : cell.vm ≠ .unknown) (h5 : cell.slots[f.slot]? = some v)
    (kk : W p l e R s m args below meth c H locs cells slots Q (F0 m (pc + 3) la (v :: rest))) : W p l e R s m args below meth c H locs cells slots Q (F0 m pc la (.ref a :: rest)) := by
  have hw := C.res hq
  have hz2 : q.2.2.2.2 = 0 ∨ q.2.2.2.2 = 1 := by omega
  rcases hz2 with e | e
  · refine W.getf C.1 C.2.1 C.2.2.2.2.1 (C.word (hw _ ?_) rfl) h1 h2 h3 h4 h5 rfl rfl hdg kk
    unfold ewords; rw [e]; exact List.mem_singleton.mpr rfl
  · refine va_Wgetf C.1 C.2.1 C.2.2.2.2.1 (host := "GridMerger") (va_Nw.use (A := args) rfl (va_Nw.warmF C.2.2.2.2.2.1 (va_Nw.of rfl (C.w0 (hw _ ?_))))) h1 h2 h3 h4 h5 rfl rfl hdg kk
    unfold ewords; rw [e]; exact List.mem_singleton.mpr rfl

theorem so_getfield {idx : Nat} (C : Cx s0 args0 D p R s m meth c d mi) (hpg : gPG mi pc = some (.getfield idx)) (hL : LocOk la (gML mi) L) (hH : Hok s0 D μ H) (hq : ∀ q ∈ locs, s0.heap.size ≤ q.base) {pc' : Nat} {L' st' : List Value} {μ' : jM} (hs : jstep (gRS mi) (gKV mi) (gRC mi) (gIK mi) (.getfield idx) pc L st μ = some (.inl (pc', L', st', μ'))) (hc : cells + (jsz μ' - jsz μ) ≤ R.cells) (hsl : slots + (jsl μ' - jsl μ) ≤ R.slots)
    (kk : ∀ (la' : Array Slot) (H' : Heap) (locs' : List Loc), LocOk la' (gML mi) L' → Hok s0 D μ' H' → (∀ q ∈ locs', s0.heap.size ≤ q.base) → W p l e R s m args below meth c H' locs' (cells + (jsz μ' - jsz μ)) (slots + (jsl μ' - jsl μ)) Q (F0 m pc' la' st')) : W p l e R s m args below meth c H locs cells slots Q (F0 m pc la st) := by
  simp only [jstep, Option.bind_eq_some_iff] at hs
  obtain ⟨q, hr, hs⟩ := hs
  split at hs
  · cases hs
  · rename_i hz
    have hf := gr_look C.2.2.2.2.2.2.2.2.2.2.2.1 hr
    unfold fok at hf
    rw [decide_eq_false hz, Bool.false_or] at hf
    simp only [Bool.and_eq_true, decide_eq_true_eq, beq_iff_eq] at hf
    obtain ⟨⟨⟨⟨h14, hsl0⟩, htc⟩, hfin⟩, hpd⟩ := hf
    split at hs
    · rename_i v st1
      split at hs
      · rename_i h1
        simp only [jgR, Option.bind_eq_some_iff] at hs
        obtain ⟨w, ⟨t, h2, h3⟩, h4⟩ := hs
        split at h3
        · rename_i hk
          obtain ⟨rfl, ht⟩ := jat_inv h2
          cases h3
          obtain ⟨rfl, rfl, rfl, rfl⟩ := jgo_inv h4
          simp only [Nat.sub_self, Nat.add_zero] at kk
          obtain ⟨cf, i, kf, f, cell, g1, g2, g3, g4, g5⟩ := C.fld args hH hr hz ht (by omega)
          refine C.getf hr hz (C.dec hpg rfl) g1 g2 g3 g4 (v := va_rf (jrv μ' t.1 q.2.1)) ?_ (kk la H locs hL hH hq)
          rw [g5]
          by_cases e : t.2.1 = 40
          · rw [if_pos e, if_pos (by omega)]
            have : q.2.1 = 0 := by omega
            rw [this]
          · rw [if_neg e]
            have e3 : t.2.1 = q.1 := by omega
            unfold fval
            rw [e3, if_pos (by
              rw [h1] at htc
              generalize gTy q.1 q.2.1 = ty at htc
              cases ty <;> first | rfl | (exfalso; revert htc; decide))]
        · cases h3
      · rename_i h1
        simp only [jgI, Option.bind_eq_some_iff] at hs
        obtain ⟨w, ⟨t, h2, h3⟩, h4⟩ := hs
        split at h3
        · rename_i hk
          obtain ⟨rfl, ht⟩ := jat_inv h2
          cases h3
          obtain ⟨rfl, rfl, rfl, rfl⟩ := jgo_inv h4
          simp only [Nat.sub_self, Nat.add_zero] at kk
          obtain ⟨cf, i, kf, f, cell, g1, g2, g3, g4, g5⟩ := C.fld args hH hr hz ht (by omega)
          refine C.getf hr hz (C.dec hpg rfl) g1 g2 g3 g4 (v := .int (jiv μ' t.1 q.2.1)) ?_ (kk la H locs hL hH hq)
          rw [g5]
          by_cases e : t.2.1 = 40
          · rw [if_pos e, if_neg (by omega)]
            have : q.2.1 = 1 := by omega
            rw [this]
          · rw [if_neg e]
            have e3 : t.2.1 = q.1 := by omega
            unfold fval
            rw [e3, if_neg (by
              generalize gTy q.1 q.2.1 = ty at htc
              cases ty <;> first | (intro h; cases h; done) | (exfalso; apply h1; rw [htc]; rfl))]
        · cases h3
    · cases hs
/-- a store into a field of an object, the value being of its type -/
theorem Cx.putf (C : Cx s0 args0 D p R s m meth c d mi) (hH : Hok s0 D μ H) (hL : LocOk la (gML mi) L) (hq0 : ∀ q ∈ locs, s0.heap.size ≤ q.base) {idx : Nat} {q : Nat × Nat × Nat × Nat × Nat} (hq : gRS mi idx = some q) (hz : ¬ (1 < q.2.2.2.2 ∨ (q.2.2.2.1 = 1 ∧ ¬ (gIK mi = q.1 + 1 ∧ q.2.2.2.2 = 0)))) (hik : ∀ k, gIK mi = k + 1 → ¬ (fT k q.2.1).2.2.2 = true ∨ gON (gOW mi) = (fT k q.2.1).1) (hdg : decode (gB mi) pc = .ok (.putfield idx, 3)) {a n : Nat} (ht : jty μ a = some (q.1, n)) {v : Value} {rest : List Value} {μ' : jM}
    (hn : narrow (gTy q.1 q.2.1) v = v) (hv : fits (gTy q.1 q.2.1) v = true) (hf : fval μ' q.1 a = updV (fval μ q.1 a) q.2.1 v) (e1 : jty μ' = jty μ) (e2 : jsz μ' = jsz μ) (e3 : jext μ' = jext μ) (e4 : ∀ b, b ≠ a → jiv μ' b = jiv μ b) (e5 : ∀ b, b ≠ a → jrv μ' b = jrv μ b)
    (kk : ∀ (H' : Heap) (locs' : List Loc), Hok s0 D μ' H' → (∀ q ∈ locs', s0.heap.size ≤ q.base) → W p l e R s m args below meth c H' locs' cells slots Q (F0 m (pc + 3) la rest)) : W p l e R s m args below meth c H locs cells slots Q (F0 m pc la (v :: .ref a :: rest)) := by
  have hf0 := gr_look C.2.2.2.2.2.2.2.2.2.2.2.1 hq
  unfold fok at hf0
  rw [decide_eq_false (fun g => hz (Or.inl g)), Bool.false_or] at hf0
  simp only [Bool.and_eq_true, decide_eq_true_eq, beq_iff_eq] at hf0
  obtain ⟨⟨⟨⟨h14, hsl⟩, htc⟩, hfin⟩, hpd⟩ := hf0
  have hw := C.res hq
  have hc := (hH.1 a _ n ht).1
  have hbase := (hH.1 a _ n ht).2.1 (by omega)
  obtain ⟨r, hr, cell, q1, q2, q3, q4⟩ := hc.obj (by omega)
  obtain ⟨Cn, N, hr2⟩ := vwCl_at q.1 h14
  cases hr.symm.trans hr2
  rw [hr] at hsl
  have hsl : q.2.1 < N := hsl
  have hts : ∀ w ∈ u_ws Cn (fT q.1) N, w.before args s = true := C.cls h14 hr
  have hap := va_apart (own := "") (cl := vwCl) (D := D) (tys := []) (s := s) (args := args) hts (fun w h => h) (gTy q.1) (ty_ok q.1 h14 _ hr) (nm_ok q.1 h14 _ hr) C.K hr
  obtain ⟨hS, hfc, kC, hkC, hkind⟩ := C.K.1 q.1 _ hr
  obtain ⟨cf, kf, fi, f, hi, hs2⟩ := hS q.2.1 hsl
  have hst := (u_facts (args := args) hfc hkC (u_lays hts (fun w h => h) hsl) hi).1
  have hlay := hts _ (u_in_lay hsl)
  unfold u_lay at hlay
  have fin : ∀ (H' : Heap), H'[a]? = some (cell.setSlot f.slot v) → H'.size = H.size → (∀ q, q ≠ a → H'[q]? = H[q]?) → W p l e R s m args below meth c H' (locs ++ [⟨a, f.slot⟩]) cells slots Q (F0 m (pc + 3) la rest) := by
    intro H' g1 g2 g3
    refine kk H' _ (hH.upd ht (by omega) e1 e2 e3 e4 e5 g3 g2 ?_) (loc_app hq0 hbase)
    unfold hcell
    rw [if_pos (by omega), hf]
    rw [hs2] at g1
    exact ⟨_, hr, _, g1, q2, q3, t_set q4 hap hsl v⟩
  by_cases hfi : (fT q.1 q.2.1).2.2.2 = true
  · rw [if_pos hfi] at hlay
    rw [if_pos hfi] at hfin
    have hz2 : gIK mi = q.1 + 1 ∧ q.2.2.2.2 = 0 := by
      rcases Classical.em (gIK mi = q.1 + 1 ∧ q.2.2.2.2 = 0) with g | g
      · exact g
      · exact absurd (Or.inr ⟨hfin, g⟩) hz
    have hcf : m.cls = cf := by
      obtain ⟨_, _, c', _, _, _, -, -, hf', -, -, -, hown2, -⟩ := Cond.laysFinal_spec hlay
      have e1 : c' = cf := by have := hi.symm.trans hf'; simp at this; exact this.1.symm
      have hd2 : gON (gOW mi) = (fT q.1 q.2.1).1 := by
        rcases hik q.1 hz2.1 with g | g
        · exact absurd hfi g
        · exact g
      rw [← hd2] at hown2
      rw [← e1]; exact Option.some.inj (C.2.2.2.2.1.symm.trans hown2)
    have h6 := u_fits hfc hkC hkind (Or.inr hlay) hi hpd hn hv
    refine W.putFinK C.1 C.2.1 C.2.2.2.2.1 (C.word (hw _ ?_) rfl) hi hst hcf (C.2.2.2.2.2.2.2.1 (by omega)) (by rw [q2]; exact h6) q1 q3 (by rw [hs2]; exact k2_hasslot (q4 _ hsl)) rfl rfl hdg fin
    unfold ewords; rw [hz2.2]; exact List.mem_singleton.mpr rfl
  · rw [if_neg hfi] at hlay
    have h6 := u_store hfc hkC hkind hlay hi hpd hn hv
    have hz2 : q.2.2.2.2 = 0 ∨ q.2.2.2.2 = 1 := by
      rcases Nat.lt_or_ge 1 q.2.2.2.2 with g | g
      · exact absurd (Or.inl g) hz
      · omega
    rcases hz2 with e | e
    · refine W.putK C.1 C.2.1 (f := f) ⟨C.2.2.2.2.1, C.word (hw _ ?_) rfl, ⟨_, _, _, hi⟩, hst⟩ (by rw [q2]; exact h6) q1 q3 (by rw [hs2]; exact k2_hasslot (q4 _ hsl)) rfl rfl hdg fin
      unfold ewords; rw [e]; exact List.mem_singleton.mpr rfl
    · refine va_WputK C.1 C.2.1 (f := f) C.2.2.2.2.1 (host := "GridMerger") (va_Nw.use (A := args) rfl (va_Nw.warmF C.2.2.2.2.2.1 (va_Nw.of rfl (C.w0 (hw _ ?_))))) hi hst (by rw [q2]; exact h6) q1 q3 (by rw [hs2]; exact k2_hasslot (q4 _ hsl)) rfl rfl hdg fin
      unfold ewords; rw [e]; exact List.mem_singleton.mpr rfl
/-- of a constructor: its class is the one that declares the fields that it may lay -/
def ikok (mi : Nat) : Bool := gIK mi == 0 || (List.range 60).all (fun j => decide (¬ (fT (gIK mi - 1) j).2.2.2 = true ∨ gON (gOW mi) = (fT (gIK mi - 1) j).1))
theorem ik_all : (List.range 313).all ikok = true := by decide +kernel
theorem gIK_big {mi : Nat} (h : 313 ≤ mi) : gIK mi = 0 := by
  unfold gIK
  rw [List.getD_eq_getElem?_getD, List.getElem?_eq_none]
  · rfl
  · exact Nat.le_trans (show gIKL.length ≤ 313 by decide +kernel) h
theorem ik_ok {mi k j : Nat} (h : gIK mi = k + 1) (hj : j < 60) : ¬ (fT k j).2.2.2 = true ∨ gON (gOW mi) = (fT k j).1 := by
  rcases Nat.lt_or_ge mi 313 with g | g
  · have h1 := List.all_eq_true.mp ik_all mi (List.mem_range.mpr g)
    unfold ikok at h1
    rw [h] at h1
    have h1 : ((List.range 60).all fun j => decide (¬ (fT k j).2.2.2 = true ∨ gON (gOW mi) = (fT k j).1)) = true := h1
    exact of_decide_eq_true (List.all_eq_true.mp h1 j (List.mem_range.mpr hj))
  · rw [gIK_big g] at h; cases h
theorem sl_lt {k j : Nat} (h14 : k < 14) (hsl : j < ((vwCl[k]?).map (fun r => r.2.2)).getD 0) : j < 60 := by
  have : ∀ k, k < 14 → ((vwCl[k]?).map (fun r => r.2.2)).getD 0 ≤ 60 := by decide +kernel
  exact Nat.lt_of_lt_of_le hsl (this k h14)
theorem so_putfield {idx : Nat} (C : Cx s0 args0 D p R s m meth c d mi) (hpg : gPG mi pc = some (.putfield idx)) (hL : LocOk la (gML mi) L) (hH : Hok s0 D μ H) (hq : ∀ q ∈ locs, s0.heap.size ≤ q.base) {pc' : Nat} {L' st' : List Value} {μ' : jM} (hs : jstep (gRS mi) (gKV mi) (gRC mi) (gIK mi) (.putfield idx) pc L st μ = some (.inl (pc', L', st', μ'))) (hc : cells + (jsz μ' - jsz μ) ≤ R.cells) (hsl : slots + (jsl μ' - jsl μ) ≤ R.slots)
    (kk : ∀ (la' : Array Slot) (H' : Heap) (locs' : List Loc), LocOk la' (gML mi) L' → Hok s0 D μ' H' → (∀ q ∈ locs', s0.heap.size ≤ q.base) → W p l e R s m args below meth c H' locs' (cells + (jsz μ' - jsz μ)) (slots + (jsl μ' - jsl μ)) Q (F0 m pc' la' st')) : W p l e R s m args below meth c H locs cells slots Q (F0 m pc la st) := by
  simp only [jstep, Option.bind_eq_some_iff] at hs
  obtain ⟨q, hr, hs⟩ := hs
  split at hs
  · cases hs
  · rename_i hz
    have hf := gr_look C.2.2.2.2.2.2.2.2.2.2.2.1 hr
    unfold fok at hf
    rw [decide_eq_false (fun g => hz (Or.inl g)), Bool.false_or] at hf
    simp only [Bool.and_eq_true, decide_eq_true_eq, beq_iff_eq] at hf
    obtain ⟨⟨⟨⟨h14, hsl0⟩, htc⟩, hfin⟩, hpd⟩ := hf
    have hik : ∀ k, gIK mi = k + 1 → ¬ (fT k q.2.1).2.2.2 = true ∨ gON (gOW mi) = (fT k q.2.1).1 := fun k hk => ik_ok hk (sl_lt h14 hsl0)
    have eI : ∀ (a i : Nat) (x : Int32), jsz (jsetI μ a i x) = jsz μ ∧ jsl (jsetI μ a i x) = jsl μ := fun _ _ _ => ⟨rfl, rfl⟩
    have eR : ∀ (a i : Nat) (x : Option Nat), jsz (jsetR μ a i x) = jsz μ ∧ jsl (jsetR μ a i x) = jsl μ := fun _ _ _ => ⟨rfl, rfl⟩
    split at hs
    · rename_i x v st1
      split at hs
      · cases hs
      · rename_i h1
        simp only [jpI, Option.bind_eq_some_iff] at hs
        obtain ⟨μ1, ⟨t, h2, h3⟩, h4⟩ := hs
        split at h3
        · rename_i hk
          obtain ⟨rfl, ht⟩ := jat_inv h2
          cases h3
          obtain ⟨rfl, rfl, rfl, rfl⟩ := jgo_inv h4
          simp only [(eI _ _ _).1, (eI _ _ _).2, Nat.sub_self, Nat.add_zero] at kk
          rw [hk.1] at ht
          have hfit := hk.2
          unfold jfit at hfit
          simp only [Bool.or_eq_true, Bool.and_eq_true, beq_iff_eq, decide_eq_true_eq] at hfit
          have key : narrow (gTy q.1 q.2.1) (.int x) = .int x ∧ fits (gTy q.1 q.2.1) (.int x) = true ∧ (gTy q.1 q.2.1).isReference = false := by
            generalize gTy q.1 q.2.1 = ty at htc
            rw [htc] at hfit h1
            cases ty with
            | int => exact ⟨rfl, rfl, rfl⟩
            | boolean =>
              rcases hfit with (g | ⟨-, g | g⟩) | g
              · cases g
              · subst g; exact ⟨by decide, by decide, rfl⟩
              · subst g; exact ⟨by decide, by decide, rfl⟩
              · exact absurd g.1.1.1 (by decide)
            | byte =>
              rcases hfit with (g | g) | g
              · cases g
              · exact absurd g.1 (by decide)
              · refine ⟨?_, ?_, rfl⟩
                · show Value.int x.toInt8.toInt32 = _
                  rw [g.1.1.2]
                · show (decide (-128 ≤ x) && decide (x ≤ 127)) = true
                  rw [decide_eq_true g.1.2, decide_eq_true g.2]; rfl
            | _ => first | exact absurd rfl h1 | (rcases hfit with (g | g) | g <;> first | (cases g; done) | exact absurd g.1 (by decide) | exact absurd g.1.1.1 (by decide))
          exact C.putf hH hL hq hr hz hik (C.dec hpg rfl) ht key.1 key.2.1 (fval_upI key.2.2) rfl rfl rfl (fun b hb => by funext j; exact if_neg (fun g => hb g.1)) (fun b hb => rfl) (fun H' locs' g1 g2 => kk la H' locs' hL g1 g2)
        · cases h3
    · rename_i w v st1 hne
      split at hs
      · rename_i h1
        simp only [jpR, Option.bind_eq_some_iff] at hs
        obtain ⟨μ1, ⟨t, h2, h3⟩, h4⟩ := hs
        split at h3
        · rename_i hk
          obtain ⟨rfl, ht⟩ := jat_inv h2
          cases h3
          obtain ⟨rfl, rfl, rfl, rfl⟩ := jgo_inv h4
          simp only [(eR _ _ _).1, (eR _ _ _).2, Nat.sub_self, Nat.add_zero] at kk
          rw [hk.1] at ht
          have key : narrow (gTy q.1 q.2.1) w = w ∧ fits (gTy q.1 q.2.1) w = true ∧ (gTy q.1 q.2.1).isReference = true := by
            rw [h1] at htc
            generalize gTy q.1 q.2.1 = ty at htc
            rcases ref_cases hk.2 with rfl | ⟨b, rfl⟩ <;> cases ty <;> first | exact ⟨rfl, rfl, rfl⟩ | (exfalso; revert htc; decide)
          exact C.putf hH hL hq hr hz hik (C.dec hpg rfl) ht key.1 key.2.1 (fval_upR hk.2 key.2.2) rfl rfl rfl (fun b hb => rfl) (fun b hb => by funext j; exact if_neg (fun g => hb g.1)) (fun H' locs' g1 g2 => kk la H' locs' hL g1 g2)
        · cases h3
      · cases hs
    · cases hs
end SIM
