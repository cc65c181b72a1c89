/-! EACH INSTRUCTION'S STEP: references into arrays, arrays of references, arrays of arrays -/
theorem Hok.setR {s0 : State} {D : va_G} {μ : jM} {H H1 : Heap} {a k n i : Nat} {x : Option Nat} {cA : ClassId} (hH : Hok s0 D μ H) (ht : jty μ a = some (k, n)) (h1 : 30 ≤ k) (h2 : k < 40) (hc : H[a]? = some (arrV cA n (aval μ k a))) (hA : ArrOfT s0 cA (gET k)) (hR : va_RA s0 cA (gET k))
    (he : H1[a]? = some ((arrV cA n (aval μ k a)).setSlot i (va_rf x))) (hz : H1.size = H.size) (oq : ∀ q : Nat, q ≠ a → H1[q]? = H[q]?) : Hok s0 D (jsetR μ a i x) H1 := by
  refine hH.upd ht h2 rfl rfl rfl (fun b hb => rfl) (fun b hb => ?_) oq hz ?_
  · funext j; exact if_neg (fun g => hb g.1)
  · unfold hcell
    rw [if_neg (by omega), if_pos h2]
    refine ⟨cA, ?_, hA, hR, fun g => by omega⟩
    rw [he, arrV_store]
    congr 2
    funext j
    unfold updV aval
    have hk : ¬ k < 30 := by omega
    by_cases e : j = i
    · subst e
      simp only [if_neg hk, if_true]
      exact congrArg va_rf (if_pos ⟨rfl, rfl⟩).symm
    · simp only [if_neg hk, if_neg e]
      exact congrArg va_rf (if_neg (fun g => e g.2)).symm
theorem gET_ref {k : Nat} (h1 : 30 ≤ k) (h2 : k < 36) : (gET k).isReference = true := by
  obtain rfl | rfl | rfl | rfl | rfl | rfl : k = 30 ∨ k = 31 ∨ k = 32 ∨ k = 33 ∨ k = 34 ∨ k = 35 := by omega
  all_goals rfl
section SIM
variable {p : Program} {l : Launch} {e : Env} {R : Room} {s0 s : State} {D : va_G} {args0 args : Array Value} {m : MethodId} {below : List Frame} {meth : Method} {c : Code} {H : Heap} {locs : List Loc} {cells slots : Nat} {Q : State → Prop} {d mi pc : Nat} {la : Array Slot} {L st : List Value} {μ : jM}
/-- null into an array of references -/
theorem aast_null {cc : ByteArray} (hexec : p.tables.exec = Jvm.exec) (hb : c.code = cc) {a : Addr} {cell : Cell} {t : FieldType} {j : Int32} (hcell : H[a]? = some cell) (harr : s.isArrayOf cell t) (ht : t.isReference = true) (hknown : cell.vm ≠ .unknown) (hin : ¬ (j < 0 ∨ cell.slots.size ≤ j.toNatClampNeg))
    {g : JFrame} (hg : g.method = m) {rest : List Value} (hstack : g.stack = .null :: .int j :: .ref a :: rest) (hdg : decode cc g.pc = .ok (.aastore, 1))
    (kk : ∀ H' : Heap, H'[a]? = some (cell.setSlot j.toNatClampNeg .null) → H'.size = H.size → (∀ q, q ≠ a → H'[q]? = H[q]?) → W p l e R s m args below meth c H' (locs ++ [⟨a, j.toNatClampNeg⟩]) cells slots Q { g with pc := g.pc + 1, stack := rest }) :
    W p l e R s m args below meth c H locs cells slots Q g := by
  intro T hT X
  subst hb
  have hT' : T.heap[a]? = some cell := by rw [hT]; exact hcell
  have hTa := State.isArrayOf_alike X.warmed.alike harr
  have hfit : T.fitsSlot cell.cls cell.vm j.toNatClampNeg .null = true := by
    obtain ⟨hobj, k, hk, comp, hkind⟩ := hTa
    have hft : fits t .null = true := by cases t <;> first | rfl | cases ht
    cases hvm : cell.vm <;> first | exact absurd hvm (hobj _) | simp [State.fitsSlot, State.slotType?, hk, hkind, hft]
  have X' := X.stored hT' j.toNatClampNeg .null
  have st : ∀ target, Steps p.tables e below ((T.setCell a (cell.setSlot j.toNatClampNeg .null)).setTop { g with pc := g.pc + 1, stack := rest }) target → Steps p.tables e below (T.setTop g) target := by
    intro target hrest
    subst hg
    jvm_step X.here [hexec, hdg]
    refine aastore.wp_of_null (c := cell) (t := t) X.here.top hstack hT' hTa hin hknown (Nat.not_le.mp fun q => hin (Or.inr q)) hfit ?_
    intro acts
    rw [afterInstr_ok]
    exact hrest
  have hlt : a < T.heap.size := (Array.getElem?_eq_some_iff.mp hT').1
  obtain ⟨t', a1, b1⟩ := kk _ (heapAt_setCell_self _ hlt) (by rw [size_setCell, hT]) (fun q hq => by rw [heapAt_setCell_ne _ (Ne.symm hq), hT]) (T.setCell a (cell.setSlot j.toNatClampNeg .null)) rfl X'
  exact ⟨t', st t' a1, b1⟩
/-- what the tables say of arrays of arrays: the component's class -/
theorem Cx.over (C : Cx s0 args0 D p R s m meth c d mi) {t : FieldType} (h : Cond.arrayOver (.array t) ∈ lw_tbl) : ∃ (comp cA : ClassId) (k : Class), s0.vm.findClass (FieldType.array t).toString = some comp ∧ s0.vm.classes[cA]? = some k ∧ k.kind = .array comp (.array t) ∧ s0.vm.findClass ("[" ++ (FieldType.array t).toString) = some cA := Jvm.Cond.arrayOver_specA (C.w0 h)

theorem so_aastore (C : Cx s0 args0 D p R s m meth c d mi) (hpg : gPG mi pc = some (.aastore)) (hL : LocOk la (gML mi) L) (hH : Hok s0 D μ H) (hq : ∀ q ∈ locs, s0.heap.size ≤ q.base) {pc' : Nat} {L' st' : List Value} {μ' : jM} (hs : jstep (gRS mi) (gKV mi) (gRC mi) (gIK mi) (.aastore) pc L st μ = some (.inl (pc', L', st', μ'))) (hc : cells + (jsz μ' - jsz μ) ≤ R.cells) (hsl : slots + (jsl μ' - jsl μ) ≤ R.slots)
    (kk : ∀ (la' : Array Slot) (H' : Heap) (locs' : List Loc), LocOk la' (gML mi) L' → Hok s0 D μ' H' → (∀ q ∈ locs', s0.heap.size ≤ q.base) → W p l e R s m args below meth c H' locs' (cells + (jsz μ' - jsz μ)) (slots + (jsl μ' - jsl μ)) Q (F0 m pc' la' st')) : W p l e R s m args below meth c H locs cells slots Q (F0 m pc la st) := by
  simp only [jstep] at hs
  split at hs
  · rename_i w i v st1
    simp only [jsR, Option.bind_eq_some_iff] at hs
    obtain ⟨x, ⟨q, h1, h3⟩, h2⟩ := hs
    split at h3
    · rename_i hk
      obtain ⟨rfl, ht⟩ := jat_inv h1
      cases h3
      obtain ⟨rfl, rfl, rfl, rfl⟩ := jgo_inv h2
      have e0 : ∀ (a i : Nat) (x : Option Nat), jsz (jsetR μ a i x) = jsz μ ∧ jsl (jsetR μ a i x) = jsl μ := fun _ _ _ => ⟨rfl, rfl⟩
      simp only [(e0 _ _ _).1, (e0 _ _ _).2, Nat.sub_self, Nat.add_zero] at kk
      obtain ⟨⟨hk1, hk2⟩, hin0, hok⟩ := hk
      have hin := jinb_in hin0
      obtain ⟨cA, g1, g2, g3, -⟩ := (hH.1 _ _ _ ht).1.arr (by omega) (by omega)
      have hbase := (hH.1 _ _ _ ht).2.1 (by omega)
      have g2s := arrOfT_moved C.alike g2 q.2.2 (aval μ q.2.1 q.1)
      have hin2 : ¬ (i < 0 ∨ (arrV cA q.2.2 (aval μ q.2.1 q.1)).slots.size ≤ i.toNatClampNeg) := by rw [arrV_size]; exact hin
      cases w with
      | null =>
        exact aast_null C.1 C.2.1 g1 g2s (gET_ref hk1 hk2) (fun h => by cases h) hin2 rfl rfl (C.dec hpg rfl) (fun H1 he hz oq => kk la H1 _ hL (hH.setR (x := none) ht (by omega) (by omega) g1 g2 g3 he hz oq) (loc_app hq hbase))
      | ref b =>
        unfold jokel at hok
        rw [Option.any_eq_true] at hok
        obtain ⟨y, hy, hy2⟩ := hok
        have hy2 : y.1 = jel q.2.1 := by simpa using hy2
        obtain ⟨kb, nb⟩ := y
        have hy2 : kb = jel q.2.1 := hy2
        have hcb := (hH.1 b kb nb hy).1
        obtain ⟨-, kA, hkA, comp, hkind⟩ := g2s
        have key : ∃ (cv : Cell) (kv : Class), H[b]? = some cv ∧ (∀ q, cv.vm ≠ .statics q) ∧ s.vm.classes[cv.cls]? = some kv ∧ cv.cls = comp := by
          by_cases h33 : q.2.1 < 33
          · have hj : kb < 14 ∧ ∃ Cn, gET q.2.1 = .object Cn ∧ ∃ N, vwCl[kb]? = some (Cn, fT kb, N) := by
              have h6 : q.2.1 = 30 ∨ q.2.1 = 31 ∨ q.2.1 = 32 := by omega
              rcases h6 with e | e | e <;> rw [e] at hy2 ⊢ <;> subst hy2
              · exact ⟨by decide, RX3, rfl, 4, rfl⟩
              · exact ⟨by decide, RX4, rfl, 6, rfl⟩
              · exact ⟨by decide, RX7, rfl, 3, rfl⟩
            obtain ⟨h14, Cn, hCn, N, hcl⟩ := hj
            obtain ⟨r, hr, cell, q1, q2, q3, q4⟩ := hcb.obj (by omega)
            have hKn := C.K.1 kb _ hcl
            obtain ⟨-, hfc, kC, hkC, hkk⟩ := hKn
            have g4 := g3.moved C.alike
            rw [hCn] at g4
            obtain ⟨kA', comp', e1, e2, e3, e4⟩ := g4
            have e5 : kA' = kA := Option.some.inj (e1.symm.trans hkA)
            subst e5
            rw [e2] at hkind
            have e6 : comp' = comp := by injection hkind
            refine ⟨cell, kC, q1, (fun z h => by rw [q3] at h; cases h), (by rw [q2]; exact hkC), ?_⟩
            rw [q2, ← e6]
            exact Option.some.inj (hfc.symm.trans e3)
          · obtain ⟨cB, b1, b2, b3, -⟩ := hcb.arr (by rw [hy2]; unfold jel; split <;> (try omega); split <;> (try omega); split <;> (try omega); split <;> (try omega); split <;> omega) (by rw [hy2]; unfold jel; split <;> (try omega); split <;> (try omega); split <;> (try omega); split <;> (try omega); split <;> omega)
            obtain ⟨-, kB, hkB, -⟩ := arrOfT_moved C.alike b2 nb (aval μ kb b)
            have hov : ∃ t, gET q.2.1 = .array t ∧ Cond.arrayOver (.array t) ∈ lw_tbl ∧ va_RA s0 cB (gET kb) ∧ "[" ++ (gET kb).toString = (FieldType.array t).toString ∧ (∀ C, gET kb ≠ .object C) := by
              have h6 : q.2.1 = 33 ∨ q.2.1 = 34 ∨ q.2.1 = 35 := by omega
              rcases h6 with e | e | e <;> rw [e] at hy2 ⊢ <;> subst hy2
              · exact ⟨.int, rfl, ao_i, b3, rfl, fun C h => by cases h⟩
              · exact ⟨.array .int, rfl, ao_ii, b3, rfl, fun C h => by cases h⟩
              · exact ⟨.array (.array .int), rfl, ao_iii, b3, rfl, fun C h => by cases h⟩
            obtain ⟨t, ht0, hw0, b4, b5, b6⟩ := hov
            obtain ⟨comp', cA', k', f1, f2, f3, f4⟩ := C.over hw0
            have e0 : s0.vm.findClass ("[" ++ (gET kb).toString) = some cB := by
              revert b4 b6
              generalize gET kb = ty
              intro b4 b6
              cases ty with
              | object C => exact absurd rfl (b6 C)
              | _ => exact b4
            rw [b5, f1] at e0
            have e1 : comp' = cB := Option.some.inj e0
            have e2 : s0.vm.findClass ("[" ++ (gET q.2.1).toString) = some cA := by rw [ht0] at g3 ⊢; exact g3
            rw [ht0, f4] at e2
            have e3 : cA' = cA := Option.some.inj e2
            subst e3
            obtain ⟨k2, hk2', he2⟩ := C.alike.2.2 _ _ f2
            have e4 : k2 = kA := Option.some.inj (hk2'.symm.trans hkA)
            subst e4
            rw [he2] at hkind
            have hkind : k'.kind = .array comp (gET q.2.1) := hkind
            rw [f3] at hkind
            have e5 : comp' = comp := by injection hkind
            exact ⟨_, kB, b1, (fun z h => by cases h), hkB, (by rw [← e5, e1]; rfl)⟩
        obtain ⟨cv, kv, v1, v2, v3, v4⟩ := key
        refine W.aast C.1 C.2.1 g1 (fun z h => by cases h) (fun h => by cases h) hkA hkind (gET_ref hk1 hk2) (kcomp := kv) (by rw [← v4]; exact v3) ⟨fun h => hin2 (Or.inl h), Nat.lt_of_not_le (fun h => hin2 (Or.inr h))⟩ v1 v2 v3 (by rw [v4]; exact va_asg _ _) rfl rfl (C.dec hpg rfl) (fun H1 he hz oq => ?_)
        exact kk la H1 _ hL (hH.setR (x := some b) ht (by omega) (by omega) g1 g2 g3 he hz oq) (loc_app hq hbase)
      | _ => cases hok
    · cases h3
  · cases hs
theorem so_anewarray {idx : Nat} (C : Cx s0 args0 D p R s m meth c d mi) (hpg : gPG mi pc = some (.anewarray idx)) (hL : LocOk la (gML mi) L) (hH : Hok s0 D μ H) (hq : ∀ q ∈ locs, s0.heap.size ≤ q.base) {pc' : Nat} {L' st' : List Value} {μ' : jM} (hs : jstep (gRS mi) (gKV mi) (gRC mi) (gIK mi) (.anewarray idx) pc L st μ = some (.inl (pc', L', st', μ'))) (hc : cells + (jsz μ' - jsz μ) ≤ R.cells) (hsl : slots + (jsl μ' - jsl μ) ≤ R.slots)
    (kk : ∀ (la' : Array Slot) (H' : Heap) (locs' : List Loc), LocOk la' (gML mi) L' → Hok s0 D μ' H' → (∀ q ∈ locs', s0.heap.size ≤ q.base) → W p l e R s m args below meth c H' locs' (cells + (jsz μ' - jsz μ)) (slots + (jsl μ' - jsl μ)) Q (F0 m pc' la' st')) : W p l e R s m args below meth c H locs cells slots Q (F0 m pc la st) := by
  simp only [jstep, Option.bind_eq_some_iff] at hs
  obtain ⟨q, hr, hs⟩ := hs
  split at hs
  · cases hs
  · rename_i hz
    split at hs
    · rename_i n st1
      simp only [Option.bind_eq_some_iff] at hs
      obtain ⟨y, h1, h2⟩ := hs
      have hz2 : q.2.2.2.2 = 30 := Classical.not_not.mp hz
      obtain ⟨hw, hsh⟩ := mk_words hpg rfl hr (Or.inr (Or.inl rfl))
      unfold sshape at hsh
      simp only [hr, hz2, beq_self_eq_true, Bool.not_true, Bool.false_or, Bool.and_eq_true, decide_eq_true_eq] at hsh
      simp only [swords, hr] at hw
      have w1 := hw _ List.mem_cons_self
      have w2 := hw _ (List.mem_cons_of_mem _ List.mem_cons_self)
      generalize q.2.2.2.1 = k at h1 hsh w1 w2
      obtain ⟨k1, k2⟩ := hsh
      obtain ⟨j1, j2, rfl⟩ := jnA_inv h1
      obtain ⟨rfl, rfl, rfl, rfl⟩ := jgo_inv h2
      have e3 : jsz (jnew μ k n.toNatClampNeg n.toNatClampNeg) - jsz μ = 1 := by show jsz μ + 1 - jsz μ = 1; omega
      have e4 : jsl (jnew μ k n.toNatClampNeg n.toNatClampNeg) - jsl μ = n.toNatClampNeg := by show jsl μ + n.toNatClampNeg - jsl μ = _; omega
      simp only [e3, e4] at hc hsl kk
      have hby : n.toNatClampNeg * 4 ≤ 536870912 := Nat.le_trans (Nat.mul_le_mul_right 4 j2) (Nat.le_of_ble_eq_true rfl)
      have fin : ∀ (cA : ClassId) (kA : Class) (comp : ClassId), s.vm.classes[cA]? = some kA → kA.kind = .array comp (gET k) → va_RA s cA (gET k) → W p l e R s m args below meth c (H.push { cls := cA, slots := Array.replicate n.toNatClampNeg .null, vm := .none }) locs (cells + 1) (slots + n.toNatClampNeg) Q (F0 m (pc + 3) la (.ref H.size :: st1)) := by
        intro cA kA comp f2 f3 f4
        generalize hH1 : H.push ({ cls := cA, slots := Array.replicate n.toNatClampNeg .null, vm := .none } : Cell) = H1
        have z1 : H1.size = H.size + 1 := by rw [← hH1, Array.size_push]
        have e1 : H1[H.size]? = some (arrV cA n.toNatClampNeg (fun _ => .null)) := by rw [← hH1, Array.getElem?_push_size, ← arrV_new]
        have o1 : ∀ q : Nat, q < H.size → H1[q]? = H[q]? := fun q hq => by rw [← hH1, Array.getElem?_push, if_neg (Nat.ne_of_lt hq)]
        have hAr : ArrOfT s cA (gET k) := fun N z => ⟨(fun k h => by cases h), kA, f2, comp, f3⟩
        rw [hH.2.1] at e1 ⊢
        exact kk la H1 locs hL (hH.new (by omega) o1 z1 (hcell.newA (v := .null) (by omega) (by omega) (by rw [if_neg (by omega)]) e1 (hAr.back C.alike) (f4.moved C.alike.symm) (fun h => by omega))) hq
      by_cases h33 : k = 33
      · subst h33
        have w1 : Cond.classLink (gON (gOW mi)) idx (FieldType.array .int).toString ∈ lw_tbl := w1
        have hov : (Cond.arrayOver (.array .int)).before args s = true := by
          have h0 := C.w0 ao_i
          exact Jvm.Cond.overAtom_setVm C.alike _ rfl h0
        exact W.anewA C.1 C.2.1 C.2.2.2.2.1 (C.word w1 rfl) hov rfl (C.dec hpg rfl) rfl j1 hby hc hsl (fun cA kA comp f1 f2 f3 f4 => fin cA kA comp f2 f3 f1)
      · have hob : ∃ Cn, gET k = .object Cn ∧ Cond.classLink (gON (gOW mi)) idx Cn ∈ lw_tbl := by
          obtain rfl | rfl | rfl : k = 30 ∨ k = 31 ∨ k = 32 := by omega
          · exact ⟨RX3, rfl, w1⟩
          · exact ⟨RX4, rfl, w1⟩
          · exact ⟨RX7, rfl, w1⟩
        obtain ⟨Cn, hCn, w1⟩ := hob
        rw [hCn] at w2 fin
        have hov : (Cond.arrayOver (.object Cn)).before args s = true := va_AO.use (va_AO.moved C.alike (va_AO.of (C.w0 w2)))
        exact W.anew C.1 C.2.1 C.2.2.2.2.1 (C.word w1 rfl) hov rfl (C.dec hpg rfl) rfl j1 hby hc hsl (fun cA kA comp f1 f2 f3 f4 => fin cA kA comp f2 f3 ⟨kA, comp, f2, f3, f4, f1⟩)
    · cases hs
end SIM
