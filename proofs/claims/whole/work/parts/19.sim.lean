/-! NATIVES, RETURNS, THE MAIN THEOREM -/
theorem b279_0 (d : Nat) (μ : jM) (i0 : Int32) (i1 : Int32) : jR d 279 0 [.int i0, .int i1] [] μ = (if i1 < i0 then jR d 279 10 [.int i0, .int i1] [.int i1] μ else jR d 279 10 [.int i0, .int i1] [.int i0] μ) :=
  (l_iload_n (show gPG 279 0 = some (.iload_n 0) by decide +kernel) rfl).trans <|
  (l_iload_n (show gPG 279 1 = some (.iload_n 1) by decide +kernel) rfl).trans <|
  (l_cmp (show gPG 279 2 = some (.if_icmp .gt 7) by decide +kernel) (t := 9) (by decide +kernel)).trans <| jm_gt.trans <| ite_cg (
  l_iload_n (show gPG 279 9 = some (.iload_n 1) by decide +kernel) rfl) (
  (l_iload_n (show gPG 279 5 = some (.iload_n 0) by decide +kernel) rfl).trans <|
  l_goto (show gPG 279 6 = some (.goto 4) by decide +kernel) (t := 10) (by decide +kernel))
theorem b279_10 (d : Nat) (μ : jM) (u0 : Value) (u1 : Value) (s0 : Int32) : jR d 279 10 [u0, u1] [.int s0] μ = some (some (.int s0), μ) :=
  l_iret1 (show gPG 279 10 = some (.ireturn) by decide +kernel) (by decide +kernel)
theorem b280_0 (d : Nat) (μ : jM) (i0 : Int32) (i1 : Int32) : jR d 280 0 [.int i0, .int i1] [] μ = (if i0 < i1 then jR d 280 10 [.int i0, .int i1] [.int i1] μ else jR d 280 10 [.int i0, .int i1] [.int i0] μ) :=
  (l_iload_n (show gPG 280 0 = some (.iload_n 0) by decide +kernel) rfl).trans <|
  (l_iload_n (show gPG 280 1 = some (.iload_n 1) by decide +kernel) rfl).trans <|
  (l_cmp (show gPG 280 2 = some (.if_icmp .lt 7) by decide +kernel) (t := 9) (by decide +kernel)).trans <| jm_lt.trans <| ite_cg (
  l_iload_n (show gPG 280 9 = some (.iload_n 1) by decide +kernel) rfl) (
  (l_iload_n (show gPG 280 5 = some (.iload_n 0) by decide +kernel) rfl).trans <|
  l_goto (show gPG 280 6 = some (.goto 4) by decide +kernel) (t := 10) (by decide +kernel))
theorem b280_10 (d : Nat) (μ : jM) (u0 : Value) (u1 : Value) (s0 : Int32) : jR d 280 10 [u0, u1] [.int s0] μ = some (some (.int s0), μ) :=
  l_iret1 (show gPG 280 10 = some (.ireturn) by decide +kernel) (by decide +kernel)
theorem math_R {d : Nat} {μ : jM} {x y : Int32} {cc : Nat} (hcc : cc = 279 ∨ cc = 280) : jR d cc 0 [.int x, .int y] [] μ = some (some (.int (if cc = 279 then (if y < x then y else x) else (if x < y then y else x))), μ) := by
  rcases hcc with rfl | rfl
  · rw [b279_0, b279_10, b279_10, if_pos (rfl : (279 : Nat) = 279)]
    split <;> rfl
  · rw [b280_0, b280_10, b280_10, if_neg (show ¬ (280 : Nat) = 279 by decide)]
    split <;> rfl
/-- what a run of Math.min or Math.max comes to -/
theorem math_run {n d cc : Nat} {μ : jM} (hcc : cc = 279 ∨ cc = 280) {as : List Value} (hl : as.length = 2) {r : Option Value × jM} (h : jrun n d cc 0 (jentry (gML cc) as) [] μ = some r) : ∃ x y, as = [.int x, .int y] ∧ r = (some (.int (if cc = 279 then (if y < x then y else x) else (if x < y then y else x))), μ) := by
  match as, hl with
  | [v, w], _ =>
    have h := jR_of h
    have e0 : jentry (gML cc) [v, w] = [v, w] := by rcases hcc with rfl | rfl <;> rfl
    rw [e0] at h
    have g0 : gPG cc 0 = some (.iload_n 0) := by rcases hcc with rfl | rfl <;> decide +kernel
    have g1 : gPG cc 1 = some (.iload_n 1) := by rcases hcc with rfl | rfl <;> decide +kernel
    have hv : ∃ x, v = .int x := by
      rw [jR_step, g0] at h
      cases v with
      | int x => exact ⟨x, rfl⟩
      | _ => cases h
    obtain ⟨x, rfl⟩ := hv
    have hw : ∃ y, w = .int y := by
      rw [l_iload_n g0 rfl, jR_step, g1] at h
      cases w with
      | int x => exact ⟨x, rfl⟩
      | _ => cases h
    obtain ⟨y, rfl⟩ := hw
    rw [math_R hcc] at h
    exact ⟨x, y, rfl, (Option.some.inj h).symm⟩
/-- an array's cell, as a source -/
theorem src_cell {s0 s : State} {D : va_G} {μ : jM} {H : Heap} {a k n : Nat} (hvm : s0.vm.Alike s.vm) (hH : Hok s0 D μ H) (ht : jty μ a = some (k, n)) (hk : k = 20 ∨ k = 21 ∨ k = 22 ∨ k = 41) : ∃ (cs : Cell) (ks : Class) (comp : ClassId), H[a]? = some cs ∧ (∀ k, cs.vm ≠ .statics k) ∧ cs.vm ≠ .unknown ∧ s.vm.classes[cs.cls]? = some ks ∧ ks.kind = .array comp (gET k) ∧ n ≤ cs.slots.size ∧ (∀ j : Nat, j < n → cs.slots[j]? = some (.int (jiv μ a j))) ∧ ∀ j, fits (gET k) (.int (jiv μ a j)) = true := by
  have hc := (hH.1 a k n ht).1
  by_cases h40 : k < 40
  · obtain ⟨cA, g1, g2, g3, g4⟩ := hc.arr (by omega) h40
    obtain ⟨-, kA, hkA, comp, hkind⟩ := arrOfT_moved hvm g2 n (aval μ k a)
    refine ⟨_, kA, comp, g1, (fun z h => by cases h), (fun h => by cases h), hkA, hkind, by rw [arrV_size]; exact Nat.le_refl _, fun j hj => ?_, g4 (by omega)⟩
    rw [arrV_read _ _ hj]
    unfold aval
    rw [if_pos (by omega)]
  · obtain ⟨⟨cell, g1, g2, g3, g4, -, g5, -⟩, g6⟩ := hc.old (by omega)
    obtain ⟨hobj, kA, hkA, comp, hkind⟩ := State.isArrayOf_alike hvm g2
    exact ⟨cell, kA, comp, g1, hobj, g3, hkA, hkind, g4, g5, g6⟩
theorem cpy_run {cs : Cell} {c1 : ClassId} {n1 sp dp n n0 : Nat} {f g : Nat → Int32} (hs : sp + n ≤ n0) (hr : ∀ j : Nat, j < n0 → cs.slots[j]? = some (.int (f j))) :
    (arrV c1 n1 (fun j => .int (g j))).storeRun dp (cs.stretch sp n) = arrV c1 n1 (fun j => .int (va_cpy f g sp dp n j)) := by
  have e : cs.stretch sp n = (arrV c1 n0 (fun j => .int (f j))).stretch sp n := by
    unfold Cell.stretch
    apply List.map_congr_left
    intro i hi
    have hi' := List.mem_range.mp hi
    rw [Array.getD_eq_getD_getElem?, hr _ (by omega), Array.getD_eq_getD_getElem?, arrV_read _ _ (by omega)]
  rw [e]
  exact va_copied (fun z => .int z) c1 c1 f g hs
theorem nn_toInt {z : Int32} (hz : 0 ≤ z) : z.toInt = (z.toNatClampNeg : Int) := by
  have hz0 : (0 : Int) ≤ z.toInt := by simpa using Int32.le_iff_toInt_le.mp hz
  show z.toInt = ((z.toInt.toNat : Nat) : Int)
  omega
section SIM
variable {p : Program} {l : Launch} {e : Env} {R : Room} {s0 s : State} {D : va_G} {args0 args : Array Value} {m : MethodId} {below : List Frame} {meth : Method} {c : Code} {H : Heap} {locs : List Loc} {cells slots : Nat} {Q : State → Prop} {d mi pc : Nat} {la : Array Slot} {L st : List Value} {μ : jM}
theorem so_copy {d' idx : Nat} {q : Nat × Nat × Nat × Nat × Nat} (C : Cx s0 args0 D p R s m meth c (d' + 1) mi) (hpg : gPG mi pc = some (.invokestatic idx)) (hr : gRS mi idx = some q) (hz : q.2.2.2.2 = 19) (hL : LocOk la (gML mi) L) (hH : Hok s0 D μ H) (hq : ∀ q ∈ locs, s0.heap.size ≤ q.base) {v w : Value} {sp dp n : Int32} {rest : List Value} {μ' : jM} (hj : jcp μ v sp w dp n = some μ') (hsum : (rest.map fun v => v.category).sum ≤ 8)
    (kk : ∀ (H' : Heap) (locs' : List Loc), Hok s0 D μ' H' → (∀ q ∈ locs', s0.heap.size ≤ q.base) → W p l e R s m args below meth c H' locs' cells slots Q (F0 m (pc + 3) la rest)) : W p l e R s m args below meth c H locs cells slots Q (F0 m pc la (.int n :: .int dp :: w :: .int sp :: v :: rest)) := by
  have hw := C.res hr
  obtain ⟨qa, qb, qc, qd, qz⟩ := q
  have hz : qz = 19 := hz
  subst hz
  have w0 := C.word (args := args) (hw _ List.mem_cons_self) rfl
  have w1 := C.word (args := args) (hw _ (List.mem_cons_of_mem _ List.mem_cons_self)) rfl
  have w2 := C.word (args := args) (hw _ (List.mem_cons_of_mem _ (List.mem_cons_of_mem _ List.mem_cons_self))) rfl
  have w3 := C.word (args := args) (hw _ (List.mem_cons_of_mem _ (List.mem_cons_of_mem _ (List.mem_cons_of_mem _ List.mem_cons_self)))) rfl
  simp only [jcp, Option.bind_eq_some_iff] at hj
  obtain ⟨x, hx, y, hy, hj⟩ := hj
  split at hj
  · rename_i hcnd
    obtain ⟨hk, b1, b2, b3, b4, b5⟩ := hcnd
    cases hj
    obtain ⟨rfl, hxt⟩ := jat_inv hx
    obtain ⟨rfl, hyt⟩ := jat_inv hy
    obtain ⟨a0, k0, n0⟩ := x
    obtain ⟨a1, k1, n1⟩ := y
    dsimp only at hk hxt hyt b4 b5 kk ⊢
    have hk1 : k1 = 20 ∨ k1 = 21 ∨ k1 = 22 := by rcases hk with ⟨e, h⟩ | ⟨-, h⟩ <;> omega
    have hk0 : k0 = 20 ∨ k0 = 21 ∨ k0 = 22 ∨ k0 = 41 := by rcases hk with ⟨e, h⟩ | ⟨h, -⟩ <;> omega
    have hET : gET k0 = gET k1 := by
      rcases hk with ⟨rfl, -⟩ | ⟨rfl, rfl⟩ <;> rfl
    obtain ⟨cs, ks, comp0, g1, g2, g3, g4, g5, g6, g7, g8⟩ := src_cell C.alike hH hxt hk0
    obtain ⟨cA, v1, v2, v3, v4⟩ := (hH.1 _ _ _ hyt).1.arr (by omega) (by omega)
    have hbase := (hH.1 _ _ _ hyt).2.1 (by omega)
    obtain ⟨-, kd, hkd, comp1, hkind1⟩ := arrOfT_moved C.alike v2 n1 (aval μ k1 a1)
    have eav : aval μ k1 a1 = fun j => .int (jiv μ a1 j) := by
      funext j
      unfold aval
      rw [if_pos (by omega)]
    intro T hT X
    have hprim : refKind (gET k1) = false := by rcases hk1 with rfl | rfl | rfl <;> rfl
    obtain ⟨vm', X', step⟩ := X.arraycopy C.1 C.2.2.2.2.1 w0 w2 w1 w3 (src := a0) (dst := a1) (cs := cs) (srcPos := sp) (destPos := dp) (n := n) (by rw [hT]; exact g1) (by rw [hT]; exact v1)
      g2 (fun _ h => by cases h) g3 (fun h => by cases h) g4 hkd g5 hkind1 (by rw [hET]; simp [hprim]) (Int32.not_lt.mpr b1) (Int32.not_lt.mpr b2) (Int32.not_lt.mpr b3)
      (by rw [nn_toInt b1, nn_toInt b3]; omega)
      (by rw [nn_toInt b2, nn_toInt b3, arrV_size]; omega)
      (fun vm₁ _ i hi => by
        have e : cs.slots.getD (sp.toNatClampNeg + i) .null = .int (jiv μ a0 (sp.toNatClampNeg + i)) := by
          rw [Array.getD_eq_getD_getElem?, g7 _ (by omega)]
          rfl
        rw [e]
        exact ⟨by rw [← hET]; exact g8 _, trivial⟩)
      (g := F0 m pc la (.int n :: .int dp :: .ref a1 :: .int sp :: .ref a0 :: rest)) rfl (by rw [C.2.2.1]; exact hL.2.1) (rest := rest) rfl (by rw [C.2.1]; exact C.dec hpg rfl) (Nat.le_trans (by omega) C.2.2.2.2.2.2.2.2.1) (by
        have h33 := C.2.2.2.2.2.2.2.2.2.1
        have : nativeFrameWords "java/lang/System" "arraycopy" 5 = 7 := by decide
        show 2 * 0 + _ + _ ≤ _
        omega)
    have e1 : copied cs (arrV cA n1 (aval μ k1 a1)) sp dp n = arrV cA n1 (fun j => .int (va_cpy (jiv μ a0) (jiv μ a1) sp.toNatClampNeg dp.toNatClampNeg n.toNatClampNeg j)) := by rw [eav]; exact cpy_run b4 g7
    rw [e1] at X' step
    have hlt : a1 < T.heap.size := by rw [hT]; exact (Array.getElem?_eq_some_iff.mp v1).1
    have hOk : Hok s0 D (jrowI μ a1 (va_cpy (jiv μ a0) (jiv μ a1) sp.toNatClampNeg dp.toNatClampNeg n.toNatClampNeg)) ((T.setVm vm').setCell a1 (arrV cA n1 (fun j => .int (va_cpy (jiv μ a0) (jiv μ a1) sp.toNatClampNeg dp.toNatClampNeg n.toNatClampNeg j)))).heap := by
      have hH2 : Hok s0 D μ (T.setVm vm').heap := by show Hok s0 D μ T.heap; rw [hT]; exact hH
      refine hH2.upd hyt (by omega) rfl rfl rfl (fun b hb => ?_) (fun b hb => rfl) (fun q hq => heapAt_setCell_ne _ (Ne.symm hq)) (size_setCell _ _ _) ?_
      · funext j; exact if_neg hb
      · unfold hcell
        rw [if_neg (by omega), if_pos (by omega)]
        have eiv : ∀ j, jiv (jrowI μ a1 (va_cpy (jiv μ a0) (jiv μ a1) sp.toNatClampNeg dp.toNatClampNeg n.toNatClampNeg)) a1 j = va_cpy (jiv μ a0) (jiv μ a1) sp.toNatClampNeg dp.toNatClampNeg n.toNatClampNeg j := fun j => if_pos rfl
        refine ⟨cA, ?_, v2, v3, fun h j => ?_⟩
        · rw [heapAt_setCell_self (s := T.setVm vm') _ hlt]
          congr 2
          funext j
          unfold aval
          rw [if_pos (by omega), eiv]
        · rw [eiv]
          unfold va_cpy
          split
          · rw [← hET]; exact g8 _
          · exact v4 h _
    obtain ⟨t, a1', b1'⟩ := kk _ _ hOk (fun y hy => by
      rcases List.mem_append.mp hy with h | h
      · exact hq y h
      · obtain ⟨z, -, hz⟩ := List.mem_map.mp h
        rw [← hz]
        exact hbase) _ rfl X'
    exact ⟨t, step t a1', b1'⟩
  · cases hj
theorem so_clone {d' idx : Nat} {q : Nat × Nat × Nat × Nat × Nat} (C : Cx s0 args0 D p R s m meth c (d' + 1) mi) (hpg : gPG mi pc = some (.invokevirtual idx)) (hr : gRS mi idx = some q) (hz : q.2.2.2.2 = 20) (hL : LocOk la (gML mi) L) (hH : Hok s0 D μ H) (hq : ∀ q ∈ locs, s0.heap.size ≤ q.base) {v : Value} {t : Nat × Nat × Nat} {rest : List Value} {r : Value × jM} (hat : jat μ v = some t) (htk : t.2.1 = q.2.2.2.1) (ht2 : t.2.1 = 20 ∨ t.2.1 = 22) (hj : jcl μ v = some r) (hsum : (rest.map fun v => v.category).sum ≤ 8) (hc : cells + (jsz r.2 - jsz μ) ≤ R.cells) (hsl : slots + (jsl r.2 - jsl μ) ≤ R.slots)
    (kk : ∀ (H' : Heap) (locs' : List Loc), Hok s0 D r.2 H' → (∀ q ∈ locs', s0.heap.size ≤ q.base) → W p l e R s m args below meth c H' locs' (cells + (jsz r.2 - jsz μ)) (slots + (jsl r.2 - jsl μ)) Q (F0 m (pc + 3) la (r.1 :: rest))) : W p l e R s m args below meth c H locs cells slots Q (F0 m pc la (v :: rest)) := by
  have hw := C.res hr
  obtain ⟨qa, qb, qc, qd, qz⟩ := q
  have hz : qz = 20 := hz
  subst hz
  have htk : t.2.1 = qd := htk
  obtain ⟨a, k, n⟩ := t
  have htk : k = qd := htk
  subst htk
  have ht2 : k = 20 ∨ k = 22 := ht2
  have w0 := C.word (args := args) (hw _ List.mem_cons_self) rfl
  have w1 := C.word (args := args) (hw _ (List.mem_cons_of_mem _ List.mem_cons_self)) rfl
  have w2 := C.word (args := args) (hw _ (List.mem_cons_of_mem _ (List.mem_cons_of_mem _ List.mem_cons_self))) rfl
  have w3 := C.word (args := args) (hw _ (List.mem_cons_of_mem _ (List.mem_cons_of_mem _ (List.mem_cons_of_mem _ List.mem_cons_self)))) rfl
  have w4 := C.word (args := args) (hw _ (List.mem_cons_of_mem _ (List.mem_cons_of_mem _ (List.mem_cons_of_mem _ (List.mem_cons_of_mem _ List.mem_cons_self))))) rfl
  have w5 : (Cond.castable (if k = 20 then "[I" else "[B") "java/lang/Cloneable").before args s = true := va_Nw.use rfl (va_Nw.warmC C.2.2.2.2.2.1 (va_Nw.of rfl (C.w0 (hw _ (List.mem_cons_of_mem _ (List.mem_cons_of_mem _ (List.mem_cons_of_mem _ (List.mem_cons_of_mem _ (List.mem_cons_of_mem _ List.mem_cons_self))))))))) 
  obtain ⟨rfl, hxt⟩ := jat_inv hat
  unfold jcl at hj
  rw [hat] at hj
  simp only [Option.bind_some] at hj
  rw [if_pos ht2] at hj
  cases hj
  dsimp only at hxt hc hsl kk ⊢
  obtain ⟨cA, v1, v2, v3, v4⟩ := (hH.1 _ _ _ hxt).1.arr (by omega) (by omega)
  have v4 := v4 (by omega)
  have hnm : s.vm.findClass (if k = 20 then "[I" else "[B") = some cA := by
    rw [C.alike.findClass]
    rcases ht2 with rfl | rfl
    · exact v3
    · exact v3
  obtain ⟨c0, t0', f1, f2, f3⟩ := Cond.castable_spec w5
  cases hnm.symm.trans f1
  have eav : aval μ k a = fun j => .int (jiv μ a j) := by
    funext j
    unfold aval
    rw [if_pos (by omega)]
  rw [eav] at v1
  have e3 : jsz (jrowI (jnew μ k n n) (jsz μ) (jiv μ a)) - jsz μ = 1 := by show jsz μ + 1 - jsz μ = 1; omega
  have e4 : jsl (jrowI (jnew μ k n n) (jsz μ) (jiv μ a)) - jsl μ = n := by show jsl μ + n - jsl μ = n; omega
  rw [e3] at hc kk
  rw [e4] at hsl kk
  intro T hT X
  obtain ⟨-, kA, hkA, comp, hkind⟩ := State.isArrayOf_alike X.warmed.alike (arrOfT_moved C.alike v2 0 (fun _ => .null))
  obtain ⟨-, kS, hkS, compS, hkindS⟩ := arrOfT_moved C.alike v2 0 (fun _ => .null)
  have hfit : ∀ (i : Nat) (v : Value), (arrV cA n (fun j => .int (jiv μ a j))).slots[i]? = some v → fits (gET k) v = true := fun i v hv => va_fit (fun j _ => v4 j) i v hv
  obtain ⟨vm', X', st⟩ := X.cloneArray C.1 C.2.2.2.2.1 w0 w1 w2 w3 w4 (a := a) (cell := arrV cA n (fun j => .int (jiv μ a j))) (by rw [hT]; exact v1) (fun k h => by cases h) (fun h => by cases h) hnm f2 f3
    (fun i v hv => by
      have hk' : T.vm.classes[cA]? = some kA := hkA
      have hcl : (arrV cA n (fun j => .int (jiv μ a j))).cls = cA := rfl
      rw [hcl]
      simpa [State.fitsSlot, State.slotType?, hk', hkind] using hfit i v hv)
    (g := F0 m pc la (.ref a :: rest)) rfl (by rw [C.2.2.1]; exact hL.2.1) rfl (by rw [C.2.1]; exact C.dec hpg rfl) (Nat.le_trans (by omega) C.2.2.2.2.2.2.2.2.1) (by
      have h33 := C.2.2.2.2.2.2.2.2.2.1
      show 2 * 0 + _ + 14 ≤ _
      omega) hc (by rw [arrV_size]; exact hsl) (hloader := Vm.clonesLoader_of_array hkS hkindS)
  have hcellE : ({ cls := (arrV cA n (fun j => .int (jiv μ a j))).cls, slots := (arrV cA n (fun j => .int (jiv μ a j))).slots } : Cell) = arrV cA n (fun j => .int (jiv μ a j)) := rfl
  rw [hcellE, arrV_size] at X'
  have hOk : Hok s0 D (jrowI (jnew μ k n n) (jsz μ) (jiv μ a)) ((T.setVm vm').pushCell (arrV cA n (fun j => .int (jiv μ a j)))).heap := by
    have hH2 : Hok s0 D μ (T.setVm vm').heap := by show Hok s0 D μ T.heap; rw [hT]; exact hH
    have hHn : Hok s0 D (jnew μ k n n) ((T.setVm vm').pushCell (arrV cA n (fun _ => .int 0))).heap := by
      refine hH2.new (by omega) (fun q hq => State.heap_pushCell_of_lt _ _ hq) (by show (T.heap.push _).size = _; rw [Array.size_push]; rfl) ?_
      refine hcell.newA (v := .int 0) (by omega) (by omega) (by rw [if_pos (by omega)]) ?_ v2 v3 (fun _ => by rcases ht2 with rfl | rfl <;> rfl)
      rw [← hH2.2.1]
      exact State.heap_pushCell_size _ _
    have hsz2 : jsz μ < ((T.setVm vm').pushCell (arrV cA n (fun _ => .int 0))).heap.size := by rw [hHn.2.1]; show jsz μ < jsz μ + 1; omega
    have hTz : T.heap.size = jsz μ := hH2.2.1
    refine hHn.upd (a := jsz μ) (k := k) (n := n) (if_pos rfl) (by omega) rfl rfl rfl (fun b hb => ?_) (fun b hb => rfl) (fun q hq => ?_) ?_ ?_
    · funext j; exact if_neg hb
    · show (T.heap.push _)[q]? = (T.heap.push _)[q]?
      rw [Array.getElem?_push, Array.getElem?_push, if_neg (by omega), if_neg (by omega)]
    · show (T.heap.push _).size = (T.heap.push _).size
      rw [Array.size_push, Array.size_push]
    · unfold hcell
      rw [if_neg (by omega), if_pos (by omega)]
      have eiv : ∀ j, jiv (jrowI (jnew μ k n n) (jsz μ) (jiv μ a)) (jsz μ) j = jiv μ a j := fun j => if_pos rfl
      refine ⟨cA, ?_, v2, v3, fun h j => by rw [eiv]; exact v4 j⟩
      show (T.heap.push _)[jsz μ]? = _
      rw [← hTz, Array.getElem?_push_size, hTz]
      congr 2
      funext j
      unfold aval
      rw [if_pos (by omega), eiv]
  obtain ⟨t, b1, b2⟩ := kk _ _ hOk hq _ rfl X'
  refine ⟨t, st t ?_, b2⟩
  have hTz : T.heap.size = jsz μ := by rw [hT]; exact hH.2.1
  rw [hTz]
  exact b1
theorem so_objInit {d' idx : Nat} {q : Nat × Nat × Nat × Nat × Nat} (C : Cx s0 args0 D p R s m meth c (d' + 1) mi) (hpg : gPG mi pc = some (.invokespecial idx)) (hr : gRS mi idx = some q) (hz : q.2.2.2.2 = 18) (hL : LocOk la (gML mi) L) {a : Nat} {rest : List Value} (hsum : (rest.map fun v => v.category).sum ≤ 8)
    (kk : W p l e R s m args below meth c H locs cells slots Q (F0 m (pc + 3) la rest)) : W p l e R s m args below meth c H locs cells slots Q (F0 m pc la (.ref a :: rest)) := by
  have hw := C.res hr
  obtain ⟨qa, qb, qc, qd, qz⟩ := q
  have hz : qz = 18 := hz
  subst hz
  have w0 := C.word (args := args) (hw _ List.mem_cons_self) rfl
  have w1 := C.word (args := args) (hw _ (List.mem_cons_of_mem _ List.mem_cons_self)) rfl
  refine W.objInit C.1 C.2.1 C.2.2.2.2.1 w0 w1 (C.word obj_code rfl) rfl (by rw [C.2.2.1]; exact hL.2.1) rfl (C.dec hpg rfl) (Nat.le_trans (by omega) C.2.2.2.2.2.2.2.2.1) ?_ kk
  have h33 := C.2.2.2.2.2.2.2.2.2.1
  show 2 * 0 + _ + 12 ≤ _
  omega

/-- a return -/
theorem so_ret {i : Instr} {r : Option Value × jM} {Qc : Array Value → State → Outcome → State → Prop} {free : Addr → Prop} (C : Cx s0 args0 D p R s m meth c d mi) (hrc : rcok (gRC mi) (gRt mi) = true) (hi : i = .ireturn ∨ i = .lreturn ∨ i = .areturn ∨ i = .return_) (hpg : gPG mi pc = some i) (hs : jstep (gRS mi) (gKV mi) (gRC mi) (gIK mi) i pc L st μ = some (.inr (.inl r)))
    (hQ : ∀ t : State, t.heap = H → s.WarmedH t.vm → Qc args s (.returned r.1) t) (hf : ∀ q ∈ locs, free q.base) : r.2 = μ ∧ W p l e R s m args below meth c H locs cells slots (MQ below Qc args s cells slots free) (F0 m pc la st) := by
  have hrt : meth.sig.returnType = gRt mi := C.2.2.2.1
  have hlk : meth.locks = false := C.2.2.2.2.2.2.1
  unfold rcok at hrc
  rcases hi with rfl | rfl | rfl | rfl
  · simp only [jstep] at hs
    split at hs
    · rename_i x
      split at hs
      · rename_i hx
        cases hs
        refine ⟨rfl, ?_⟩
        split at hrc
        · rename_i hg; rw [eq_of_beq hrc] at hx; cases hx
        · rename_i hg
          exact W.iret C.1 C.2.1 (hrt.trans hg) hQ hf (C.dec hpg rfl) hlk
        · rename_i hg; rw [eq_of_beq hrc] at hx; cases hx
        · rename_i hg; rw [eq_of_beq hrc] at hx; cases hx
        · rename_i hg; rw [eq_of_beq hrc] at hx; cases hx
        · rename_i hg
          rw [eq_of_beq hrc] at hx
          have hx : x &&& 1 = x := by simpa [jrf] using hx
          exact W.zret C.1 C.2.1 (hrt.trans hg) (by show Value.int (x &&& 1) = _; rw [hx]) hQ hf (C.dec hpg rfl) hlk
        · rename_i hg
          rw [eq_of_beq hrc] at hx
          have hx : x.toInt8.toInt32 = x := by simpa [jrf] using hx
          exact W.zret C.1 C.2.1 (hrt.trans hg) (by show Value.int x.toInt8.toInt32 = _; rw [hx]) hQ hf (C.dec hpg rfl) hlk
        · rename_i hg
          rw [eq_of_beq hrc] at hx
          have hx : x.toUInt32.toUInt16.toUInt32.toInt32 = x := by simpa [jrf] using hx
          exact W.zret C.1 C.2.1 (hrt.trans hg) (by show Value.int _ = _; first | rw [hx] | (simp [narrow]; exact hx)) hQ hf (C.dec hpg rfl) hlk
        · cases hrc
      · cases hs
    · cases hs
  · simp only [jstep] at hs
    split at hs
    · rename_i x
      split at hs
      · rename_i hx
        cases hs
        refine ⟨rfl, ?_⟩
        split at hrc
        all_goals first
          | (rename_i hg; exact W.lret C.1 C.2.1 (hrt.trans hg) hQ hf (C.dec hpg rfl) hlk)
          | (exfalso; simp [hx] at hrc)
      · cases hs
    · cases hs
  · simp only [jstep] at hs
    split at hs
    · rename_i x
      split at hs
      · rename_i hx
        cases hs
        refine ⟨rfl, ?_⟩
        have hrefv : x = .null ∨ ∃ a, x = .ref a := ref_cases hx.2
        split at hrc
        all_goals first
          | (rename_i hg; exact W.aret C.1 C.2.1 (hrt.trans hg) (Or.inl ⟨_, rfl⟩) hrefv hQ hf (C.dec hpg rfl) hlk)
          | (rename_i hg; exact W.aret C.1 C.2.1 (hrt.trans hg) (Or.inr ⟨_, rfl⟩) hrefv hQ hf (C.dec hpg rfl) hlk)
          | (exfalso; simp [hx.1] at hrc)
      · cases hs
    · cases hs
  · simp only [jstep] at hs
    split at hs
    · split at hs
      · rename_i hx
        cases hs
        refine ⟨rfl, ?_⟩
        split at hrc
        all_goals first
          | (rename_i hg; exact W.vret C.1 C.2.1 (hrt.trans hg) hQ hf (C.dec hpg rfl) hlk)
          | (exfalso; simp [hx] at hrc)
      · cases hs
    · cases hs
theorem jgo_only {pc1 : Nat} {L1 st1 : List Value} {μ1 : jM} {o : jO} (h : jgo pc1 L1 st1 μ1 = some o) : ∃ x, o = .inl x := by
  unfold jgo at h
  exact ⟨_, (Option.some.inj h).symm⟩
def isRet : Instr → Bool
  | .ireturn => true | .lreturn => true | .areturn => true | .return_ => true
  | _ => false
def isInv : Instr → Bool
  | .invokevirtual _ => true | .invokespecial _ => true | .invokestatic _ => true
  | _ => false

theorem jz_pI {v : Value} {k sl tc : Nat} {x : Int32} {μ1 : jM} (h : jpI μ k sl tc v x = some μ1) : jsz μ1 = jsz μ ∧ jsl μ1 = jsl μ := by
  simp only [jpI, Option.bind_eq_some_iff] at h
  obtain ⟨q, -, h⟩ := h
  split at h
  · cases h; exact ⟨rfl, rfl⟩
  · cases h
theorem jz_pR {v w : Value} {k sl : Nat} {μ1 : jM} (h : jpR μ k sl v w = some μ1) : jsz μ1 = jsz μ ∧ jsl μ1 = jsl μ := by
  simp only [jpR, Option.bind_eq_some_iff] at h
  obtain ⟨q, -, h⟩ := h
  split at h
  · cases h; exact ⟨rfl, rfl⟩
  · cases h
theorem jz_sI {v : Value} {x i : Int32} {μ1 : jM} (h : jsI μ v i x = some μ1) : jsz μ1 = jsz μ ∧ jsl μ1 = jsl μ := by
  simp only [jsI, Option.bind_eq_some_iff] at h
  obtain ⟨q, -, h⟩ := h
  split at h
  · cases h; exact ⟨rfl, rfl⟩
  · cases h
theorem jz_sB {v : Value} {x i : Int32} {μ1 : jM} (h : jsB μ v i x = some μ1) : jsz μ1 = jsz μ ∧ jsl μ1 = jsl μ := by
  simp only [jsB, Option.bind_eq_some_iff] at h
  obtain ⟨q, -, h⟩ := h
  split at h
  · cases h; exact ⟨rfl, rfl⟩
  · split at h
    · cases h; exact ⟨rfl, rfl⟩
    · cases h
theorem jz_sR {v w : Value} {i : Int32} {μ1 : jM} (h : jsR μ v i w = some μ1) : jsz μ1 = jsz μ ∧ jsl μ1 = jsl μ := by
  simp only [jsR, Option.bind_eq_some_iff] at h
  obtain ⟨q, -, h⟩ := h
  split at h
  · cases h; exact ⟨rfl, rfl⟩
  · cases h
theorem jout {pc1 : Nat} {L1 st1 : List Value} {μ1 : jM} {o : jO} (h : jgo pc1 L1 st1 μ1 = some o) (h1 : jsz μ ≤ jsz μ1) (h2 : jsl μ ≤ jsl μ1) : ∃ pc' L' st' μ', o = .inl (pc', L', st', μ') ∧ jsz μ ≤ jsz μ' ∧ jsl μ ≤ jsl μ' := by
  unfold jgo at h
  exact ⟨_, _, _, _, (Option.some.inj h).symm, h1, h2⟩
theorem jout0 {pc1 : Nat} {L1 st1 : List Value} {o : jO} (h : jgo pc1 L1 st1 μ = some o) : ∃ pc' L' st' μ', o = .inl (pc', L', st', μ') ∧ jsz μ ≤ jsz μ' ∧ jsl μ ≤ jsl μ' := jout h (Nat.le_refl _) (Nat.le_refl _)
theorem joutS {pc1 : Nat} {L1 st1 : List Value} {μ1 : jM} {o : jO} (h : jgo pc1 L1 st1 μ1 = some o) (hs : jsz μ1 = jsz μ ∧ jsl μ1 = jsl μ) : ∃ pc' L' st' μ', o = .inl (pc', L', st', μ') ∧ jsz μ ≤ jsz μ' ∧ jsl μ ≤ jsl μ' := jout h (by rw [hs.1]; exact Nat.le_refl _) (by rw [hs.2]; exact Nat.le_refl _)
theorem joutA {pc1 : Nat} {L1 st1 : List Value} {k : Nat} {n : Int32} {x : Value × jM} {o : jO} (hx : jnA μ k n = some x) (h : jgo pc1 L1 st1 x.2 = some o) : ∃ pc' L' st' μ', o = .inl (pc', L', st', μ') ∧ jsz μ ≤ jsz μ' ∧ jsl μ ≤ jsl μ' := by
  obtain ⟨-, -, rfl⟩ := jnA_inv hx
  exact jout h (by show jsz μ ≤ jsz μ + 1; omega) (by show jsl μ ≤ jsl μ + _; omega)
/-- a step that is neither a return nor a call goes on, and the memory grows -/
theorem jstep_next {RS : Nat → Option (Nat × Nat × Nat × Nat × Nat)} {KV : Nat → Option (Value ⊕ Nat)} {rc ik : Nat} {i : Instr} {o : jO} (hr : isRet i = false) (hv : isInv i = false) (h : jstep RS KV rc ik i pc L st μ = some o) : ∃ pc' L' st' μ', o = .inl (pc', L', st', μ') ∧ jsz μ ≤ jsz μ' ∧ jsl μ ≤ jsl μ' := by
  cases i with
  | ireturn => cases hr
  | lreturn => cases hr
  | areturn => cases hr
  | return_ => cases hr
  | invokevirtual _ => cases hv
  | invokespecial _ => cases hv
  | invokestatic _ => cases hv
  | aload_n _ =>
    simp only [jstep, jld, jlda, jsti, jsta, jbin, jun1, Option.bind_eq_some_iff] at h
    repeat' (first | (refine Exists.elim h (fun _ hh => ?_); clear h; obtain ⟨_, h⟩ := hh) | (rw [Option.bind_eq_some_iff] at h) | split at h)
    all_goals first
      | exact jout0 h
      | exact joutS h (jz_pI (by assumption))
      | exact joutS h (jz_pR (by assumption))
      | exact joutS h (jz_sI (by assumption))
      | exact joutS h (jz_sB (by assumption))
      | exact joutS h (jz_sR (by assumption))
      | exact joutA (by assumption) h
      | exact jout h (by show jsz μ ≤ jsz μ + 1; omega) (by show jsl μ ≤ jsl μ + _; omega)
      | contradiction
  | aload _ =>
    simp only [jstep, jld, jlda, jsti, jsta, jbin, jun1, Option.bind_eq_some_iff] at h
    repeat' (first | (refine Exists.elim h (fun _ hh => ?_); clear h; obtain ⟨_, h⟩ := hh) | (rw [Option.bind_eq_some_iff] at h) | split at h)
    all_goals first
      | exact jout0 h
      | exact joutS h (jz_pI (by assumption))
      | exact joutS h (jz_pR (by assumption))
      | exact joutS h (jz_sI (by assumption))
      | exact joutS h (jz_sB (by assumption))
      | exact joutS h (jz_sR (by assumption))
      | exact joutA (by assumption) h
      | exact jout h (by show jsz μ ≤ jsz μ + 1; omega) (by show jsl μ ≤ jsl μ + _; omega)
      | contradiction
  | iload_n _ =>
    simp only [jstep, jld, jlda, jsti, jsta, jbin, jun1, Option.bind_eq_some_iff] at h
    repeat' (first | (refine Exists.elim h (fun _ hh => ?_); clear h; obtain ⟨_, h⟩ := hh) | (rw [Option.bind_eq_some_iff] at h) | split at h)
    all_goals first
      | exact jout0 h
      | exact joutS h (jz_pI (by assumption))
      | exact joutS h (jz_pR (by assumption))
      | exact joutS h (jz_sI (by assumption))
      | exact joutS h (jz_sB (by assumption))
      | exact joutS h (jz_sR (by assumption))
      | exact joutA (by assumption) h
      | exact jout h (by show jsz μ ≤ jsz μ + 1; omega) (by show jsl μ ≤ jsl μ + _; omega)
      | contradiction
  | iload _ =>
    simp only [jstep, jld, jlda, jsti, jsta, jbin, jun1, Option.bind_eq_some_iff] at h
    repeat' (first | (refine Exists.elim h (fun _ hh => ?_); clear h; obtain ⟨_, h⟩ := hh) | (rw [Option.bind_eq_some_iff] at h) | split at h)
    all_goals first
      | exact jout0 h
      | exact joutS h (jz_pI (by assumption))
      | exact joutS h (jz_pR (by assumption))
      | exact joutS h (jz_sI (by assumption))
      | exact joutS h (jz_sB (by assumption))
      | exact joutS h (jz_sR (by assumption))
      | exact joutA (by assumption) h
      | exact jout h (by show jsz μ ≤ jsz μ + 1; omega) (by show jsl μ ≤ jsl μ + _; omega)
      | contradiction
  | istore_n _ =>
    simp only [jstep, jld, jlda, jsti, jsta, jbin, jun1, Option.bind_eq_some_iff] at h
    repeat' (first | (refine Exists.elim h (fun _ hh => ?_); clear h; obtain ⟨_, h⟩ := hh) | (rw [Option.bind_eq_some_iff] at h) | split at h)
    all_goals first
      | exact jout0 h
      | exact joutS h (jz_pI (by assumption))
      | exact joutS h (jz_pR (by assumption))
      | exact joutS h (jz_sI (by assumption))
      | exact joutS h (jz_sB (by assumption))
      | exact joutS h (jz_sR (by assumption))
      | exact joutA (by assumption) h
      | exact jout h (by show jsz μ ≤ jsz μ + 1; omega) (by show jsl μ ≤ jsl μ + _; omega)
      | contradiction
  | istore _ =>
    simp only [jstep, jld, jlda, jsti, jsta, jbin, jun1, Option.bind_eq_some_iff] at h
    repeat' (first | (refine Exists.elim h (fun _ hh => ?_); clear h; obtain ⟨_, h⟩ := hh) | (rw [Option.bind_eq_some_iff] at h) | split at h)
    all_goals first
      | exact jout0 h
      | exact joutS h (jz_pI (by assumption))
      | exact joutS h (jz_pR (by assumption))
      | exact joutS h (jz_sI (by assumption))
      | exact joutS h (jz_sB (by assumption))
      | exact joutS h (jz_sR (by assumption))
      | exact joutA (by assumption) h
      | exact jout h (by show jsz μ ≤ jsz μ + 1; omega) (by show jsl μ ≤ jsl μ + _; omega)
      | contradiction
  | astore_n _ =>
    simp only [jstep, jld, jlda, jsti, jsta, jbin, jun1, Option.bind_eq_some_iff] at h
    repeat' (first | (refine Exists.elim h (fun _ hh => ?_); clear h; obtain ⟨_, h⟩ := hh) | (rw [Option.bind_eq_some_iff] at h) | split at h)
    all_goals first
      | exact jout0 h
      | exact joutS h (jz_pI (by assumption))
      | exact joutS h (jz_pR (by assumption))
      | exact joutS h (jz_sI (by assumption))
      | exact joutS h (jz_sB (by assumption))
      | exact joutS h (jz_sR (by assumption))
      | exact joutA (by assumption) h
      | exact jout h (by show jsz μ ≤ jsz μ + 1; omega) (by show jsl μ ≤ jsl μ + _; omega)
      | contradiction
  | astore _ =>
    simp only [jstep, jld, jlda, jsti, jsta, jbin, jun1, Option.bind_eq_some_iff] at h
    repeat' (first | (refine Exists.elim h (fun _ hh => ?_); clear h; obtain ⟨_, h⟩ := hh) | (rw [Option.bind_eq_some_iff] at h) | split at h)
    all_goals first
      | exact jout0 h
      | exact joutS h (jz_pI (by assumption))
      | exact joutS h (jz_pR (by assumption))
      | exact joutS h (jz_sI (by assumption))
      | exact joutS h (jz_sB (by assumption))
      | exact joutS h (jz_sR (by assumption))
      | exact joutA (by assumption) h
      | exact jout h (by show jsz μ ≤ jsz μ + 1; omega) (by show jsl μ ≤ jsl μ + _; omega)
      | contradiction
  | iconst _ =>
    simp only [jstep, jld, jlda, jsti, jsta, jbin, jun1, Option.bind_eq_some_iff] at h
    repeat' (first | (refine Exists.elim h (fun _ hh => ?_); clear h; obtain ⟨_, h⟩ := hh) | (rw [Option.bind_eq_some_iff] at h) | split at h)
    all_goals first
      | exact jout0 h
      | exact joutS h (jz_pI (by assumption))
      | exact joutS h (jz_pR (by assumption))
      | exact joutS h (jz_sI (by assumption))
      | exact joutS h (jz_sB (by assumption))
      | exact joutS h (jz_sR (by assumption))
      | exact joutA (by assumption) h
      | exact jout h (by show jsz μ ≤ jsz μ + 1; omega) (by show jsl μ ≤ jsl μ + _; omega)
      | contradiction
  | bipush _ =>
    simp only [jstep, jld, jlda, jsti, jsta, jbin, jun1, Option.bind_eq_some_iff] at h
    repeat' (first | (refine Exists.elim h (fun _ hh => ?_); clear h; obtain ⟨_, h⟩ := hh) | (rw [Option.bind_eq_some_iff] at h) | split at h)
    all_goals first
      | exact jout0 h
      | exact joutS h (jz_pI (by assumption))
      | exact joutS h (jz_pR (by assumption))
      | exact joutS h (jz_sI (by assumption))
      | exact joutS h (jz_sB (by assumption))
      | exact joutS h (jz_sR (by assumption))
      | exact joutA (by assumption) h
      | exact jout h (by show jsz μ ≤ jsz μ + 1; omega) (by show jsl μ ≤ jsl μ + _; omega)
      | contradiction
  | sipush _ =>
    simp only [jstep, jld, jlda, jsti, jsta, jbin, jun1, Option.bind_eq_some_iff] at h
    repeat' (first | (refine Exists.elim h (fun _ hh => ?_); clear h; obtain ⟨_, h⟩ := hh) | (rw [Option.bind_eq_some_iff] at h) | split at h)
    all_goals first
      | exact jout0 h
      | exact joutS h (jz_pI (by assumption))
      | exact joutS h (jz_pR (by assumption))
      | exact joutS h (jz_sI (by assumption))
      | exact joutS h (jz_sB (by assumption))
      | exact joutS h (jz_sR (by assumption))
      | exact joutA (by assumption) h
      | exact jout h (by show jsz μ ≤ jsz μ + 1; omega) (by show jsl μ ≤ jsl μ + _; omega)
      | contradiction
  | aconst_null =>
    simp only [jstep, jld, jlda, jsti, jsta, jbin, jun1, Option.bind_eq_some_iff] at h
    repeat' (first | (refine Exists.elim h (fun _ hh => ?_); clear h; obtain ⟨_, h⟩ := hh) | (rw [Option.bind_eq_some_iff] at h) | split at h)
    all_goals first
      | exact jout0 h
      | exact joutS h (jz_pI (by assumption))
      | exact joutS h (jz_pR (by assumption))
      | exact joutS h (jz_sI (by assumption))
      | exact joutS h (jz_sB (by assumption))
      | exact joutS h (jz_sR (by assumption))
      | exact joutA (by assumption) h
      | exact jout h (by show jsz μ ≤ jsz μ + 1; omega) (by show jsl μ ≤ jsl μ + _; omega)
      | contradiction
  | ldc _ =>
    simp only [jstep, jld, jlda, jsti, jsta, jbin, jun1, Option.bind_eq_some_iff] at h
    repeat' (first | (refine Exists.elim h (fun _ hh => ?_); clear h; obtain ⟨_, h⟩ := hh) | (rw [Option.bind_eq_some_iff] at h) | split at h)
    all_goals first
      | exact jout0 h
      | exact joutS h (jz_pI (by assumption))
      | exact joutS h (jz_pR (by assumption))
      | exact joutS h (jz_sI (by assumption))
      | exact joutS h (jz_sB (by assumption))
      | exact joutS h (jz_sR (by assumption))
      | exact joutA (by assumption) h
      | exact jout h (by show jsz μ ≤ jsz μ + 1; omega) (by show jsl μ ≤ jsl μ + _; omega)
      | contradiction
  | ldc_w _ =>
    simp only [jstep, jld, jlda, jsti, jsta, jbin, jun1, Option.bind_eq_some_iff] at h
    repeat' (first | (refine Exists.elim h (fun _ hh => ?_); clear h; obtain ⟨_, h⟩ := hh) | (rw [Option.bind_eq_some_iff] at h) | split at h)
    all_goals first
      | exact jout0 h
      | exact joutS h (jz_pI (by assumption))
      | exact joutS h (jz_pR (by assumption))
      | exact joutS h (jz_sI (by assumption))
      | exact joutS h (jz_sB (by assumption))
      | exact joutS h (jz_sR (by assumption))
      | exact joutA (by assumption) h
      | exact jout h (by show jsz μ ≤ jsz μ + 1; omega) (by show jsl μ ≤ jsl μ + _; omega)
      | contradiction
  | ldc2_w _ =>
    simp only [jstep, jld, jlda, jsti, jsta, jbin, jun1, Option.bind_eq_some_iff] at h
    repeat' (first | (refine Exists.elim h (fun _ hh => ?_); clear h; obtain ⟨_, h⟩ := hh) | (rw [Option.bind_eq_some_iff] at h) | split at h)
    all_goals first
      | exact jout0 h
      | exact joutS h (jz_pI (by assumption))
      | exact joutS h (jz_pR (by assumption))
      | exact joutS h (jz_sI (by assumption))
      | exact joutS h (jz_sB (by assumption))
      | exact joutS h (jz_sR (by assumption))
      | exact joutA (by assumption) h
      | exact jout h (by show jsz μ ≤ jsz μ + 1; omega) (by show jsl μ ≤ jsl μ + _; omega)
      | contradiction
  | getstatic _ =>
    simp only [jstep, jld, jlda, jsti, jsta, jbin, jun1, Option.bind_eq_some_iff] at h
    repeat' (first | (refine Exists.elim h (fun _ hh => ?_); clear h; obtain ⟨_, h⟩ := hh) | (rw [Option.bind_eq_some_iff] at h) | split at h)
    all_goals first
      | exact jout0 h
      | exact joutS h (jz_pI (by assumption))
      | exact joutS h (jz_pR (by assumption))
      | exact joutS h (jz_sI (by assumption))
      | exact joutS h (jz_sB (by assumption))
      | exact joutS h (jz_sR (by assumption))
      | exact joutA (by assumption) h
      | exact jout h (by show jsz μ ≤ jsz μ + 1; omega) (by show jsl μ ≤ jsl μ + _; omega)
      | contradiction
  | getfield _ =>
    simp only [jstep, jld, jlda, jsti, jsta, jbin, jun1, Option.bind_eq_some_iff] at h
    repeat' (first | (refine Exists.elim h (fun _ hh => ?_); clear h; obtain ⟨_, h⟩ := hh) | (rw [Option.bind_eq_some_iff] at h) | split at h)
    all_goals first
      | exact jout0 h
      | exact joutS h (jz_pI (by assumption))
      | exact joutS h (jz_pR (by assumption))
      | exact joutS h (jz_sI (by assumption))
      | exact joutS h (jz_sB (by assumption))
      | exact joutS h (jz_sR (by assumption))
      | exact joutA (by assumption) h
      | exact jout h (by show jsz μ ≤ jsz μ + 1; omega) (by show jsl μ ≤ jsl μ + _; omega)
      | contradiction
  | putfield _ =>
    simp only [jstep, jld, jlda, jsti, jsta, jbin, jun1, Option.bind_eq_some_iff] at h
    repeat' (first | (refine Exists.elim h (fun _ hh => ?_); clear h; obtain ⟨_, h⟩ := hh) | (rw [Option.bind_eq_some_iff] at h) | split at h)
    all_goals first
      | exact jout0 h
      | exact joutS h (jz_pI (by assumption))
      | exact joutS h (jz_pR (by assumption))
      | exact joutS h (jz_sI (by assumption))
      | exact joutS h (jz_sB (by assumption))
      | exact joutS h (jz_sR (by assumption))
      | exact joutA (by assumption) h
      | exact jout h (by show jsz μ ≤ jsz μ + 1; omega) (by show jsl μ ≤ jsl μ + _; omega)
      | contradiction
  | iaload =>
    simp only [jstep, jld, jlda, jsti, jsta, jbin, jun1, Option.bind_eq_some_iff] at h
    repeat' (first | (refine Exists.elim h (fun _ hh => ?_); clear h; obtain ⟨_, h⟩ := hh) | (rw [Option.bind_eq_some_iff] at h) | split at h)
    all_goals first
      | exact jout0 h
      | exact joutS h (jz_pI (by assumption))
      | exact joutS h (jz_pR (by assumption))
      | exact joutS h (jz_sI (by assumption))
      | exact joutS h (jz_sB (by assumption))
      | exact joutS h (jz_sR (by assumption))
      | exact joutA (by assumption) h
      | exact jout h (by show jsz μ ≤ jsz μ + 1; omega) (by show jsl μ ≤ jsl μ + _; omega)
      | contradiction
  | baload =>
    simp only [jstep, jld, jlda, jsti, jsta, jbin, jun1, Option.bind_eq_some_iff] at h
    repeat' (first | (refine Exists.elim h (fun _ hh => ?_); clear h; obtain ⟨_, h⟩ := hh) | (rw [Option.bind_eq_some_iff] at h) | split at h)
    all_goals first
      | exact jout0 h
      | exact joutS h (jz_pI (by assumption))
      | exact joutS h (jz_pR (by assumption))
      | exact joutS h (jz_sI (by assumption))
      | exact joutS h (jz_sB (by assumption))
      | exact joutS h (jz_sR (by assumption))
      | exact joutA (by assumption) h
      | exact jout h (by show jsz μ ≤ jsz μ + 1; omega) (by show jsl μ ≤ jsl μ + _; omega)
      | contradiction
  | aaload =>
    simp only [jstep, jld, jlda, jsti, jsta, jbin, jun1, Option.bind_eq_some_iff] at h
    repeat' (first | (refine Exists.elim h (fun _ hh => ?_); clear h; obtain ⟨_, h⟩ := hh) | (rw [Option.bind_eq_some_iff] at h) | split at h)
    all_goals first
      | exact jout0 h
      | exact joutS h (jz_pI (by assumption))
      | exact joutS h (jz_pR (by assumption))
      | exact joutS h (jz_sI (by assumption))
      | exact joutS h (jz_sB (by assumption))
      | exact joutS h (jz_sR (by assumption))
      | exact joutA (by assumption) h
      | exact jout h (by show jsz μ ≤ jsz μ + 1; omega) (by show jsl μ ≤ jsl μ + _; omega)
      | contradiction
  | iastore =>
    simp only [jstep, jld, jlda, jsti, jsta, jbin, jun1, Option.bind_eq_some_iff] at h
    repeat' (first | (refine Exists.elim h (fun _ hh => ?_); clear h; obtain ⟨_, h⟩ := hh) | (rw [Option.bind_eq_some_iff] at h) | split at h)
    all_goals first
      | exact jout0 h
      | exact joutS h (jz_pI (by assumption))
      | exact joutS h (jz_pR (by assumption))
      | exact joutS h (jz_sI (by assumption))
      | exact joutS h (jz_sB (by assumption))
      | exact joutS h (jz_sR (by assumption))
      | exact joutA (by assumption) h
      | exact jout h (by show jsz μ ≤ jsz μ + 1; omega) (by show jsl μ ≤ jsl μ + _; omega)
      | contradiction
  | bastore =>
    simp only [jstep, jld, jlda, jsti, jsta, jbin, jun1, Option.bind_eq_some_iff] at h
    repeat' (first | (refine Exists.elim h (fun _ hh => ?_); clear h; obtain ⟨_, h⟩ := hh) | (rw [Option.bind_eq_some_iff] at h) | split at h)
    all_goals first
      | exact jout0 h
      | exact joutS h (jz_pI (by assumption))
      | exact joutS h (jz_pR (by assumption))
      | exact joutS h (jz_sI (by assumption))
      | exact joutS h (jz_sB (by assumption))
      | exact joutS h (jz_sR (by assumption))
      | exact joutA (by assumption) h
      | exact jout h (by show jsz μ ≤ jsz μ + 1; omega) (by show jsl μ ≤ jsl μ + _; omega)
      | contradiction
  | aastore =>
    simp only [jstep, jld, jlda, jsti, jsta, jbin, jun1, Option.bind_eq_some_iff] at h
    repeat' (first | (refine Exists.elim h (fun _ hh => ?_); clear h; obtain ⟨_, h⟩ := hh) | (rw [Option.bind_eq_some_iff] at h) | split at h)
    all_goals first
      | exact jout0 h
      | exact joutS h (jz_pI (by assumption))
      | exact joutS h (jz_pR (by assumption))
      | exact joutS h (jz_sI (by assumption))
      | exact joutS h (jz_sB (by assumption))
      | exact joutS h (jz_sR (by assumption))
      | exact joutA (by assumption) h
      | exact jout h (by show jsz μ ≤ jsz μ + 1; omega) (by show jsl μ ≤ jsl μ + _; omega)
      | contradiction
  | arraylength =>
    simp only [jstep, jld, jlda, jsti, jsta, jbin, jun1, Option.bind_eq_some_iff] at h
    repeat' (first | (refine Exists.elim h (fun _ hh => ?_); clear h; obtain ⟨_, h⟩ := hh) | (rw [Option.bind_eq_some_iff] at h) | split at h)
    all_goals first
      | exact jout0 h
      | exact joutS h (jz_pI (by assumption))
      | exact joutS h (jz_pR (by assumption))
      | exact joutS h (jz_sI (by assumption))
      | exact joutS h (jz_sB (by assumption))
      | exact joutS h (jz_sR (by assumption))
      | exact joutA (by assumption) h
      | exact jout h (by show jsz μ ≤ jsz μ + 1; omega) (by show jsl μ ≤ jsl μ + _; omega)
      | contradiction
  | new _ =>
    simp only [jstep, jld, jlda, jsti, jsta, jbin, jun1, Option.bind_eq_some_iff] at h
    repeat' (first | (refine Exists.elim h (fun _ hh => ?_); clear h; obtain ⟨_, h⟩ := hh) | (rw [Option.bind_eq_some_iff] at h) | split at h)
    all_goals first
      | exact jout0 h
      | exact joutS h (jz_pI (by assumption))
      | exact joutS h (jz_pR (by assumption))
      | exact joutS h (jz_sI (by assumption))
      | exact joutS h (jz_sB (by assumption))
      | exact joutS h (jz_sR (by assumption))
      | exact joutA (by assumption) h
      | exact jout h (by show jsz μ ≤ jsz μ + 1; omega) (by show jsl μ ≤ jsl μ + _; omega)
      | contradiction
  | newarray at1 =>
    simp only [jstep] at h
    split at h
    · rw [Option.bind_eq_some_iff] at h
      obtain ⟨y, hy, h⟩ := h
      have hx : ∃ k n, jnA μ k n = some y := by
        cases at1 <;> first | exact ⟨_, _, hy⟩ | cases hy
      obtain ⟨k, n, hx⟩ := hx
      exact joutA hx h
    · cases h
  | anewarray _ =>
    simp only [jstep, jld, jlda, jsti, jsta, jbin, jun1, Option.bind_eq_some_iff] at h
    repeat' (first | (refine Exists.elim h (fun _ hh => ?_); clear h; obtain ⟨_, h⟩ := hh) | (rw [Option.bind_eq_some_iff] at h) | split at h)
    all_goals first
      | exact jout0 h
      | exact joutS h (jz_pI (by assumption))
      | exact joutS h (jz_pR (by assumption))
      | exact joutS h (jz_sI (by assumption))
      | exact joutS h (jz_sB (by assumption))
      | exact joutS h (jz_sR (by assumption))
      | exact joutA (by assumption) h
      | exact jout h (by show jsz μ ≤ jsz μ + 1; omega) (by show jsl μ ≤ jsl μ + _; omega)
      | contradiction
  | multianewarray k nd =>
    have hnd : nd = 2 ∨ nd = 3 := by
      by_cases e2 : nd = 2
      · exact Or.inl e2
      · by_cases e3 : nd = 3
        · exact Or.inr e3
        · exfalso
          first
          | (simp [jstep, e2, e3] at h; done)
          | (unfold jstep at h; split at h <;> simp_all)
    rcases hnd with rfl | rfl
    · simp only [jstep, Option.bind_eq_some_iff] at h
      obtain ⟨q, -, h⟩ := h
      split at h
      · cases h
      · split at h
        · split at h
          · refine jout h ?_ ?_
            · rw [(jfill2_loop _ _ _ _ _ _).2.1]; omega
            · rw [(jfill2_loop _ _ _ _ _ _).2.2]; omega
          · cases h
        · cases h
    · simp only [jstep, Option.bind_eq_some_iff] at h
      obtain ⟨q, -, h⟩ := h
      split at h
      · cases h
      · split at h
        · split at h
          · refine jout h ?_ ?_
            · rw [(jfill3_loop _ _ _ _ _ _ _ _).2.1]; omega
            · rw [(jfill3_loop _ _ _ _ _ _ _ _).2.2]; omega
          · cases h
        · cases h
  | dup =>
    simp only [jstep, jld, jlda, jsti, jsta, jbin, jun1, Option.bind_eq_some_iff] at h
    repeat' (first | (refine Exists.elim h (fun _ hh => ?_); clear h; obtain ⟨_, h⟩ := hh) | (rw [Option.bind_eq_some_iff] at h) | split at h)
    all_goals first
      | exact jout0 h
      | exact joutS h (jz_pI (by assumption))
      | exact joutS h (jz_pR (by assumption))
      | exact joutS h (jz_sI (by assumption))
      | exact joutS h (jz_sB (by assumption))
      | exact joutS h (jz_sR (by assumption))
      | exact joutA (by assumption) h
      | exact jout h (by show jsz μ ≤ jsz μ + 1; omega) (by show jsl μ ≤ jsl μ + _; omega)
      | contradiction
  | dup_x1 =>
    simp only [jstep, jld, jlda, jsti, jsta, jbin, jun1, Option.bind_eq_some_iff] at h
    repeat' (first | (refine Exists.elim h (fun _ hh => ?_); clear h; obtain ⟨_, h⟩ := hh) | (rw [Option.bind_eq_some_iff] at h) | split at h)
    all_goals first
      | exact jout0 h
      | exact joutS h (jz_pI (by assumption))
      | exact joutS h (jz_pR (by assumption))
      | exact joutS h (jz_sI (by assumption))
      | exact joutS h (jz_sB (by assumption))
      | exact joutS h (jz_sR (by assumption))
      | exact joutA (by assumption) h
      | exact jout h (by show jsz μ ≤ jsz μ + 1; omega) (by show jsl μ ≤ jsl μ + _; omega)
      | contradiction
  | dup2 =>
    simp only [jstep, jld, jlda, jsti, jsta, jbin, jun1, Option.bind_eq_some_iff] at h
    repeat' (first | (refine Exists.elim h (fun _ hh => ?_); clear h; obtain ⟨_, h⟩ := hh) | (rw [Option.bind_eq_some_iff] at h) | split at h)
    all_goals first
      | exact jout0 h
      | exact joutS h (jz_pI (by assumption))
      | exact joutS h (jz_pR (by assumption))
      | exact joutS h (jz_sI (by assumption))
      | exact joutS h (jz_sB (by assumption))
      | exact joutS h (jz_sR (by assumption))
      | exact joutA (by assumption) h
      | exact jout h (by show jsz μ ≤ jsz μ + 1; omega) (by show jsl μ ≤ jsl μ + _; omega)
      | contradiction
  | pop =>
    simp only [jstep, jld, jlda, jsti, jsta, jbin, jun1, Option.bind_eq_some_iff] at h
    repeat' (first | (refine Exists.elim h (fun _ hh => ?_); clear h; obtain ⟨_, h⟩ := hh) | (rw [Option.bind_eq_some_iff] at h) | split at h)
    all_goals first
      | exact jout0 h
      | exact joutS h (jz_pI (by assumption))
      | exact joutS h (jz_pR (by assumption))
      | exact joutS h (jz_sI (by assumption))
      | exact joutS h (jz_sB (by assumption))
      | exact joutS h (jz_sR (by assumption))
      | exact joutA (by assumption) h
      | exact jout h (by show jsz μ ≤ jsz μ + 1; omega) (by show jsl μ ≤ jsl μ + _; omega)
      | contradiction
  | iadd =>
    simp only [jstep, jld, jlda, jsti, jsta, jbin, jun1, Option.bind_eq_some_iff] at h
    repeat' (first | (refine Exists.elim h (fun _ hh => ?_); clear h; obtain ⟨_, h⟩ := hh) | (rw [Option.bind_eq_some_iff] at h) | split at h)
    all_goals first
      | exact jout0 h
      | exact joutS h (jz_pI (by assumption))
      | exact joutS h (jz_pR (by assumption))
      | exact joutS h (jz_sI (by assumption))
      | exact joutS h (jz_sB (by assumption))
      | exact joutS h (jz_sR (by assumption))
      | exact joutA (by assumption) h
      | exact jout h (by show jsz μ ≤ jsz μ + 1; omega) (by show jsl μ ≤ jsl μ + _; omega)
      | contradiction
  | isub =>
    simp only [jstep, jld, jlda, jsti, jsta, jbin, jun1, Option.bind_eq_some_iff] at h
    repeat' (first | (refine Exists.elim h (fun _ hh => ?_); clear h; obtain ⟨_, h⟩ := hh) | (rw [Option.bind_eq_some_iff] at h) | split at h)
    all_goals first
      | exact jout0 h
      | exact joutS h (jz_pI (by assumption))
      | exact joutS h (jz_pR (by assumption))
      | exact joutS h (jz_sI (by assumption))
      | exact joutS h (jz_sB (by assumption))
      | exact joutS h (jz_sR (by assumption))
      | exact joutA (by assumption) h
      | exact jout h (by show jsz μ ≤ jsz μ + 1; omega) (by show jsl μ ≤ jsl μ + _; omega)
      | contradiction
  | imul =>
    simp only [jstep, jld, jlda, jsti, jsta, jbin, jun1, Option.bind_eq_some_iff] at h
    repeat' (first | (refine Exists.elim h (fun _ hh => ?_); clear h; obtain ⟨_, h⟩ := hh) | (rw [Option.bind_eq_some_iff] at h) | split at h)
    all_goals first
      | exact jout0 h
      | exact joutS h (jz_pI (by assumption))
      | exact joutS h (jz_pR (by assumption))
      | exact joutS h (jz_sI (by assumption))
      | exact joutS h (jz_sB (by assumption))
      | exact joutS h (jz_sR (by assumption))
      | exact joutA (by assumption) h
      | exact jout h (by show jsz μ ≤ jsz μ + 1; omega) (by show jsl μ ≤ jsl μ + _; omega)
      | contradiction
  | iand =>
    simp only [jstep, jld, jlda, jsti, jsta, jbin, jun1, Option.bind_eq_some_iff] at h
    repeat' (first | (refine Exists.elim h (fun _ hh => ?_); clear h; obtain ⟨_, h⟩ := hh) | (rw [Option.bind_eq_some_iff] at h) | split at h)
    all_goals first
      | exact jout0 h
      | exact joutS h (jz_pI (by assumption))
      | exact joutS h (jz_pR (by assumption))
      | exact joutS h (jz_sI (by assumption))
      | exact joutS h (jz_sB (by assumption))
      | exact joutS h (jz_sR (by assumption))
      | exact joutA (by assumption) h
      | exact jout h (by show jsz μ ≤ jsz μ + 1; omega) (by show jsl μ ≤ jsl μ + _; omega)
      | contradiction
  | ior =>
    simp only [jstep, jld, jlda, jsti, jsta, jbin, jun1, Option.bind_eq_some_iff] at h
    repeat' (first | (refine Exists.elim h (fun _ hh => ?_); clear h; obtain ⟨_, h⟩ := hh) | (rw [Option.bind_eq_some_iff] at h) | split at h)
    all_goals first
      | exact jout0 h
      | exact joutS h (jz_pI (by assumption))
      | exact joutS h (jz_pR (by assumption))
      | exact joutS h (jz_sI (by assumption))
      | exact joutS h (jz_sB (by assumption))
      | exact joutS h (jz_sR (by assumption))
      | exact joutA (by assumption) h
      | exact jout h (by show jsz μ ≤ jsz μ + 1; omega) (by show jsl μ ≤ jsl μ + _; omega)
      | contradiction
  | ishl =>
    simp only [jstep, jld, jlda, jsti, jsta, jbin, jun1, Option.bind_eq_some_iff] at h
    repeat' (first | (refine Exists.elim h (fun _ hh => ?_); clear h; obtain ⟨_, h⟩ := hh) | (rw [Option.bind_eq_some_iff] at h) | split at h)
    all_goals first
      | exact jout0 h
      | exact joutS h (jz_pI (by assumption))
      | exact joutS h (jz_pR (by assumption))
      | exact joutS h (jz_sI (by assumption))
      | exact joutS h (jz_sB (by assumption))
      | exact joutS h (jz_sR (by assumption))
      | exact joutA (by assumption) h
      | exact jout h (by show jsz μ ≤ jsz μ + 1; omega) (by show jsl μ ≤ jsl μ + _; omega)
      | contradiction
  | ishr =>
    simp only [jstep, jld, jlda, jsti, jsta, jbin, jun1, Option.bind_eq_some_iff] at h
    repeat' (first | (refine Exists.elim h (fun _ hh => ?_); clear h; obtain ⟨_, h⟩ := hh) | (rw [Option.bind_eq_some_iff] at h) | split at h)
    all_goals first
      | exact jout0 h
      | exact joutS h (jz_pI (by assumption))
      | exact joutS h (jz_pR (by assumption))
      | exact joutS h (jz_sI (by assumption))
      | exact joutS h (jz_sB (by assumption))
      | exact joutS h (jz_sR (by assumption))
      | exact joutA (by assumption) h
      | exact jout h (by show jsz μ ≤ jsz μ + 1; omega) (by show jsl μ ≤ jsl μ + _; omega)
      | contradiction
  | iushr =>
    simp only [jstep, jld, jlda, jsti, jsta, jbin, jun1, Option.bind_eq_some_iff] at h
    repeat' (first | (refine Exists.elim h (fun _ hh => ?_); clear h; obtain ⟨_, h⟩ := hh) | (rw [Option.bind_eq_some_iff] at h) | split at h)
    all_goals first
      | exact jout0 h
      | exact joutS h (jz_pI (by assumption))
      | exact joutS h (jz_pR (by assumption))
      | exact joutS h (jz_sI (by assumption))
      | exact joutS h (jz_sB (by assumption))
      | exact joutS h (jz_sR (by assumption))
      | exact joutA (by assumption) h
      | exact jout h (by show jsz μ ≤ jsz μ + 1; omega) (by show jsl μ ≤ jsl μ + _; omega)
      | contradiction
  | idiv =>
    simp only [jstep, jld, jlda, jsti, jsta, jbin, jun1, Option.bind_eq_some_iff] at h
    repeat' (first | (refine Exists.elim h (fun _ hh => ?_); clear h; obtain ⟨_, h⟩ := hh) | (rw [Option.bind_eq_some_iff] at h) | split at h)
    all_goals first
      | exact jout0 h
      | exact joutS h (jz_pI (by assumption))
      | exact joutS h (jz_pR (by assumption))
      | exact joutS h (jz_sI (by assumption))
      | exact joutS h (jz_sB (by assumption))
      | exact joutS h (jz_sR (by assumption))
      | exact joutA (by assumption) h
      | exact jout h (by show jsz μ ≤ jsz μ + 1; omega) (by show jsl μ ≤ jsl μ + _; omega)
      | contradiction
  | irem =>
    simp only [jstep, jld, jlda, jsti, jsta, jbin, jun1, Option.bind_eq_some_iff] at h
    repeat' (first | (refine Exists.elim h (fun _ hh => ?_); clear h; obtain ⟨_, h⟩ := hh) | (rw [Option.bind_eq_some_iff] at h) | split at h)
    all_goals first
      | exact jout0 h
      | exact joutS h (jz_pI (by assumption))
      | exact joutS h (jz_pR (by assumption))
      | exact joutS h (jz_sI (by assumption))
      | exact joutS h (jz_sB (by assumption))
      | exact joutS h (jz_sR (by assumption))
      | exact joutA (by assumption) h
      | exact jout h (by show jsz μ ≤ jsz μ + 1; omega) (by show jsl μ ≤ jsl μ + _; omega)
      | contradiction
  | ineg =>
    simp only [jstep, jld, jlda, jsti, jsta, jbin, jun1, Option.bind_eq_some_iff] at h
    repeat' (first | (refine Exists.elim h (fun _ hh => ?_); clear h; obtain ⟨_, h⟩ := hh) | (rw [Option.bind_eq_some_iff] at h) | split at h)
    all_goals first
      | exact jout0 h
      | exact joutS h (jz_pI (by assumption))
      | exact joutS h (jz_pR (by assumption))
      | exact joutS h (jz_sI (by assumption))
      | exact joutS h (jz_sB (by assumption))
      | exact joutS h (jz_sR (by assumption))
      | exact joutA (by assumption) h
      | exact jout h (by show jsz μ ≤ jsz μ + 1; omega) (by show jsl μ ≤ jsl μ + _; omega)
      | contradiction
  | i2b =>
    simp only [jstep, jld, jlda, jsti, jsta, jbin, jun1, Option.bind_eq_some_iff] at h
    repeat' (first | (refine Exists.elim h (fun _ hh => ?_); clear h; obtain ⟨_, h⟩ := hh) | (rw [Option.bind_eq_some_iff] at h) | split at h)
    all_goals first
      | exact jout0 h
      | exact joutS h (jz_pI (by assumption))
      | exact joutS h (jz_pR (by assumption))
      | exact joutS h (jz_sI (by assumption))
      | exact joutS h (jz_sB (by assumption))
      | exact joutS h (jz_sR (by assumption))
      | exact joutA (by assumption) h
      | exact jout h (by show jsz μ ≤ jsz μ + 1; omega) (by show jsl μ ≤ jsl μ + _; omega)
      | contradiction
  | i2s =>
    simp only [jstep, jld, jlda, jsti, jsta, jbin, jun1, Option.bind_eq_some_iff] at h
    repeat' (first | (refine Exists.elim h (fun _ hh => ?_); clear h; obtain ⟨_, h⟩ := hh) | (rw [Option.bind_eq_some_iff] at h) | split at h)
    all_goals first
      | exact jout0 h
      | exact joutS h (jz_pI (by assumption))
      | exact joutS h (jz_pR (by assumption))
      | exact joutS h (jz_sI (by assumption))
      | exact joutS h (jz_sB (by assumption))
      | exact joutS h (jz_sR (by assumption))
      | exact joutA (by assumption) h
      | exact jout h (by show jsz μ ≤ jsz μ + 1; omega) (by show jsl μ ≤ jsl μ + _; omega)
      | contradiction
  | i2c =>
    simp only [jstep, jld, jlda, jsti, jsta, jbin, jun1, Option.bind_eq_some_iff] at h
    repeat' (first | (refine Exists.elim h (fun _ hh => ?_); clear h; obtain ⟨_, h⟩ := hh) | (rw [Option.bind_eq_some_iff] at h) | split at h)
    all_goals first
      | exact jout0 h
      | exact joutS h (jz_pI (by assumption))
      | exact joutS h (jz_pR (by assumption))
      | exact joutS h (jz_sI (by assumption))
      | exact joutS h (jz_sB (by assumption))
      | exact joutS h (jz_sR (by assumption))
      | exact joutA (by assumption) h
      | exact jout h (by show jsz μ ≤ jsz μ + 1; omega) (by show jsl μ ≤ jsl μ + _; omega)
      | contradiction
  | i2l =>
    simp only [jstep, jld, jlda, jsti, jsta, jbin, jun1, Option.bind_eq_some_iff] at h
    repeat' (first | (refine Exists.elim h (fun _ hh => ?_); clear h; obtain ⟨_, h⟩ := hh) | (rw [Option.bind_eq_some_iff] at h) | split at h)
    all_goals first
      | exact jout0 h
      | exact joutS h (jz_pI (by assumption))
      | exact joutS h (jz_pR (by assumption))
      | exact joutS h (jz_sI (by assumption))
      | exact joutS h (jz_sB (by assumption))
      | exact joutS h (jz_sR (by assumption))
      | exact joutA (by assumption) h
      | exact jout h (by show jsz μ ≤ jsz μ + 1; omega) (by show jsl μ ≤ jsl μ + _; omega)
      | contradiction
  | lcmp =>
    simp only [jstep, jld, jlda, jsti, jsta, jbin, jun1, Option.bind_eq_some_iff] at h
    repeat' (first | (refine Exists.elim h (fun _ hh => ?_); clear h; obtain ⟨_, h⟩ := hh) | (rw [Option.bind_eq_some_iff] at h) | split at h)
    all_goals first
      | exact jout0 h
      | exact joutS h (jz_pI (by assumption))
      | exact joutS h (jz_pR (by assumption))
      | exact joutS h (jz_sI (by assumption))
      | exact joutS h (jz_sB (by assumption))
      | exact joutS h (jz_sR (by assumption))
      | exact joutA (by assumption) h
      | exact jout h (by show jsz μ ≤ jsz μ + 1; omega) (by show jsl μ ≤ jsl μ + _; omega)
      | contradiction
  | ifCond _ _ =>
    simp only [jstep, jld, jlda, jsti, jsta, jbin, jun1, Option.bind_eq_some_iff] at h
    repeat' (first | (refine Exists.elim h (fun _ hh => ?_); clear h; obtain ⟨_, h⟩ := hh) | (rw [Option.bind_eq_some_iff] at h) | split at h)
    all_goals first
      | exact jout0 h
      | exact joutS h (jz_pI (by assumption))
      | exact joutS h (jz_pR (by assumption))
      | exact joutS h (jz_sI (by assumption))
      | exact joutS h (jz_sB (by assumption))
      | exact joutS h (jz_sR (by assumption))
      | exact joutA (by assumption) h
      | exact jout h (by show jsz μ ≤ jsz μ + 1; omega) (by show jsl μ ≤ jsl μ + _; omega)
      | contradiction
  | if_icmp _ _ =>
    simp only [jstep, jld, jlda, jsti, jsta, jbin, jun1, Option.bind_eq_some_iff] at h
    repeat' (first | (refine Exists.elim h (fun _ hh => ?_); clear h; obtain ⟨_, h⟩ := hh) | (rw [Option.bind_eq_some_iff] at h) | split at h)
    all_goals first
      | exact jout0 h
      | exact joutS h (jz_pI (by assumption))
      | exact joutS h (jz_pR (by assumption))
      | exact joutS h (jz_sI (by assumption))
      | exact joutS h (jz_sB (by assumption))
      | exact joutS h (jz_sR (by assumption))
      | exact joutA (by assumption) h
      | exact jout h (by show jsz μ ≤ jsz μ + 1; omega) (by show jsl μ ≤ jsl μ + _; omega)
      | contradiction
  | ifnull _ =>
    simp only [jstep, jld, jlda, jsti, jsta, jbin, jun1, Option.bind_eq_some_iff] at h
    repeat' (first | (refine Exists.elim h (fun _ hh => ?_); clear h; obtain ⟨_, h⟩ := hh) | (rw [Option.bind_eq_some_iff] at h) | split at h)
    all_goals first
      | exact jout0 h
      | exact joutS h (jz_pI (by assumption))
      | exact joutS h (jz_pR (by assumption))
      | exact joutS h (jz_sI (by assumption))
      | exact joutS h (jz_sB (by assumption))
      | exact joutS h (jz_sR (by assumption))
      | exact joutA (by assumption) h
      | exact jout h (by show jsz μ ≤ jsz μ + 1; omega) (by show jsl μ ≤ jsl μ + _; omega)
      | contradiction
  | ifnonnull _ =>
    simp only [jstep, jld, jlda, jsti, jsta, jbin, jun1, Option.bind_eq_some_iff] at h
    repeat' (first | (refine Exists.elim h (fun _ hh => ?_); clear h; obtain ⟨_, h⟩ := hh) | (rw [Option.bind_eq_some_iff] at h) | split at h)
    all_goals first
      | exact jout0 h
      | exact joutS h (jz_pI (by assumption))
      | exact joutS h (jz_pR (by assumption))
      | exact joutS h (jz_sI (by assumption))
      | exact joutS h (jz_sB (by assumption))
      | exact joutS h (jz_sR (by assumption))
      | exact joutA (by assumption) h
      | exact jout h (by show jsz μ ≤ jsz μ + 1; omega) (by show jsl μ ≤ jsl μ + _; omega)
      | contradiction
  | goto _ =>
    simp only [jstep, jld, jlda, jsti, jsta, jbin, jun1, Option.bind_eq_some_iff] at h
    repeat' (first | (refine Exists.elim h (fun _ hh => ?_); clear h; obtain ⟨_, h⟩ := hh) | (rw [Option.bind_eq_some_iff] at h) | split at h)
    all_goals first
      | exact jout0 h
      | exact joutS h (jz_pI (by assumption))
      | exact joutS h (jz_pR (by assumption))
      | exact joutS h (jz_sI (by assumption))
      | exact joutS h (jz_sB (by assumption))
      | exact joutS h (jz_sR (by assumption))
      | exact joutA (by assumption) h
      | exact jout h (by show jsz μ ≤ jsz μ + 1; omega) (by show jsl μ ≤ jsl μ + _; omega)
      | contradiction
  | tableswitch _ _ _ _ =>
    simp only [jstep, jld, jlda, jsti, jsta, jbin, jun1, Option.bind_eq_some_iff] at h
    repeat' (first | (refine Exists.elim h (fun _ hh => ?_); clear h; obtain ⟨_, h⟩ := hh) | (rw [Option.bind_eq_some_iff] at h) | split at h)
    all_goals first
      | exact jout0 h
      | exact joutS h (jz_pI (by assumption))
      | exact joutS h (jz_pR (by assumption))
      | exact joutS h (jz_sI (by assumption))
      | exact joutS h (jz_sB (by assumption))
      | exact joutS h (jz_sR (by assumption))
      | exact joutA (by assumption) h
      | exact jout h (by show jsz μ ≤ jsz μ + 1; omega) (by show jsl μ ≤ jsl μ + _; omega)
      | contradiction
  | lookupswitch _ _ =>
    simp only [jstep, jld, jlda, jsti, jsta, jbin, jun1, Option.bind_eq_some_iff] at h
    repeat' (first | (refine Exists.elim h (fun _ hh => ?_); clear h; obtain ⟨_, h⟩ := hh) | (rw [Option.bind_eq_some_iff] at h) | split at h)
    all_goals first
      | exact jout0 h
      | exact joutS h (jz_pI (by assumption))
      | exact joutS h (jz_pR (by assumption))
      | exact joutS h (jz_sI (by assumption))
      | exact joutS h (jz_sB (by assumption))
      | exact joutS h (jz_sR (by assumption))
      | exact joutA (by assumption) h
      | exact jout h (by show jsz μ ≤ jsz μ + 1; omega) (by show jsl μ ≤ jsl μ + _; omega)
      | contradiction
  | iinc _ _ =>
    simp only [jstep, jld, jlda, jsti, jsta, jbin, jun1, Option.bind_eq_some_iff] at h
    repeat' (first | (refine Exists.elim h (fun _ hh => ?_); clear h; obtain ⟨_, h⟩ := hh) | (rw [Option.bind_eq_some_iff] at h) | split at h)
    all_goals first
      | exact jout0 h
      | exact joutS h (jz_pI (by assumption))
      | exact joutS h (jz_pR (by assumption))
      | exact joutS h (jz_sI (by assumption))
      | exact joutS h (jz_sB (by assumption))
      | exact joutS h (jz_sR (by assumption))
      | exact joutA (by assumption) h
      | exact jout h (by show jsz μ ≤ jsz μ + 1; omega) (by show jsl μ ≤ jsl μ + _; omega)
      | contradiction
  | checkcast _ =>
    simp only [jstep, jld, jlda, jsti, jsta, jbin, jun1, Option.bind_eq_some_iff] at h
    repeat' (first | (refine Exists.elim h (fun _ hh => ?_); clear h; obtain ⟨_, h⟩ := hh) | (rw [Option.bind_eq_some_iff] at h) | split at h)
    all_goals first
      | exact jout0 h
      | exact joutS h (jz_pI (by assumption))
      | exact joutS h (jz_pR (by assumption))
      | exact joutS h (jz_sI (by assumption))
      | exact joutS h (jz_sB (by assumption))
      | exact joutS h (jz_sR (by assumption))
      | exact joutA (by assumption) h
      | exact jout h (by show jsz μ ≤ jsz μ + 1; omega) (by show jsl μ ≤ jsl μ + _; omega)
      | contradiction
  | _ => exact absurd h (by simp [jstep])
/-- each step of the small machine is one of the machine's -/
theorem so_next {i : Instr} (hr : isRet i = false) (hv : isInv i = false) (C : Cx s0 args0 D p R s m meth c d mi) (hpg : gPG mi pc = some i) (hL : LocOk la (gML mi) L) (hH : Hok s0 D μ H) (hq : ∀ q ∈ locs, s0.heap.size ≤ q.base) {pc' : Nat} {L' st' : List Value} {μ' : jM} (hs : jstep (gRS mi) (gKV mi) (gRC mi) (gIK mi) i pc L st μ = some (.inl (pc', L', st', μ'))) (hc : cells + (jsz μ' - jsz μ) ≤ R.cells) (hsl : slots + (jsl μ' - jsl μ) ≤ R.slots)
    (kk : ∀ (la' : Array Slot) (H' : Heap) (locs' : List Loc), LocOk la' (gML mi) L' → Hok s0 D μ' H' → (∀ q ∈ locs', s0.heap.size ≤ q.base) → W p l e R s m args below meth c H' locs' (cells + (jsz μ' - jsz μ)) (slots + (jsl μ' - jsl μ)) Q (F0 m pc' la' st')) : W p l e R s m args below meth c H locs cells slots Q (F0 m pc la st) := by
  cases i with
  | aload_n _ => exact so_aload_n C hpg hL hH hq hs hc hsl kk
  | aload _ => exact so_aload C hpg hL hH hq hs hc hsl kk
  | iload_n _ => exact so_iload_n C hpg hL hH hq hs hc hsl kk
  | iload _ => exact so_iload C hpg hL hH hq hs hc hsl kk
  | istore_n _ => exact so_istore_n C hpg hL hH hq hs hc hsl kk
  | istore _ => exact so_istore C hpg hL hH hq hs hc hsl kk
  | astore_n _ => exact so_astore_n C hpg hL hH hq hs hc hsl kk
  | astore _ => exact so_astore C hpg hL hH hq hs hc hsl kk
  | iconst _ => exact so_iconst C hpg hL hH hq hs hc hsl kk
  | bipush _ => exact so_bipush C hpg hL hH hq hs hc hsl kk
  | sipush _ => exact so_sipush C hpg hL hH hq hs hc hsl kk
  | aconst_null => exact so_aconst_null C hpg hL hH hq hs hc hsl kk
  | ldc _ => exact so_ldc C hpg hL hH hq hs hc hsl kk
  | ldc_w _ => exact so_ldc_w C hpg hL hH hq hs hc hsl kk
  | ldc2_w _ => exact so_ldc2_w C hpg hL hH hq hs hc hsl kk
  | getstatic _ => exact so_getstatic C hpg hL hH hq hs hc hsl kk
  | getfield _ => exact so_getfield C hpg hL hH hq hs hc hsl kk
  | putfield _ => exact so_putfield C hpg hL hH hq hs hc hsl kk
  | iaload => exact so_iaload C hpg hL hH hq hs hc hsl kk
  | baload => exact so_baload C hpg hL hH hq hs hc hsl kk
  | aaload => exact so_aaload C hpg hL hH hq hs hc hsl kk
  | iastore => exact so_iastore C hpg hL hH hq hs hc hsl kk
  | bastore => exact so_bastore C hpg hL hH hq hs hc hsl kk
  | aastore => exact so_aastore C hpg hL hH hq hs hc hsl kk
  | arraylength => exact so_arraylength C hpg hL hH hq hs hc hsl kk
  | new _ => exact so_new C hpg hL hH hq hs hc hsl kk
  | newarray _ => exact so_newarray C hpg hL hH hq hs hc hsl kk
  | anewarray _ => exact so_anewarray C hpg hL hH hq hs hc hsl kk
  | multianewarray _ _ => exact so_multianewarray C hpg hL hH hq hs hc hsl kk
  | dup => exact so_dup C hpg hL hH hq hs hc hsl kk
  | dup_x1 => exact so_dup_x1 C hpg hL hH hq hs hc hsl kk
  | dup2 => exact so_dup2 C hpg hL hH hq hs hc hsl kk
  | pop => exact so_pop C hpg hL hH hq hs hc hsl kk
  | iadd => exact so_iadd C hpg hL hH hq hs hc hsl kk
  | isub => exact so_isub C hpg hL hH hq hs hc hsl kk
  | imul => exact so_imul C hpg hL hH hq hs hc hsl kk
  | iand => exact so_iand C hpg hL hH hq hs hc hsl kk
  | ior => exact so_ior C hpg hL hH hq hs hc hsl kk
  | ishl => exact so_ishl C hpg hL hH hq hs hc hsl kk
  | ishr => exact so_ishr C hpg hL hH hq hs hc hsl kk
  | iushr => exact so_iushr C hpg hL hH hq hs hc hsl kk
  | idiv => exact so_idiv C hpg hL hH hq hs hc hsl kk
  | irem => exact so_irem C hpg hL hH hq hs hc hsl kk
  | ineg => exact so_ineg C hpg hL hH hq hs hc hsl kk
  | i2b => exact so_i2b C hpg hL hH hq hs hc hsl kk
  | i2s => exact so_i2s C hpg hL hH hq hs hc hsl kk
  | i2c => exact so_i2c C hpg hL hH hq hs hc hsl kk
  | i2l => exact so_i2l C hpg hL hH hq hs hc hsl kk
  | lcmp => exact so_lcmp C hpg hL hH hq hs hc hsl kk
  | ifCond _ _ => exact so_ifCond C hpg hL hH hq hs hc hsl kk
  | if_icmp _ _ => exact so_if_icmp C hpg hL hH hq hs hc hsl kk
  | ifnull _ => exact so_ifnull C hpg hL hH hq hs hc hsl kk
  | ifnonnull _ => exact so_ifnonnull C hpg hL hH hq hs hc hsl kk
  | goto _ => exact so_goto C hpg hL hH hq hs hc hsl kk
  | tableswitch _ _ _ _ => exact so_tableswitch C hpg hL hH hq hs hc hsl kk
  | lookupswitch _ _ => exact so_lookupswitch C hpg hL hH hq hs hc hsl kk
  | iinc _ _ => exact so_iinc C hpg hL hH hq hs hc hsl kk
  | checkcast _ => exact so_checkcast C hpg hL hH hq hs hc hsl kk
  | ireturn => cases hr
  | lreturn => cases hr
  | areturn => cases hr
  | return_ => cases hr
  | invokevirtual _ => cases hv
  | invokespecial _ => cases hv
  | invokestatic _ => cases hv
  | _ => exact absurd hs (by simp [jstep])
theorem jinv_out {u : Nat} {r : Option (Nat × Nat × Nat × Nat × Nat)} {o : jO} (h : jinv u r pc L st μ = some o) : ∃ cc as rest, o = .inr (.inr (cc, as, rest)) := by
  simp only [jinv, Option.bind_eq_some_iff] at h
  obtain ⟨q, -, h⟩ := h
  repeat' (first | (refine Exists.elim h (fun _ hh => ?_); clear h; obtain ⟨_, h⟩ := hh) | (rw [Option.bind_eq_some_iff] at h) | split at h)
  all_goals first
    | (cases h; exact ⟨_, _, _, rfl⟩)
    | contradiction
theorem jret_out {RS : Nat → Option (Nat × Nat × Nat × Nat × Nat)} {KV : Nat → Option (Value ⊕ Nat)} {rc ik : Nat} {i : Instr} {o : jO} (hi : i = .ireturn ∨ i = .lreturn ∨ i = .areturn ∨ i = .return_) (h : jstep RS KV rc ik i pc L st μ = some o) : ∃ v, o = .inr (.inl (v, μ)) := by
  rcases hi with rfl | rfl | rfl | rfl
  all_goals
    simp only [jstep] at h
    repeat' split at h
  all_goals first
    | (cases h; exact ⟨_, rfl⟩)
    | contradiction
theorem rz {q : Nat × Nat × Nat × Nat × Nat} (sh : rshape q = true) (hu : juse q.2.2.2.2 ≠ 0) : (q.1 = 0 → q.2.2.2.2 = 18) ∧ (q.1 = 1 → q.2.2.2.2 = 19) ∧ (q.1 = 2 → q.2.2.2.2 = 20) ∧ (3 ≤ q.1 → 11 ≤ q.1 ∧ q.1 < 313) := by
  obtain ⟨a, na, ka, ca, z⟩ := q
  have hu2 : juse z ≠ 0 := hu
  have hz : z = 10 ∨ z = 11 ∨ z = 12 ∨ z = 13 ∨ z = 14 ∨ z = 15 ∨ z = 16 ∨ z = 17 ∨ z = 18 ∨ z = 19 ∨ z = 20 ∨ z = 21 := by
    unfold juse at hu2
    split at hu2
    · omega
    · split at hu2
      · omega
      · split at hu2
        · omega
        · exact absurd rfl hu2
  have big : Nat.ble 11 a = true → Nat.blt a 313 = true → (a = 0 → z = 18) ∧ (a = 1 → z = 19) ∧ (a = 2 → z = 20) ∧ (3 ≤ a → 11 ≤ a ∧ a < 313) := by
    intro h1 h2
    have h1 := Nat.le_of_ble_eq_true h1
    have h2 : a < 313 := Nat.le_of_ble_eq_true h2
    exact ⟨fun g => by omega, fun g => by omega, fun g => by omega, fun _ => ⟨h1, h2⟩⟩
  show (a = 0 → z = 18) ∧ (a = 1 → z = 19) ∧ (a = 2 → z = 20) ∧ (3 ≤ a → 11 ≤ a ∧ a < 313)
  rcases hz with rfl | rfl | rfl | rfl | rfl | rfl | rfl | rfl | rfl | rfl | rfl | rfl
  all_goals simp only [rshape, Bool.and_eq_true, beq_iff_eq] at sh
  · exact big sh.1.1.1.1 sh.1.1.1.2
  · exact big sh.1.1.1.1 sh.1.1.1.2
  · exact big sh.1.1.1 sh.1.1.2
  · exact big sh.1.1.1 sh.1.1.2
  · exact big sh.1.1.1.1.1 sh.1.1.1.1.2
  · exact big sh.1.1.1.1.1 sh.1.1.1.1.2
  · exact big sh.1.1.1.1 sh.1.1.1.2
  · exact big sh.1.1.1.1 sh.1.1.1.2
  · have := sh.1.1; exact ⟨fun _ => rfl, fun g => by omega, fun g => by omega, fun g => by omega⟩
  · have := sh.1; exact ⟨fun g => by omega, fun _ => rfl, fun g => by omega, fun g => by omega⟩
  · have := sh.1.1; exact ⟨fun g => by omega, fun g => by omega, fun _ => rfl, fun g => by omega⟩
  · exact big sh.1.1.1.1 sh.1.1.1.2
theorem r_len : gRL.all (fun l => l.all (fun e => !(Nat.ble 11 e.2.1) || juse e.2.2.2.2.2 == 0 || Nat.ble e.2.2.1 (gML e.2.1))) = true := by decide +kernel
theorem r_fits {mi idx : Nat} {q : Nat × Nat × Nat × Nat × Nat} (h : gRS mi idx = some q) (hu : juse q.2.2.2.2 ≠ 0) (h11 : 11 ≤ q.1) : q.2.1 ≤ gML q.1 := by
  have h1 := lookup_mem h
  have h2 := List.all_eq_true.mp r_len
  have h3 : gRL.getD (gOW mi) [] ∈ gRL ∨ gRL.getD (gOW mi) [] = [] := by
    rw [List.getD_eq_getElem?_getD]
    cases e : gRL[gOW mi]? with
    | none => exact Or.inr rfl
    | some l => exact Or.inl (List.mem_of_getElem? e)
  rcases h3 with h3 | h3
  · have h4 := List.all_eq_true.mp (h2 _ h3) _ h1
    simp only [Bool.or_eq_true, Bool.not_eq_true', beq_iff_eq] at h4
    rcases h4 with (h4 | h4) | h4
    · have h5 := Nat.ble_eq_true_of_le h11
      have h4 : Nat.ble 11 q.1 = false := h4
      rw [h5] at h4; cases h4
    · exact absurd h4 hu
    · exact Nat.le_of_ble_eq_true h4
  · rw [h3] at h1; cases h1
theorem r_mth : gRL.all (fun l => l.all (fun e => !(e.2.1 == 279 || e.2.1 == 280) || juse e.2.2.2.2.2 == 0 || (e.2.2.2.2.2 == 12 && e.2.2.1 == 2))) = true := by decide +kernel
theorem r_math {mi idx : Nat} {q : Nat × Nat × Nat × Nat × Nat} (h : gRS mi idx = some q) (hu : juse q.2.2.2.2 ≠ 0) (hq : q.1 = 279 ∨ q.1 = 280) : q.2.2.2.2 = 12 ∧ q.2.1 = 2 := by
  have h1 := lookup_mem h
  have h2 := List.all_eq_true.mp r_mth
  have h3 : gRL.getD (gOW mi) [] ∈ gRL ∨ gRL.getD (gOW mi) [] = [] := by
    rw [List.getD_eq_getElem?_getD]
    cases e : gRL[gOW mi]? with
    | none => exact Or.inr rfl
    | some l => exact Or.inl (List.mem_of_getElem? e)
  rcases h3 with h3 | h3
  · have h4 := List.all_eq_true.mp (h2 _ h3) _ h1
    have h5 : (q.1 == 279 || q.1 == 280) = true := by simpa using hq
    simp only [h5, Bool.not_true, Bool.false_or, Bool.or_eq_true, Bool.and_eq_true, beq_iff_eq] at h4
    rcases h4 with h4 | h4
    · exact absurd h4 hu
    · exact h4
  · rw [h3] at h1; cases h1
/-- what a callee's run gives of its contract -/
theorem cmet_of {cc d' : Nat} {as : List Value} {r : Option Value × jM} (h11 : 11 ≤ cc) (h313 : cc < 313) (hnm2 : ¬ (cc = 279 ∨ cc = 280)) (hw0 : ∀ w ∈ lw_tbl, w.before args0 s0 = true) (hK0 : va_K D vwCl [] s0) (hlen : as.length ≤ gML cc) (hcat : as.all jcat1 = true)
    (hrun : ∀ {p : Program} {e : Env} {R : Room} {s : State} {m : MethodId} {args : Array Value} {below : List Frame} {meth : Method} {c : Code} {H : Heap} {locs : List Loc} {cells slots mc ms : Nat} {la : Array Slot} {Qc : Array Value → State → Outcome → State → Prop} {free : Addr → Prop}, Cx s0 args0 D p R s m meth c d' cc → rcok (gRC cc) (gRt cc) = true → LocOk la (gML cc) (jentry (gML cc) as) → Hok s0 D μ H → (∀ q ∈ locs, s0.heap.size ≤ q.base) → (∀ q, s0.heap.size ≤ q → free q) → cells + (jsz r.2 - jsz μ) ≤ mc → slots + (jsl r.2 - jsl μ) ≤ ms → mc ≤ R.cells → ms ≤ R.slots →
      (∀ t : State, Hok s0 D r.2 t.heap → s.WarmedH t.vm → Qc args s (.returned r.1) t) → W p l e R s m args below meth c H locs cells slots (MQ below Qc args s mc ms free) (F0 m 0 la [])) : CMet l s0 D cc d' as μ r := by
  have hsh := m_shape h11 h313
  unfold mshape at hsh
  simp only [Bool.and_eq_true, decide_eq_true_eq, Bool.or_eq_true, beq_iff_eq] at hsh
  obtain ⟨⟨⟨⟨⟨⟨⟨m1, m2⟩, m3⟩, m4⟩, m5⟩, m6⟩, m7⟩, m8⟩ := hsh
  have m1 := m1.resolve_right (fun h => hnm2 h)
  unfold CMet
  refine Met.ofW (cc := gB cc) (maxL := gML cc) (ret := gRt cc) m1 rfl ?_
  intro p e s m args below meth c s₁ B hml hP
  obtain ⟨rfl, hWm, hHok⟩ := hP
  have hnm := (name_of_methodNamed B.named B.method).1
  have hC : Cx s0 args0 D p (jroom d' (jsz r.2 - jsz μ) (jsl r.2 - jsl μ)) s m meth c d' cc :=
    ⟨B.exec, B.bytes, hml, B.returns, by rw [← m2]; exact findClass_of_methodNamed B.named, hWm, B.notSynchronized, fun h => by rw [hnm]; rcases m3 with g | g; exact absurd g h; exact g, Nat.le_refl _, Nat.le_refl _, gd_all h11 h313, Nat.le_of_ble_eq_true m4, hw0, hK0⟩
  rw [lg_entry_eq]
  exact hrun hC m8 (LocOk.entry hlen hcat) hHok (fun q h => by cases h) (fun q h => h) (by omega) (by omega) (Nat.le_refl _) (Nat.le_refl _) (fun t ht _ => ⟨rfl, ht⟩)
/-- THE MAIN THEOREM: what the small machine comes to, the machine comes to -/
theorem sim : ∀ (n : Nat) {d mi pc : Nat} {L st : List Value} {μ : jM} {r : Option Value × jM}, jrun n d mi pc L st μ = some r → (jsz μ ≤ jsz r.2 ∧ jsl μ ≤ jsl r.2) ∧
    ∀ {p : Program} {e : Env} {R : Room} {s : State} {m : MethodId} {args : Array Value} {below : List Frame} {meth : Method} {c : Code} {H : Heap} {locs : List Loc} {cells slots mc ms : Nat} {la : Array Slot} {Qc : Array Value → State → Outcome → State → Prop} {free : Addr → Prop}, Cx s0 args0 D p R s m meth c d mi → rcok (gRC mi) (gRt mi) = true → LocOk la (gML mi) L → Hok s0 D μ H → (∀ q ∈ locs, s0.heap.size ≤ q.base) → (∀ q, s0.heap.size ≤ q → free q) → cells + (jsz r.2 - jsz μ) ≤ mc → slots + (jsl r.2 - jsl μ) ≤ ms → mc ≤ R.cells → ms ≤ R.slots →
      (∀ t : State, Hok s0 D r.2 t.heap → s.WarmedH t.vm → Qc args s (.returned r.1) t) → W p l e R s m args below meth c H locs cells slots (MQ below Qc args s mc ms free) (F0 m pc la st)
  | 0, _, _, _, _, _, _, _, h => by simp [jrun] at h
  | n + 1, d, mi, pc, L, st, μ, r, h => by
    rw [jrun_succ] at h
    simp only [Option.bind_eq_some_iff] at h
    obtain ⟨i, hpg, o, ho, hk⟩ := h
    cases hret : isRet i with
    | true =>
      have hi : i = .ireturn ∨ i = .lreturn ∨ i = .areturn ∨ i = .return_ := by
        cases i <;> first | (cases hret; done) | simp
      obtain ⟨v, rfl⟩ := jret_out hi ho
      have hk : (v, μ) = r := Option.some.inj hk
      subst hk
      refine ⟨⟨Nat.le_refl _, Nat.le_refl _⟩, ?_⟩
      intro p e R s m args below meth c H locs cells slots mc ms la Qc free C hrc hL hH hq hfree h1 h2 h3 h4 hQ
      dsimp only at h1 h2 hQ
      refine W.widen (k := mc) (n := ms) (by omega) (by omega) (so_ret C hrc hi hpg ho (fun t ht hw => hQ t (by rw [ht]; exact hH) hw) (fun q hq' => hfree _ (hq q hq'))).2
    | false =>
      cases hinv : isInv i with
      | false =>
        obtain ⟨pc', L', st', μ', rfl, g1, g2⟩ := jstep_next hret hinv ho
        have hk : jrun n d mi pc' L' st' μ' = some r := hk
        obtain ⟨⟨k1, k2⟩, ih⟩ := sim n hk
        refine ⟨⟨Nat.le_trans g1 k1, Nat.le_trans g2 k2⟩, ?_⟩
        intro p e R s m args below meth c H locs cells slots mc ms la Qc free C hrc hL hH hq hfree h1 h2 h3 h4 hQ
        exact so_next hret hinv C hpg hL hH hq ho (by omega) (by omega) (fun la' H' locs' q1 q2 q3 => ih C hrc q1 q2 q3 hfree (by omega) (by omega) h3 h4 hQ)
      | true =>
        obtain ⟨u, idx, hi, hinvk⟩ : ∃ u idx, ((i = .invokevirtual idx ∧ u = 1) ∨ (i = .invokestatic idx ∧ u = 2) ∨ (i = .invokespecial idx ∧ u = 3)) ∧ jinv u (gRS mi idx) pc L st μ = some o := by
          cases i with
          | invokevirtual idx => exact ⟨1, idx, Or.inl ⟨rfl, rfl⟩, ho⟩
          | invokestatic idx => exact ⟨2, idx, Or.inr (Or.inl ⟨rfl, rfl⟩), ho⟩
          | invokespecial idx => exact ⟨3, idx, Or.inr (Or.inr ⟨rfl, rfl⟩), ho⟩
          | _ => cases hinv
        obtain ⟨cc, as, rest, rfl⟩ := jinv_out hinvk
        cases d with
        | zero => cases hk
        | succ d' =>
          simp only [jcont, Option.bind_eq_some_iff] at hk
          obtain ⟨y, hcall, hk⟩ := hk
          obtain ⟨⟨k1, k2⟩, ih⟩ := sim n hk
          obtain ⟨q, hr, hcq, hu, b3, b0, b1, b2, hsum8⟩ := jinv_inv hinvk
          have sh := r_shape hr
          have hu0 : juse q.2.2.2.2 ≠ 0 := by
            intro h0
            rw [h0] at hu
            rcases hi with h | h | h <;> (rw [h.2] at hu; cases hu)
          obtain ⟨z0, z1, z2, z3⟩ := rz sh hu0
          unfold jcall at hcall
          split at hcall
          · rename_i e0
            cases hcall
            obtain ⟨a, -, hst⟩ := b0 e0
            refine ⟨⟨k1, k2⟩, ?_⟩
            intro p e R s m args below meth c H locs cells slots mc ms la Qc free C hrc hL hH hq hfree h1 h2 h3 h4 hQ
            have hz := z0 (hcq.symm.trans e0)
            have hii : i = .invokespecial idx := by
              rw [hz] at hu
              rcases hi with h | h | h <;> first | exact h.1 | (rw [h.2] at hu; simp [juse] at hu)
            subst hii
            rw [hst]
            have hrs : (rest.map fun v => v.category).sum ≤ 8 := by
              have hn1 : q.2.1 = 1 := by
                obtain ⟨qa, qb, qc, qd, qz⟩ := q
                have hz : qz = 18 := hz
                subst hz
                simp only [rshape, Bool.and_eq_true, beq_iff_eq] at sh
                exact sh.1.2
              rw [hst, hn1] at hsum8
              exact hsum8
            exact so_objInit C hpg hr hz hL hrs (ih C hrc hL hH hq hfree h1 h2 h3 h4 hQ)
          · rename_i n0
            split at hcall
            · rename_i e1
              obtain ⟨v, w, sp, dp, nn, μ', has, hst, hj⟩ := b1 e1
              rw [has] at hcall
              simp only [hj, Option.map_some] at hcall
              cases hcall
              have hsz : jsz μ' = jsz μ ∧ jsl μ' = jsl μ := by
                simp only [jcp, Option.bind_eq_some_iff] at hj
                obtain ⟨x, -, y, -, hj⟩ := hj
                split at hj
                · cases hj; exact ⟨rfl, rfl⟩
                · cases hj
              obtain ⟨sz1, sz2⟩ := hsz
              dsimp only at k1 k2 ih
              refine ⟨⟨by omega, by omega⟩, ?_⟩
              intro p e R s m args below meth c H locs cells slots mc ms la Qc free C hrc hL hH hq hfree h1 h2 h3 h4 hQ
              have hz := z1 (hcq.symm.trans e1)
              have hii : i = .invokestatic idx := by
                rw [hz] at hu
                rcases hi with h | h | h <;> first | exact h.1 | (rw [h.2] at hu; simp [juse] at hu)
              subst hii
              have hrs : (rest.map fun v => v.category).sum ≤ 8 := by
                have hn1 : q.2.1 = 5 := by
                  obtain ⟨qa, qb, qc, qd, qz⟩ := q
                  have hz : qz = 19 := hz
                  subst hz
                  simp only [rshape, Bool.and_eq_true, beq_iff_eq] at sh
                  exact sh.2
                rw [hst, hn1] at hsum8
                exact hsum8
              rw [hst]
              exact so_copy C hpg hr hz hL hH hq hj hrs (fun H' locs' q1 q2 => ih C hrc hL q1 q2 hfree (by omega) (by omega) h3 h4 hQ)
            · rename_i n1
              split at hcall
              · rename_i e2
                obtain ⟨v, t, has, hst, hat, htk, ht2⟩ := b2 e2
                rw [has] at hcall
                simp only [Option.map_eq_some_iff] at hcall
                obtain ⟨x, hj, rfl⟩ := hcall
                have hsz : jsz μ ≤ jsz x.2 ∧ jsl μ ≤ jsl x.2 := by
                  unfold jcl at hj
                  rw [hat] at hj
                  simp only [Option.bind_some] at hj
                  rw [if_pos ht2] at hj
                  cases hj
                  exact ⟨by show jsz μ ≤ jsz μ + 1; omega, by show jsl μ ≤ jsl μ + _; omega⟩
                obtain ⟨sz1, sz2⟩ := hsz
                dsimp only at k1 k2 ih
                refine ⟨⟨by omega, by omega⟩, ?_⟩
                intro p e R s m args below meth c H locs cells slots mc ms la Qc free C hrc hL hH hq hfree h1 h2 h3 h4 hQ
                have hz := z2 (hcq.symm.trans e2)
                have hii : i = .invokevirtual idx := by
                  rw [hz] at hu
                  rcases hi with h | h | h <;> first | exact h.1 | (rw [h.2] at hu; simp [juse] at hu)
                subst hii
                have hrs : (rest.map fun v => v.category).sum ≤ 8 := by
                  have hn1 : q.2.1 = 1 := by
                    obtain ⟨qa, qb, qc, qd, qz⟩ := q
                    have hz : qz = 20 := hz
                    subst hz
                    simp only [rshape, Bool.and_eq_true, beq_iff_eq] at sh
                    exact sh.1.2
                  rw [hst, hn1] at hsum8
                  exact hsum8
                rw [hst]
                exact so_clone C hpg hr hz hL hH hq hat htk ht2 hj hrs (by omega) (by omega) (fun H' locs' q1 q2 => ih C hrc hL q1 q2 hfree (by omega) (by omega) h3 h4 hQ)
              · rename_i n2
                have h3c : 3 ≤ cc := by omega
                obtain ⟨h11, h313⟩ := z3 (by omega)
                obtain ⟨a1, a2, a3, a4, -⟩ := b3 h3c
                by_cases hm : cc = 279 ∨ cc = 280
                · obtain ⟨hz, hn2⟩ := r_math hr hu0 (by rw [← hcq]; exact hm)
                  obtain ⟨x1, x2, rfl, rfl⟩ := math_run hm (a3.trans hn2) hcall
                  refine ⟨⟨k1, k2⟩, ?_⟩
                  intro p e R s m args below meth c H locs cells slots mc ms la Qc free C hrc hL hH hq hfree h1 h2 h3 h4 hQ
                  have hii : i = .invokestatic idx := by
                    rw [hz] at hu
                    rcases hi with h | h | h <;> first | exact h.1 | (rw [h.2] at hu; simp [juse] at hu)
                  subst hii
                  rw [a4]
                  subst hcq
                  exact so_math C hpg hr hz hm hL a1 (by omega) (by omega) (ih C hrc hL hH hq hfree h1 h2 h3 h4 hQ)
                · obtain ⟨⟨j1, j2⟩, ihc⟩ := sim n hcall
                  refine ⟨⟨by omega, by omega⟩, ?_⟩
                  intro p e R s m args below meth c H locs cells slots mc ms la Qc free C hrc hL hH hq hfree h1 h2 h3 h4 hQ
                  have hfit := r_fits hr hu0 h11
                  have hM : CMet l s0 D cc d' as μ y := cmet_of (args0 := args0) (by omega) (by omega) hm C.2.2.2.2.2.2.2.2.2.2.2.2.1 C.2.2.2.2.2.2.2.2.2.2.2.2.2 (by rw [hcq]; omega) a2 ihc
                  exact so_call C hpg hi hL hH hq hinvk h3c hM (by omega) (by omega) (fun H' locs' q1 q2 => ih C hrc hL q1 q2 hfree (by omega) (by omega) h3 h4 hQ)
end SIM
