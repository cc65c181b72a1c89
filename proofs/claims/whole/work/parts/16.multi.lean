/-! EACH INSTRUCTION'S STEP: arrays of arrays made at once -/
/-- the outer array of kind k, the first i inner ones laid by F -/
def jloop (F : jM → jM) (k n h : Nat) (μ : jM) : Nat → jM
  | 0 => jnew μ k n n
  | i + 1 => jsetR (F (jloop F k n h μ i)) h i (some (jsz (jloop F k n h μ i)))
theorem jfill2_loop (μ : jM) (ko ki n m : Nat) : ∀ i, jfill2 μ ko ki n m i = jloop (fun μ => jnew μ ki m m) ko n (jsz μ) μ i ∧ jsz (jfill2 μ ko ki n m i) = jsz μ + 1 + i ∧ jsl (jfill2 μ ko ki n m i) = jsl μ + n + i * m
  | 0 => ⟨rfl, rfl, by show jsl μ + n = _; omega⟩
  | i + 1 => by
    obtain ⟨h1, h2, h3⟩ := jfill2_loop μ ko ki n m i
    refine ⟨?_, ?_, ?_⟩
    · unfold jfill2 jloop
      rw [← h1, h2]
    · unfold jfill2
      show jsz (jfill2 μ ko ki n m i) + 1 = _
      rw [h2]
      omega
    · unfold jfill2
      show jsl (jfill2 μ ko ki n m i) + m = _
      rw [h3, Nat.succ_mul]
      omega
theorem jfill3_loop (μ : jM) (kt ko ki n m r : Nat) : ∀ i, jfill3 μ kt ko ki n m r i = jloop (fun μ => jfill2 μ ko ki m r m) kt n (jsz μ) μ i ∧ jsz (jfill3 μ kt ko ki n m r i) = jsz μ + 1 + i * (1 + m) ∧ jsl (jfill3 μ kt ko ki n m r i) = jsl μ + n + i * (m + m * r)
  | 0 => ⟨rfl, by show jsz μ + 1 = _; omega, by show jsl μ + n = _; omega⟩
  | i + 1 => by
    obtain ⟨h1, h2, h3⟩ := jfill3_loop μ kt ko ki n m r i
    refine ⟨?_, ?_, ?_⟩
    · unfold jfill3 jloop
      rw [← h1, h2]
    · unfold jfill3
      show jsz (jfill2 (jfill3 μ kt ko ki n m r i) ko ki m r m) = _
      rw [(jfill2_loop _ _ _ _ _ _).2.1, h2, Nat.succ_mul]
      omega
    · unfold jfill3
      show jsl (jfill2 (jfill3 μ kt ko ki n m r i) ko ki m r m) = _
      rw [(jfill2_loop _ _ _ _ _ _).2.2, h3, Nat.succ_mul]
      omega
section SIM
variable {p : Program} {l : Launch} {e : Env} {R : Room} {s0 s : State} {D : va_G} {args0 args : Array Value} {m : MethodId} {below : List Frame} {meth : Method} {c : Code} {H : Heap} {locs : List Loc} {cells slots : Nat} {Q : State → Prop} {d mi pc : Nat} {la : Array Slot} {L st : List Value} {μ : jM}
/-- that the model's 'make' of these counts does to the heap what F does to the memory; G tells the state behind it -/
def MkOK (p : Program) (l : Launch) (e : Env) (R : Room) (s0 s : State) (D : va_G) (m : MethodId) (args : Array Value) (below : List Frame) (meth : Method) (c : Code) (cl : ClassId) (ds : List Int32) (F : jM → jM) (G : State → State) (nc ns : Nat) : Prop :=
  (∀ μ : jM, jsz (F μ) = jsz μ + nc ∧ jsl (F μ) = jsl μ + ns ∧ ∀ a, a < jsz μ → jty (F μ) a = jty μ a) ∧ 0 < nc ∧
  ∀ (μ : jM) (T : State) (locs : List Loc) (cells slots : Nat), Stand p l e R s m args below meth c T locs cells slots → Hok s0 D μ T.heap → (∀ q ∈ locs, s0.heap.size ≤ q.base) → cells + nc ≤ R.cells → slots + ns ≤ R.slots →
    (∃ locs' : List Loc, Stand p l e R s m args below meth c (G T) locs' (cells + nc) (slots + ns) ∧ ∀ q ∈ locs', s0.heap.size ≤ q.base) ∧ Hok s0 D (F μ) (G T).heap ∧
    ∀ (f : JFrame) (Q : Addr → Pre) (E : CtlPost) (d : Bool) (acts : List Action), (∀ (d' : Bool) (acts' : List Action), Q (jsz μ) d' acts' ((G T).setTop f)) → wp (multianewarray.make cl ds) Q E e d acts (T.setTop f)
/-- the class of an array's kind -/
def KcOK (s0 s : State) (cl : ClassId) (k : Nat) : Prop :=
  s0.vm.Alike s.vm ∧ ∃ (kc : Class) (comp : ClassId), s.vm.classes[cl]? = some kc ∧ kc.kind = .array comp (gET k) ∧ va_RA s0 cl (gET k) ∧ s0.vm.findClass ("[" ++ (gET k).toString) = some cl
theorem KcOK.arr {cl : ClassId} {k : Nat} (h : KcOK s0 s cl k) : ArrOfT s0 cl (gET k) := by
  obtain ⟨al, kc, comp, h1, h2, -, -⟩ := h
  have hA : ArrOfT s cl (gET k) := fun N z => ⟨(fun k h => by cases h), kc, h1, comp, h2⟩
  exact hA.back al
/-- one dimension -/
theorem make1 {cl : ClassId} {n : Int32} {k : Nat} (hk : k = 20 ∨ k = 33) (hK : KcOK s0 s cl k) (hn : ¬ n < 0) (hn2 : n.toNatClampNeg ≤ 64) : MkOK p l e R s0 s D m args below meth c cl [n] (fun μ => jnew μ k n.toNatClampNeg n.toNatClampNeg) (fun T => T.pushCell (Jvm.Free.Multi.innerC cl n.toNatClampNeg (defaultValue (gET k)))) 1 n.toNatClampNeg := by
  refine ⟨fun μ => ⟨rfl, rfl, fun a ha => if_neg (Nat.ne_of_lt ha)⟩, Nat.one_pos, fun μ T locs cells slots X hH hq hc hs => ?_⟩
  have hA := hK.arr
  obtain ⟨al, kc, comp, h1, h2, h3, h4⟩ := hK
  obtain ⟨k2, hk2, he2⟩ := X.warmed.alike.2.2 _ _ h1
  have hkind : k2.kind = .array comp (gET k) := by rw [he2]; exact h2
  obtain ⟨r1, r2⟩ := X.roomAbove hc hs
  have hcb : componentBytes (gET k) = 4 := by rcases hk with rfl | rfl <;> rfl
  have hdf : fits (gET k) (defaultValue (gET k)) = true := by rcases hk with rfl | rfl <;> rfl
  have hdd : (defaultValue (gET k)).isDefault = true := by rcases hk with rfl | rfl <;> rfl
  have hl : ¬ n.toNatClampNeg > e.platform.arrayLengthLimit := by rw [Launch.admits_arrayLengthLimit X.admits]; omega
  have hh : ¬ n.toNatClampNeg * componentBytes (gET k) > e.platform.maxHeapBytes := by rw [Launch.admits_maxHeapBytes X.admits, hcb]; omega
  have Xp := X.pushed (Jvm.Free.Multi.innerC cl n.toNatClampNeg (defaultValue (gET k)))
  have esz : (Jvm.Free.Multi.innerC cl n.toNatClampNeg (defaultValue (gET k))).slots.size = n.toNatClampNeg := by simp [Jvm.Free.Multi.innerC]
  rw [esz] at Xp
  refine ⟨⟨locs, Xp, hq⟩, ?_, fun f Q E d acts kk => ?_⟩
  · refine hH.new (by omega) (fun q hq => State.heap_pushCell_of_lt _ _ hq) (by show (T.heap.push _).size = _; rw [Array.size_push]) ?_
    refine hcell.newA (v := defaultValue (gET k)) (by omega) (by omega) (by rcases hk with rfl | rfl <;> rfl) ?_ hA h3 (fun hlt => by rcases hk with rfl | rfl <;> first | rfl | omega)
    rw [← hH.2.1]
    show (T.heap.push _)[T.heap.size]? = _
    rw [Array.getElem?_push_size, ← arrV_new]
    rfl
  · refine Jvm.Free.Multi.wp_make1 (type := gET k) (s := T.setTop f) (by exact hk2) hkind hn hl hh hdf hdd (by show T.heap.size < _; omega) (by show T.slotsUsed + _ ≤ _; omega) ?_
    rw [show (T.setTop f).heap.size = jsz μ from hH.2.1]
    exact kk _ _
/-- the state behind i rounds -/
def gloop (G : State → State) (cl : ClassId) (N : Nat) (T : State) : Nat → State
  | 0 => T.pushCell { cls := cl, slots := Array.replicate N .null, vm := .none }
  | i + 1 => (G (gloop G cl N T i)).setCell T.heap.size ((((G (gloop G cl N T i)).heap[T.heap.size]?).getD { cls := cl, slots := #[], vm := .none }).setSlot i (.ref (gloop G cl N T i).heap.size))
/-- one dimension more -/
theorem makeS {cl comp : ClassId} {n : Int32} {ds : List Int32} {F : jM → jM} {G : State → State} {k nc ns : Nat} (hne : ds ≠ []) (hds : ds.find? (· < 0) = none) (hk1 : 33 ≤ k) (hk2 : k < 36) (hK : KcOK s0 s cl k) (hcm : ∀ (kc : Class) (cp : ClassId), s.vm.classes[cl]? = some kc → kc.kind = .array cp (gET k) → cp = comp) (hn : ¬ n < 0) (hn2 : n.toNatClampNeg ≤ 64)
    (hF : MkOK p l e R s0 s D m args below meth c comp ds F G nc ns) : MkOK p l e R s0 s D m args below meth c cl (n :: ds) (fun μ => jloop F k n.toNatClampNeg (jsz μ) μ n.toNatClampNeg) (fun T => gloop G cl n.toNatClampNeg T n.toNatClampNeg) (1 + n.toNatClampNeg * nc) (n.toNatClampNeg + n.toNatClampNeg * ns) := by
  have hA := hK.arr
  obtain ⟨al, kc, cp, g1, g2, g3, g4⟩ := hK
  have ecp := hcm kc cp g1 g2
  subst ecp
  obtain ⟨F1, hpos, F2⟩ := hF
  generalize hN : n.toNatClampNeg = N at hn2 ⊢
  have sizes : ∀ (μ : jM) (i : Nat), jsz (jloop F k N (jsz μ) μ i) = jsz μ + (1 + i * nc) ∧ jsl (jloop F k N (jsz μ) μ i) = jsl μ + (N + i * ns) ∧ (∀ a, a < jsz μ → jty (jloop F k N (jsz μ) μ i) a = jty μ a) ∧ jty (jloop F k N (jsz μ) μ i) (jsz μ) = some (k, N) := by
    intro μ i
    induction i with
    | zero => exact ⟨by show jsz μ + 1 = _; omega, by show jsl μ + N = _; omega, fun a ha => if_neg (Nat.ne_of_lt ha), if_pos rfl⟩
    | succ i ih =>
      obtain ⟨s1, s2, s3, s4⟩ := ih
      obtain ⟨f1, f2, f3⟩ := F1 (jloop F k N (jsz μ) μ i)
      refine ⟨?_, ?_, fun a ha => ?_, ?_⟩
      · show jsz (F (jloop F k N (jsz μ) μ i)) = _
        rw [f1, s1, Nat.succ_mul]; omega
      · show jsl (F (jloop F k N (jsz μ) μ i)) = _
        rw [f2, s2, Nat.succ_mul]; omega
      · show jty (F (jloop F k N (jsz μ) μ i)) a = _
        rw [f3 a (by omega), s3 a ha]
      · show jty (F (jloop F k N (jsz μ) μ i)) (jsz μ) = _
        rw [f3 _ (by omega), s4]
  have href : (gET k).isReference = true := gET_ref (by omega) hk2
  have hcb : componentBytes (gET k) = 4 := by
    obtain rfl | rfl | rfl : k = 33 ∨ k = 34 ∨ k = 35 := by omega
    all_goals rfl
  refine ⟨fun μ => ⟨(sizes μ N).1, (sizes μ N).2.1, (sizes μ N).2.2.1⟩, by omega, fun μ T locs cells slots X hH hq hc hs => ?_⟩
  obtain ⟨kT, hkT, heT⟩ := X.warmed.alike.2.2 _ _ g1
  have hkind : kT.kind = .array cp (gET k) := by rw [heT]; exact g2
  obtain ⟨r1, r2⟩ := X.roomAbove hc hs
  -- behind i rounds
  have rounds : ∀ i, i ≤ N → ∃ locs' : List Loc, Stand p l e R s m args below meth c (gloop G cl N T i) locs' (cells + (1 + i * nc)) (slots + (N + i * ns)) ∧ Hok s0 D (jloop F k N (jsz μ) μ i) (gloop G cl N T i).heap ∧ (∀ q ∈ locs', s0.heap.size ≤ q.base) := by
    intro i
    induction i with
    | zero =>
      intro _
      have Xp := X.pushed ({ cls := cl, slots := Array.replicate N .null, vm := .none } : Cell)
      have esz : ({ cls := cl, slots := Array.replicate N .null, vm := .none } : Cell).slots.size = N := Array.size_replicate
      rw [esz] at Xp
      refine ⟨locs, ?_, ?_, hq⟩
      · rw [Nat.zero_mul, Nat.zero_mul]; exact Xp
      · refine hH.new (by omega) (fun q hq => State.heap_pushCell_of_lt _ _ hq) (by show (T.heap.push _).size = _; rw [Array.size_push]) ?_
        refine hcell.newA (v := .null) (by omega) (by omega) (by rw [if_neg (by omega)]) ?_ hA g3 (fun h => by omega)
        rw [← hH.2.1]
        show (T.heap.push _)[T.heap.size]? = _
        rw [Array.getElem?_push_size, ← arrV_new]
    | succ i ih =>
      intro hlt
      obtain ⟨locs1, XU, hHU, hqU⟩ := ih (by omega)
      have m1 : (i + 1) * nc ≤ N * nc := Nat.mul_le_mul_right _ hlt
      have m2 : (i + 1) * ns ≤ N * ns := Nat.mul_le_mul_right _ hlt
      rw [Nat.succ_mul] at m1 m2
      obtain ⟨⟨locs2, XV, hqV⟩, hHV, -⟩ := F2 _ _ locs1 _ _ XU hHU hqU (by omega) (by omega)
      obtain ⟨s1, s2, s3, s4⟩ := sizes μ i
      obtain ⟨f1, f2, f3⟩ := F1 (jloop F k N (jsz μ) μ i)
      have htV : jty (F (jloop F k N (jsz μ) μ i)) (jsz μ) = some (k, N) := by rw [f3 _ (by omega), s4]
      have hbV := (hHV.1 _ _ _ htV).2.1 (by omega)
      obtain ⟨cA, v1, v2, v3, -⟩ := (hHV.1 _ _ _ htV).1.arr (by omega) (by omega)
      have hTs : T.heap.size = jsz μ := hH.2.1
      have hUs : (gloop G cl N T i).heap.size = jsz (jloop F k N (jsz μ) μ i) := hHU.2.1
      have XS := XV.stored v1 i (.ref (jsz (jloop F k N (jsz μ) μ i)))
      have hltV : jsz μ < (G (gloop G cl N T i)).heap.size := (Array.getElem?_eq_some_iff.mp v1).1
      have estep : gloop G cl N T (i + 1) = (G (gloop G cl N T i)).setCell (jsz μ) ((arrV cA N (aval (F (jloop F k N (jsz μ) μ i)) k (jsz μ))).setSlot i (.ref (jsz (jloop F k N (jsz μ) μ i)))) := by
        rw [gloop, hTs, v1, hUs]
        rfl
      rw [estep]
      refine ⟨locs2 ++ [⟨jsz μ, i⟩], ?_, ?_, loc_app (x := ⟨jsz μ, i⟩) hqV hbV⟩
      · rw [show cells + (1 + (i + 1) * nc) = cells + (1 + i * nc) + nc by rw [Nat.succ_mul]; omega, show slots + (N + (i + 1) * ns) = slots + (N + i * ns) + ns by rw [Nat.succ_mul]; omega]
        exact XS
      · exact hHV.setR (x := some (jsz (jloop F k N (jsz μ) μ i))) htV (by omega) (by omega) v1 v2 v3 (heapAt_setCell_self _ hltV) (size_setCell _ _ _) (fun q hq => heapAt_setCell_ne _ (Ne.symm hq))
  obtain ⟨locsN, XN, hHN, hqN⟩ := rounds N (Nat.le_refl _)
  refine ⟨⟨locsN, XN, hqN⟩, hHN, fun f Q E d acts kk => ?_⟩
  have hl : ¬ n.toNatClampNeg > e.platform.arrayLengthLimit := by rw [Launch.admits_arrayLengthLimit X.admits]; omega
  have hh : ¬ n.toNatClampNeg * componentBytes (gET k) > e.platform.maxHeapBytes := by rw [Launch.admits_maxHeapBytes X.admits, hcb]; omega
  obtain ⟨d0, ds', rfl⟩ : ∃ d0 ds', ds = d0 :: ds' := by
    cases ds with
    | nil => exact absurd rfl hne
    | cons a b => exact ⟨a, b, rfl⟩
  rw [multianewarray.make]
  have hkT' : (T.setTop f).vm.classes[cl]? = some kT := hkT
  simp only [wp_bind', W.ite, hn, if_false, wp_pure', W.theClass, hkT', hkind, Option.some.injEq, exists_eq_left']
  refine Jvm.Free.Multi.wp_newArray (s := T.setTop f) hkT' hkind hl hh (Jvm.Free.Multi.refFits href _ (Or.inl rfl)) rfl (by show T.heap.size < _; omega) (by show T.slotsUsed + _ ≤ _; omega) ?_
  simp only [hds]
  rw [ite_self, wp_bind', Std.Legacy.Range.forIn_eq_forIn_range']
  have hsz : ([:n.toNatClampNeg] : Std.Legacy.Range).size = N := by simp [Std.Legacy.Range.size, hN]
  rw [hsz]
  show wp (forIn (List.range' 0 N 1) PUnit.unit _) _ E e _ _ _
  have hhs : (T.setTop f).heap.size = jsz μ := hH.2.1
  rw [hhs]
  refine wp_forIn_inv (fun rest s' => ∃ i : Nat, i ≤ N ∧ rest = List.range' i (N - i) ∧ s' = (gloop G cl N T i).setTop f) _ _ ⟨0, Nat.zero_le _, rfl, by rw [hN]; rfl⟩ ?_ ?_
  · rintro x rest s' d' acts' Q' ⟨i, hi, hl, rfl⟩ hnext
    have hlt : i < N := by
      rcases Nat.lt_or_ge i N with h | h
      · exact h
      · rw [show N - i = 0 from by omega] at hl; simp at hl
    obtain ⟨rfl, hrest⟩ : x = i ∧ rest = List.range' (i + 1) (N - (i + 1)) := by
      rw [show N - i = (N - (i + 1)) + 1 from by omega, List.range'_succ] at hl
      exact ⟨(List.cons.inj hl).1, (List.cons.inj hl).2⟩
    have m1 : (x + 1) * nc ≤ N * nc := Nat.mul_le_mul_right _ hlt
    have m2 : (x + 1) * ns ≤ N * ns := Nat.mul_le_mul_right _ hlt
    rw [Nat.succ_mul] at m1 m2
    obtain ⟨locs1, XU, hHU, hqU⟩ := rounds x hi
    obtain ⟨⟨locs2, XV, hqV⟩, hHV, hwp⟩ := F2 _ _ locs1 _ _ XU hHU hqU (by omega) (by omega)
    obtain ⟨s1, s2, s3, s4⟩ := sizes μ x
    obtain ⟨f1, f2, f3⟩ := F1 (jloop F k N (jsz μ) μ x)
    have htV : jty (F (jloop F k N (jsz μ) μ x)) (jsz μ) = some (k, N) := by rw [f3 _ (by omega), s4]
    obtain ⟨cA, v1, v2, v3, -⟩ := (hHV.1 _ _ _ htV).1.arr (by omega) (by omega)
    have hcA : cA = cl := by
      have e1 : s0.vm.findClass ("[" ++ (gET k).toString) = some cA := by
        obtain rfl | rfl | rfl : k = 33 ∨ k = 34 ∨ k = 35 := by omega
        all_goals exact v3
      exact Option.some.inj (e1.symm.trans g4)
    subst hcA
    have hTs : T.heap.size = jsz μ := hH.2.1
    have hUs : (gloop G cA N T x).heap.size = jsz (jloop F k N (jsz μ) μ x) := hHU.2.1
    have estep : gloop G cA N T (x + 1) = (G (gloop G cA N T x)).setCell (jsz μ) ((arrV cA N (aval (F (jloop F k N (jsz μ) μ x)) k (jsz μ))).setSlot x (.ref (jsz (jloop F k N (jsz μ) μ x)))) := by
      rw [gloop, hTs, v1, hUs]
      rfl
    obtain ⟨kV, hkV, heV⟩ := XV.warmed.alike.2.2 _ _ g1
    have hkindV : kV.kind = .array cp (gET k) := by rw [heV]; exact g2
    simp only [wp_bind']
    refine hwp f _ E d' acts' (fun d2 acts2 => ?_)
    simp only [wp_bind', W.writeLoc, wp_pure']
    refine ⟨_, v1, by simp [arrV], by rw [arrV_size]; exact hlt, ?_, hnext _ _ _ ⟨x + 1, hlt, hrest, by rw [estep]; exact State.setCell_setTop _ _ _ _⟩⟩
    have hcl : (arrV cA N (aval (F (jloop F k N (jsz μ) μ x)) k (jsz μ))).cls = cA := rfl
    have hvm : (arrV cA N (aval (F (jloop F k N (jsz μ) μ x)) k (jsz μ))).vm = .none := rfl
    rw [hcl, hvm]
    have hkV' : ((G (gloop G cA N T x)).setTop f).vm.classes[cA]? = some kV := hkV
    simp [State.fitsSlot, State.slotType?, hkV, hkV', hkindV, Jvm.Free.Multi.refFits href _ (Or.inr ⟨_, rfl⟩)]
  · rintro s' d' acts' ⟨i, hi, hl, rfl⟩
    have hiN : i = N := by
      rcases Nat.lt_or_ge i N with h | h
      · rw [show N - i = (N - (i + 1)) + 1 from by omega, List.range'_succ] at hl; cases hl
      · omega
    subst hiN
    simp only [wp_pure']
    exact kk _ _

/-- the classes of arrays of arrays, where a method stands -/
theorem Cx.kcI (C : Cx s0 args0 D p R s m meth c d mi) : ∃ cl, KcOK s0 s cl 20 ∧ s.vm.findClass (FieldType.array .int).toString = some cl := by
  obtain ⟨comp, kC, cc, h1, h2, h3⟩ := Cond.arrayClass_spec (C.word (args := args0) ac_int rfl)
  have h4 : s0.vm.findClass (FieldType.array .int).toString = some comp := by rw [C.alike.findClass] at h1; exact h1
  exact ⟨comp, ⟨C.alike, kC, cc, h2, h3, h4, h4⟩, h1⟩
theorem Cx.kcA (C : Cx s0 args0 D p R s m meth c d mi) {k : Nat} {t : FieldType} (hk : gET k = .array t) (h : Cond.arrayOver (.array t) ∈ lw_tbl) : ∃ cl comp, KcOK s0 s cl k ∧ s.vm.findClass (FieldType.array t).toString = some comp ∧ s.vm.findClass (FieldType.array (.array t)).toString = some cl ∧ (∀ (kc : Class) (cp : ClassId), s.vm.classes[cl]? = some kc → kc.kind = .array cp (gET k) → cp = comp) := by
  obtain ⟨comp, cA, kA, h1, h2, h3, h4⟩ := C.over h
  obtain ⟨k2, hk2, he2⟩ := C.alike.2.2 _ _ h2
  have h5 : k2.kind = .array comp (gET k) := by rw [he2, hk]; exact h3
  refine ⟨cA, comp, ⟨C.alike, k2, comp, hk2, h5, ?_, by rw [hk]; exact h4⟩, by rw [C.alike.findClass]; exact h1, by rw [C.alike.findClass]; exact h4, fun kc cp e1 e2 => ?_⟩
  · rw [hk]; exact h4
  · rw [hk2] at e1
    cases e1
    rw [h5] at e2
    cases e2
    rfl
/-- the instruction, over what 'make' does -/
theorem mk_step2 (C : Cx s0 args0 D p R s m meth c d mi) {idx : Nat} {own name : String} {cl : ClassId} (hown : s.vm.findClass own = some m.cls) (hclink : (Cond.classLink own idx name).before args s = true) (hnm : s.vm.findClass name = some cl)
    (hdg : decode (gB mi) pc = .ok (.multianewarray idx 2, 4)) {xn xm : Int32} {rest : List Value} {F : jM → jM} {G : State → State} {nc ns : Nat} (hM : MkOK p l e R s0 s D m args below meth c cl [xn, xm] F G nc ns) (hH : Hok s0 D μ H) (hq : ∀ q ∈ locs, s0.heap.size ≤ q.base) (hc : cells + nc ≤ R.cells) (hs : slots + ns ≤ R.slots)
    (kk : ∀ (H' : Heap) (locs' : List Loc), Hok s0 D (F μ) H' → (∀ q ∈ locs', s0.heap.size ≤ q.base) → W p l e R s m args below meth c H' locs' (cells + nc) (slots + ns) Q (F0 m (pc + 4) la (.ref (jsz μ) :: rest))) : W p l e R s m args below meth c H locs cells slots Q (F0 m pc la (.int xm :: .int xn :: rest)) := by
  intro T hT X
  have hexec := C.1
  have hpl : e.platform.magicAccessors = ({} : Platform).magicAccessors := by rw [X.admits.platform]
  obtain ⟨c0, hfc0, hcl⟩ := Cond.classLink_spec hown hclink e.platform hpl
  cases hnm.symm.trans hfc0
  obtain ⟨hg₁, hwarm₁, hready₁⟩ := State.classEntry (e := e) X.warmed hcl
  generalize T.vm.noted m.cls idx (.cls cl) = vm₁ at hg₁ hwarm₁ hready₁
  have X₁ := X.noted hwarm₁
  have hH1 : Hok s0 D μ (T.setVm vm₁).heap := by show Hok s0 D μ T.heap; rw [hT]; exact hH
  obtain ⟨⟨locs', XF, hqF⟩, hHF, hwp⟩ := hM.2.2 μ (T.setVm vm₁) locs cells slots X₁ hH1 hq hc hs
  obtain ⟨t, a1, b1⟩ := kk _ locs' hHF hqF (G (T.setVm vm₁)) rfl XF
  have hdg : decode c.code pc = .ok (.multianewarray idx 2, 4) := by rw [C.2.1]; exact hdg
  generalize hgg : F0 m pc la (.int xm :: .int xn :: rest) = g
  have hgm : g.method = m := by rw [← hgg]
  have hgp : g.pc = pc := by rw [← hgg]
  have hgs : g.stack = .int xm :: .int xn :: rest := by rw [← hgg]
  have hgr : F0 m (pc + 4) la (.ref (jsz μ) :: rest) = { g with pc := g.pc + 4, stack := .ref (jsz μ) :: rest } := by rw [← hgg]
  rw [hgr] at a1
  refine ⟨t, ?_, b1⟩
  subst hgm
  rw [← hgp] at hdg
  jvm_step X.here [hexec, hdg]
  simp only [multianewarray.sem, wp_bind', W.resolveClassAt_links (State.method?_setTop g X.here.top) hg₁]
  rw [W.popN, if_neg (by decide)]
  refine ⟨g, State.topJava?_setTop' (s := T.setVm vm₁) g X.here.top, [.int xn, .int xm], rest, rfl, hgs, ?_⟩
  simp only [List.mapM_cons, List.mapM_nil, wp_bind', wp_pure']
  have eS : ((T.setTop g).setVm vm₁).setTop { g with stack := rest } = (T.setVm vm₁).setTop { g with stack := rest } := by
    show ((T.setVm vm₁).setTop g).setTop _ = _
    rw [State.setTop_setTop]
  rw [eS]
  refine hwp _ _ _ _ _ (fun d' acts' => ?_)
  simp only [wp_bind', W.mark, W.pushRef, State.topJava?_setTop' _ XF.here.top, Option.some.injEq, exists_eq_left', State.setTop_setTop, State.heap_setTop]
  intro acts
  simp [jvm, XF.here.top]
  exact a1
/-- the instruction, over what 'make' does -/
theorem mk_step3 (C : Cx s0 args0 D p R s m meth c d mi) {idx : Nat} {own name : String} {cl : ClassId} (hown : s.vm.findClass own = some m.cls) (hclink : (Cond.classLink own idx name).before args s = true) (hnm : s.vm.findClass name = some cl)
    (hdg : decode (gB mi) pc = .ok (.multianewarray idx 3, 4)) {xn xm xr : Int32} {rest : List Value} {F : jM → jM} {G : State → State} {nc ns : Nat} (hM : MkOK p l e R s0 s D m args below meth c cl [xn, xm, xr] F G nc ns) (hH : Hok s0 D μ H) (hq : ∀ q ∈ locs, s0.heap.size ≤ q.base) (hc : cells + nc ≤ R.cells) (hs : slots + ns ≤ R.slots)
    (kk : ∀ (H' : Heap) (locs' : List Loc), Hok s0 D (F μ) H' → (∀ q ∈ locs', s0.heap.size ≤ q.base) → W p l e R s m args below meth c H' locs' (cells + nc) (slots + ns) Q (F0 m (pc + 4) la (.ref (jsz μ) :: rest))) : W p l e R s m args below meth c H locs cells slots Q (F0 m pc la (.int xr :: .int xm :: .int xn :: rest)) := by
  intro T hT X
  have hexec := C.1
  have hpl : e.platform.magicAccessors = ({} : Platform).magicAccessors := by rw [X.admits.platform]
  obtain ⟨c0, hfc0, hcl⟩ := Cond.classLink_spec hown hclink e.platform hpl
  cases hnm.symm.trans hfc0
  obtain ⟨hg₁, hwarm₁, hready₁⟩ := State.classEntry (e := e) X.warmed hcl
  generalize T.vm.noted m.cls idx (.cls cl) = vm₁ at hg₁ hwarm₁ hready₁
  have X₁ := X.noted hwarm₁
  have hH1 : Hok s0 D μ (T.setVm vm₁).heap := by show Hok s0 D μ T.heap; rw [hT]; exact hH
  obtain ⟨⟨locs', XF, hqF⟩, hHF, hwp⟩ := hM.2.2 μ (T.setVm vm₁) locs cells slots X₁ hH1 hq hc hs
  obtain ⟨t, a1, b1⟩ := kk _ locs' hHF hqF (G (T.setVm vm₁)) rfl XF
  have hdg : decode c.code pc = .ok (.multianewarray idx 3, 4) := by rw [C.2.1]; exact hdg
  generalize hgg : F0 m pc la (.int xr :: .int xm :: .int xn :: rest) = g
  have hgm : g.method = m := by rw [← hgg]
  have hgp : g.pc = pc := by rw [← hgg]
  have hgs : g.stack = .int xr :: .int xm :: .int xn :: rest := by rw [← hgg]
  have hgr : F0 m (pc + 4) la (.ref (jsz μ) :: rest) = { g with pc := g.pc + 4, stack := .ref (jsz μ) :: rest } := by rw [← hgg]
  rw [hgr] at a1
  refine ⟨t, ?_, b1⟩
  subst hgm
  rw [← hgp] at hdg
  jvm_step X.here [hexec, hdg]
  simp only [multianewarray.sem, wp_bind', W.resolveClassAt_links (State.method?_setTop g X.here.top) hg₁]
  rw [W.popN, if_neg (by decide)]
  refine ⟨g, State.topJava?_setTop' (s := T.setVm vm₁) g X.here.top, [.int xn, .int xm, .int xr], rest, rfl, hgs, ?_⟩
  simp only [List.mapM_cons, List.mapM_nil, wp_bind', wp_pure']
  have eS : ((T.setTop g).setVm vm₁).setTop { g with stack := rest } = (T.setVm vm₁).setTop { g with stack := rest } := by
    show ((T.setVm vm₁).setTop g).setTop _ = _
    rw [State.setTop_setTop]
  rw [eS]
  refine hwp _ _ _ _ _ (fun d' acts' => ?_)
  simp only [wp_bind', W.mark, W.pushRef, State.topJava?_setTop' _ XF.here.top, Option.some.injEq, exists_eq_left', State.setTop_setTop, State.heap_setTop]
  intro acts
  simp [jvm, XF.here.top]
  exact a1
theorem so_multianewarray {idx nd : Nat} (C : Cx s0 args0 D p R s m meth c d mi) (hpg : gPG mi pc = some (.multianewarray idx nd)) (hL : LocOk la (gML mi) L) (hH : Hok s0 D μ H) (hq : ∀ q ∈ locs, s0.heap.size ≤ q.base) {pc' : Nat} {L' st' : List Value} {μ' : jM} (hs : jstep (gRS mi) (gKV mi) (gRC mi) (gIK mi) (.multianewarray idx nd) pc L st μ = some (.inl (pc', L', st', μ'))) (hc : cells + (jsz μ' - jsz μ) ≤ R.cells) (hsl : slots + (jsl μ' - jsl μ) ≤ R.slots)
    (kk : ∀ (la' : Array Slot) (H' : Heap) (locs' : List Loc), LocOk la' (gML mi) L' → Hok s0 D μ' H' → (∀ q ∈ locs', s0.heap.size ≤ q.base) → W p l e R s m args below meth c H' locs' (cells + (jsz μ' - jsz μ)) (slots + (jsl μ' - jsl μ)) Q (F0 m pc' la' st')) : W p l e R s m args below meth c H locs cells slots Q (F0 m pc la st) := by
  have h64 : ∀ {x : Int32}, 0 ≤ x → x ≤ 64 → (¬ x < 0) ∧ x.toNatClampNeg ≤ 64 := by
    intro x h1 h2
    refine ⟨Int32.not_lt.mpr h1, ?_⟩
    have h3 := Int32.le_iff_toInt_le.mp h2
    have h4 : (64 : Int32).toInt = 64 := by decide
    rw [h4] at h3
    show x.toInt.toNat ≤ 64
    omega
  have hfind : ∀ {x : Int32}, (¬ x < 0) → ([x].find? (· < 0)) = none := by
    intro x h
    simp [h]
  have hfind2 : ∀ {x y : Int32}, (¬ x < 0) → (¬ y < 0) → ([x, y].find? (· < 0)) = none := by
    intro x y h h2
    simp [h, h2]
  obtain ⟨cI, hKI, nI⟩ := C.kcI
  obtain ⟨cII, cI', hKII, nI', nII, mII⟩ := C.kcA (k := 33) rfl ao_i
  cases nI.symm.trans nI'
  obtain ⟨cIII, cII', hKIII, nII', nIII, mIII⟩ := C.kcA (k := 34) rfl ao_ii
  cases nII.symm.trans nII'
  obtain ⟨cIV, cIII', hKIV, nIII', nIV, mIV⟩ := C.kcA (k := 35) rfl ao_iii
  cases nIII.symm.trans nIII'
  have hmk : ∀ q, gRS mi idx = some q → q.2.2.2.2 = 30 → nd = 2 ∨ nd = 3 → Cond.classLink (gON (gOW mi)) idx (arrName q.2.2.2.1) ∈ lw_tbl ∧ 33 ≤ q.2.2.2.1 ∧ q.2.2.2.1 < 36 ∧ (nd = 2 → q.2.2.2.1 < 35) ∧ (nd = 3 → 33 < q.2.2.2.1) := by
    intro q hr hz _
    obtain ⟨hw, hsh⟩ := mk_words hpg rfl hr (Or.inr (Or.inr (Or.inl ⟨nd, rfl⟩)))
    unfold sshape at hsh
    simp only [hr, hz, beq_self_eq_true, Bool.not_true, Bool.false_or, Bool.and_eq_true, decide_eq_true_eq] at hsh
    simp only [swords, hr] at hw
    exact ⟨hw _ List.mem_cons_self, hsh.1.1.1, hsh.1.1.2, hsh.1.2, hsh.2⟩
  have hnd : nd = 2 ∨ nd = 3 := by
    by_cases e2 : nd = 2
    · exact Or.inl e2
    · by_cases e3 : nd = 3
      · exact Or.inr e3
      · exfalso
        first
        | (simp [jstep, e2, e3] at hs; done)
        | (unfold jstep at hs; split at hs <;> simp_all)
  rcases hnd with hnd | hnd
  · subst hnd
    simp only [jstep, Option.bind_eq_some_iff] at hs
    obtain ⟨q, hr, hs⟩ := hs
    split at hs
    · cases hs
    · rename_i hz
      obtain ⟨w1, k1, k2, k3, k4⟩ := hmk q hr (Classical.not_not.mp hz) (by decide)
      have k5 : q.2.2.2.1 = 33 ∨ q.2.2.2.1 = 34 := by
        have := k3 rfl
        omega
      clear k1 k2 k3 k4
      generalize q.2.2.2.1 = k at hs w1 k5
      split at hs
      · rename_i xm xn st1
        split at hs
        · rename_i hb
          obtain ⟨b0, b1, b2, b3⟩ := hb
          obtain ⟨xn1, xn2⟩ := h64 b0 b1
          obtain ⟨xm1, xm2⟩ := h64 b2 b3
          obtain ⟨rfl, rfl, rfl, rfl⟩ := jgo_inv hs
          rcases k5 with rfl | rfl
          · obtain ⟨z1, z2, z3⟩ := jfill2_loop μ 33 (jel 33) xn.toNatClampNeg xm.toNatClampNeg xn.toNatClampNeg
            have hM := makeS (p := p) (l := l) (e := e) (R := R) (s0 := s0) (s := s) (D := D) (m := m) (args := args) (below := below) (meth := meth) (c := c) (k := 33) (List.cons_ne_nil _ _) (hfind xm1) (by omega) (by omega) hKII mII xn1 xn2 (make1 (k := 20) (by decide) hKI xm1 xm2)
            rw [z2, z3] at kk
            rw [z2] at hc
            rw [z3] at hsl
            rw [z1] at kk
            have e3 : ∀ a b : Nat, a + 1 + b - a = 1 + b := fun a b => by omega
            have e4 : ∀ a b c : Nat, a + b + c - a = b + c := fun a b c => by omega
            rw [e3] at hc kk
            rw [e4] at hsl kk
            exact mk_step2 C C.2.2.2.2.1 (C.word w1 rfl) nII (C.dec hpg rfl) hM hH hq (by rw [Nat.mul_one]; exact hc) hsl (fun H' locs' q1 q2 => by rw [Nat.mul_one]; exact kk la H' locs' hL q1 q2)
          · obtain ⟨z1, z2, z3⟩ := jfill2_loop μ 34 (jel 34) xn.toNatClampNeg xm.toNatClampNeg xn.toNatClampNeg
            have hM := makeS (p := p) (l := l) (e := e) (R := R) (s0 := s0) (s := s) (D := D) (m := m) (args := args) (below := below) (meth := meth) (c := c) (k := 34) (List.cons_ne_nil _ _) (hfind xm1) (by omega) (by omega) hKIII mIII xn1 xn2 (make1 (k := 33) (by decide) hKII xm1 xm2)
            rw [z2, z3] at kk
            rw [z2] at hc
            rw [z3] at hsl
            rw [z1] at kk
            have e3 : ∀ a b : Nat, a + 1 + b - a = 1 + b := fun a b => by omega
            have e4 : ∀ a b c : Nat, a + b + c - a = b + c := fun a b c => by omega
            rw [e3] at hc kk
            rw [e4] at hsl kk
            exact mk_step2 C C.2.2.2.2.1 (C.word w1 rfl) nIII (C.dec hpg rfl) hM hH hq (by rw [Nat.mul_one]; exact hc) hsl (fun H' locs' q1 q2 => by rw [Nat.mul_one]; exact kk la H' locs' hL q1 q2)
        · cases hs
      · cases hs
  · subst hnd
    simp only [jstep, Option.bind_eq_some_iff] at hs
    obtain ⟨q, hr, hs⟩ := hs
    split at hs
    · cases hs
    · rename_i hz
      obtain ⟨w1, k1, k2, k3, k4⟩ := hmk q hr (Classical.not_not.mp hz) (by decide)
      have k5 : q.2.2.2.1 = 34 ∨ q.2.2.2.1 = 35 := by
        have := k4 rfl
        omega
      clear k1 k2 k3 k4
      generalize q.2.2.2.1 = k at hs w1 k5
      split at hs
      · rename_i xr xm xn st1
        split at hs
        · rename_i hb
          obtain ⟨b0, b1, b2, b3, b4, b5⟩ := hb
          obtain ⟨xn1, xn2⟩ := h64 b0 b1
          obtain ⟨xm1, xm2⟩ := h64 b2 b3
          obtain ⟨xr1, xr2⟩ := h64 b4 b5
          obtain ⟨rfl, rfl, rfl, rfl⟩ := jgo_inv hs
          rcases k5 with rfl | rfl
          · obtain ⟨z1, z2, z3⟩ := jfill3_loop μ 34 (jel 34) (jel (jel 34)) xn.toNatClampNeg xm.toNatClampNeg xr.toNatClampNeg xn.toNatClampNeg
            have hM := makeS (p := p) (l := l) (e := e) (R := R) (s0 := s0) (s := s) (D := D) (m := m) (args := args) (below := below) (meth := meth) (c := c) (k := 34) (List.cons_ne_nil _ _) (hfind2 xm1 xr1) (by omega) (by omega) hKIII mIII xn1 xn2 (makeS (k := 33) (List.cons_ne_nil _ _) (hfind xr1) (by omega) (by omega) hKII mII xm1 xm2 (make1 (k := 20) (by decide) hKI xr1 xr2))
            have hMe : (fun μ : jM => jloop (fun μ => jnew μ 20 xr.toNatClampNeg xr.toNatClampNeg) 33 xm.toNatClampNeg (jsz μ) μ xm.toNatClampNeg) = fun μ => jfill2 μ 33 20 xm.toNatClampNeg xr.toNatClampNeg xm.toNatClampNeg := by
              funext μ
              exact (jfill2_loop μ 33 20 xm.toNatClampNeg xr.toNatClampNeg xm.toNatClampNeg).1.symm
            rw [hMe] at hM
            rw [z2, z3] at kk
            rw [z2] at hc
            rw [z3] at hsl
            rw [z1] at kk
            have e3 : ∀ a b : Nat, a + 1 + b - a = 1 + b := fun a b => by omega
            have e4 : ∀ a b c : Nat, a + b + c - a = b + c := fun a b c => by omega
            rw [e3] at hc kk
            rw [e4] at hsl kk
            exact mk_step3 C C.2.2.2.2.1 (C.word w1 rfl) nIII (C.dec hpg rfl) hM hH hq (by rw [Nat.mul_one]; exact hc) hsl (fun H' locs' q1 q2 => by rw [Nat.mul_one]; exact kk la H' locs' hL q1 q2)
          · obtain ⟨z1, z2, z3⟩ := jfill3_loop μ 35 (jel 35) (jel (jel 35)) xn.toNatClampNeg xm.toNatClampNeg xr.toNatClampNeg xn.toNatClampNeg
            have hM := makeS (p := p) (l := l) (e := e) (R := R) (s0 := s0) (s := s) (D := D) (m := m) (args := args) (below := below) (meth := meth) (c := c) (k := 35) (List.cons_ne_nil _ _) (hfind2 xm1 xr1) (by omega) (by omega) hKIV mIV xn1 xn2 (makeS (k := 34) (List.cons_ne_nil _ _) (hfind xr1) (by omega) (by omega) hKIII mIII xm1 xm2 (make1 (k := 33) (by decide) hKII xr1 xr2))
            have hMe : (fun μ : jM => jloop (fun μ => jnew μ 33 xr.toNatClampNeg xr.toNatClampNeg) 34 xm.toNatClampNeg (jsz μ) μ xm.toNatClampNeg) = fun μ => jfill2 μ 34 33 xm.toNatClampNeg xr.toNatClampNeg xm.toNatClampNeg := by
              funext μ
              exact (jfill2_loop μ 34 33 xm.toNatClampNeg xr.toNatClampNeg xm.toNatClampNeg).1.symm
            rw [hMe] at hM
            rw [z2, z3] at kk
            rw [z2] at hc
            rw [z3] at hsl
            rw [z1] at kk
            have e3 : ∀ a b : Nat, a + 1 + b - a = 1 + b := fun a b => by omega
            have e4 : ∀ a b c : Nat, a + b + c - a = b + c := fun a b c => by omega
            rw [e3] at hc kk
            rw [e4] at hsl kk
            exact mk_step3 C C.2.2.2.2.1 (C.word w1 rfl) nIV (C.dec hpg rfl) hM hH hq (by rw [Nat.mul_one]; exact hc) hsl (fun H' locs' q1 q2 => by rw [Nat.mul_one]; exact kk la H' locs' hL q1 q2)
        · cases hs
      · cases hs
end SIM
