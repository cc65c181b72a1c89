/-! STEPS AS EQUATIONS: one row an instruction of the small machine; the blocks of the methods are chains of these -/
theorem st1 {d mi pc pc' : Nat} {ls st ls' st' : List Value} {μ μ' : jM} {i : Instr} (h : gPG mi pc = some i) (hs : jstep (gRS mi) (gKV mi) (gRC mi) (gIK mi) i pc ls st μ = some (.inl (pc', ls', st', μ'))) : jR d mi pc ls st μ = jR d mi pc' ls' st' μ' := by
  rw [jR_step, h]; simp only [Option.bind_some, hs]; rfl
theorem stb {α : Type} {d mi pc : Nat} {ls st : List Value} {μ : jM} {i : Instr} {o : Option α} {f : α → jO} {g : α → Option (Option Value × jM)} (h : gPG mi pc = some i) (hs : jstep (gRS mi) (gKV mi) (gRC mi) (gIK mi) i pc ls st μ = o.bind fun x => some (f x)) (hg : ∀ x, jcont jR d mi pc ls μ (f x) = g x) : jR d mi pc ls st μ = o.bind g := by
  rw [jR_step, h]; simp only [Option.bind_some, hs]
  cases o with
  | none => rfl
  | some x => exact hg x
theorem stn {d mi pc : Nat} {ls st : List Value} {μ : jM} {i : Instr} (h : gPG mi pc = some i) (hs : jstep (gRS mi) (gKV mi) (gRC mi) (gIK mi) i pc ls st μ = none) : jR d mi pc ls st μ = none := by
  rw [jR_step, h]; simp only [Option.bind_some, hs]; rfl
theorem str {d mi pc : Nat} {ls st : List Value} {μ : jM} {i : Instr} {r : Option Value × jM} (h : gPG mi pc = some i) (hs : jstep (gRS mi) (gKV mi) (gRC mi) (gIK mi) i pc ls st μ = some (.inr (.inl r))) : jR d mi pc ls st μ = some r := by
  rw [jR_step, h]; simp only [Option.bind_some, hs]; rfl
theorem ite_cg {α : Type} {c : Prop} {ic : Decidable c} {a b a' b' : α} (h1 : a = a') (h2 : b = b') : (@ite α c ic a b) = (@ite α c ic a' b') := by rw [h1, h2]
theorem bd_cg {α β : Type} {x : Option α} {f g : α → Option β} (h : ∀ w, x = some w → f w = g w) : x.bind f = x.bind g := by
  cases x with
  | none => rfl
  | some w => exact h w rfl
section STEPS
variable {d mi pc pc' t k : Nat} {ls st : List Value} {μ : jM} {x y z c : Int32} {v w : Value} {n off : Int}
-- references
theorem jr_ref {a : Nat} : jisref (.ref a) = true := rfl
theorem jr_null : jisref .null = true := rfl
theorem jr_rf {o : Option Nat} : jisref (va_rf o) = true := by cases o <;> rfl
theorem jr_cat (h : jisref v = true) : v.category = 1 := by
  rcases ref_cases h with rfl | ⟨a, rfl⟩ <;> rfl
theorem jr_cat1 (h : jisref v = true) : jcat1 v = true := by
  rcases ref_cases h with rfl | ⟨a, rfl⟩ <;> rfl
theorem jr_gR {k sl : Nat} (h : jgR μ k sl v = some w) : jisref w = true := by
  unfold jgR at h
  simp only [Option.bind_eq_some_iff] at h
  obtain ⟨q, -, h⟩ := h
  split at h
  · cases h; exact jr_rf
  · cases h
theorem jr_aR {i : Int32} (h : jaR μ v i = some w) : jisref w = true := by
  unfold jaR at h
  simp only [Option.bind_eq_some_iff] at h
  obtain ⟨q, -, h⟩ := h
  split at h
  · cases h; exact jr_rf
  · cases h
theorem jun_rf (o : Option Nat) : jun (va_rf o) = o := by cases o <;> rfl
theorem rf_jun (h : jisref v = true) : va_rf (jun v) = v := by
  rcases ref_cases h with rfl | ⟨a, rfl⟩ <;> rfl
-- locals, constants
theorem l_aload (h : gPG mi pc = some (.aload k)) (hl : ls[k]? = some v) (hv : jisref v = true) : jR d mi pc ls st μ = jR d mi (pc + 2) ls (v :: st) μ :=
  st1 h (by show jlda ls k (pc + 2) st μ = _; unfold jlda; rw [hl]; simp only [Option.bind_some, hv]; rfl)
theorem l_aload_n {k : Fin 4} (h : gPG mi pc = some (.aload_n k)) (hl : ls[k.val]? = some v) (hv : jisref v = true) : jR d mi pc ls st μ = jR d mi (pc + 1) ls (v :: st) μ :=
  st1 h (by show jlda ls k.val (pc + 1) st μ = _; unfold jlda; rw [hl]; simp only [Option.bind_some, hv]; rfl)
theorem l_iload (h : gPG mi pc = some (.iload k)) (hl : ls[k]? = some (.int x)) : jR d mi pc ls st μ = jR d mi (pc + 2) ls (.int x :: st) μ :=
  st1 h (by show jld ls k (pc + 2) st μ = _; unfold jld; rw [hl]; rfl)
theorem l_iload_n {k : Fin 4} (h : gPG mi pc = some (.iload_n k)) (hl : ls[k.val]? = some (.int x)) : jR d mi pc ls st μ = jR d mi (pc + 1) ls (.int x :: st) μ :=
  st1 h (by show jld ls k.val (pc + 1) st μ = _; unfold jld; rw [hl]; rfl)
theorem l_istore {ls' : List Value} (h : gPG mi pc = some (.istore k)) (hl : k < ls.length) (hs : ls.set k (.int x) = ls') : jR d mi pc ls (.int x :: st) μ = jR d mi (pc + 2) ls' st μ :=
  st1 h (by show (jset ls k (.int x)).bind _ = _; unfold jset; rw [if_pos hl, hs]; rfl)
theorem l_istore_n {k : Fin 4} {ls' : List Value} (h : gPG mi pc = some (.istore_n k)) (hl : k.val < ls.length) (hs : ls.set k.val (.int x) = ls') : jR d mi pc ls (.int x :: st) μ = jR d mi (pc + 1) ls' st μ :=
  st1 h (by show (jset ls k.val (.int x)).bind _ = _; unfold jset; rw [if_pos hl, hs]; rfl)
theorem l_astore {ls' : List Value} (h : gPG mi pc = some (.astore k)) (hv : jisref v = true) (hl : k < ls.length) (hs : ls.set k v = ls') : jR d mi pc ls (v :: st) μ = jR d mi (pc + 2) ls' st μ :=
  st1 h (by show jsta ls k (pc + 2) (v :: st) μ = _; unfold jsta; simp only [hv, if_true]; unfold jset; rw [if_pos hl, hs]; rfl)
theorem l_astore_n {k : Fin 4} {ls' : List Value} (h : gPG mi pc = some (.astore_n k)) (hv : jisref v = true) (hl : k.val < ls.length) (hs : ls.set k.val v = ls') : jR d mi pc ls (v :: st) μ = jR d mi (pc + 1) ls' st μ :=
  st1 h (by show jsta ls k.val (pc + 1) (v :: st) μ = _; unfold jsta; simp only [hv, if_true]; unfold jset; rw [if_pos hl, hs]; rfl)
theorem l_iinc {ls' : List Value} (h : gPG mi pc = some (.iinc k n)) (hc : Int32.ofInt n = c) (hl : ls[k]? = some (.int x)) (hs : ls.set k (.int (x + c)) = ls') : jR d mi pc ls st μ = jR d mi (pc + 3) ls' st μ :=
  st1 h (by
    have hk : k < ls.length := (List.getElem?_eq_some_iff.mp hl).1
    show (ls[k]?).bind _ = _
    rw [hl]; simp only [Option.bind_some]; unfold jset; rw [if_pos hk, hc, hs]; rfl)
theorem l_iconst (h : gPG mi pc = some (.iconst n)) (hc : Int32.ofInt n = c) : jR d mi pc ls st μ = jR d mi (pc + 1) ls (.int c :: st) μ := st1 h (by rw [← hc]; rfl)
theorem l_bipush (h : gPG mi pc = some (.bipush n)) (hc : (Int8.ofInt n).toInt32 = c) : jR d mi pc ls st μ = jR d mi (pc + 2) ls (.int c :: st) μ := st1 h (by rw [← hc]; rfl)
theorem l_sipush (h : gPG mi pc = some (.sipush n)) (hc : (Int16.ofInt n).toInt32 = c) : jR d mi pc ls st μ = jR d mi (pc + 3) ls (.int c :: st) μ := st1 h (by rw [← hc]; rfl)
theorem l_anull (h : gPG mi pc = some .aconst_null) : jR d mi pc ls st μ = jR d mi (pc + 1) ls (.null :: st) μ := st1 h rfl
theorem l_ldc (h : gPG mi pc = some (.ldc k)) (hk : gKV mi k = some (.inl (.int c))) : jR d mi pc ls st μ = jR d mi (pc + 2) ls (.int c :: st) μ :=
  st1 h (by show (gKV mi k).bind _ = _; rw [hk]; rfl)
theorem l_ldcs {j : Nat} (h : gPG mi pc = some (.ldc k)) (hk : gKV mi k = some (.inr j)) (hj : ¬ j < 8) : jR d mi pc ls st μ = jR d mi (pc + 2) ls (jext μ j :: st) μ :=
  st1 h (by show (gKV mi k).bind _ = _; rw [hk]; simp only [Option.bind_some]; rw [if_neg hj]; rfl)
theorem l_ldcw (h : gPG mi pc = some (.ldc_w k)) (hk : gKV mi k = some (.inl (.int c))) : jR d mi pc ls st μ = jR d mi (pc + 3) ls (.int c :: st) μ :=
  st1 h (by show (gKV mi k).bind _ = _; rw [hk]; rfl)
theorem l_ldcws {j : Nat} (h : gPG mi pc = some (.ldc_w k)) (hk : gKV mi k = some (.inr j)) (hj : ¬ j < 8) : jR d mi pc ls st μ = jR d mi (pc + 3) ls (jext μ j :: st) μ :=
  st1 h (by show (gKV mi k).bind _ = _; rw [hk]; simp only [Option.bind_some]; rw [if_neg hj]; rfl)
theorem l_ldc2 {q : Int64} (h : gPG mi pc = some (.ldc2_w k)) (hk : gKV mi k = some (.inl (.long q))) : jR d mi pc ls st μ = jR d mi (pc + 3) ls (.long q :: st) μ :=
  st1 h (by show (gKV mi k).bind _ = _; rw [hk]; rfl)
theorem l_gets {j : Nat} (h : gPG mi pc = some (.getstatic k)) (hk : gKV mi k = some (.inr j)) (hj : j < 8) : jR d mi pc ls st μ = jR d mi (pc + 3) ls (jext μ j :: st) μ :=
  st1 h (by show (gKV mi k).bind _ = _; rw [hk]; simp only [Option.bind_some]; rw [if_pos hj]; rfl)
theorem l_dup (h : gPG mi pc = some .dup) (hv : jcat1 v = true) : jR d mi pc ls (v :: st) μ = jR d mi (pc + 1) ls (v :: v :: st) μ := st1 h (by show (if jcat1 v = true then _ else _) = _; rw [if_pos hv]; rfl)
theorem l_dupx1 (h : gPG mi pc = some .dup_x1) (hv : jcat1 v = true) (hw : jcat1 w = true) : jR d mi pc ls (v :: w :: st) μ = jR d mi (pc + 1) ls (v :: w :: v :: st) μ := st1 h (by show (if jcat1 v = true ∧ jcat1 w = true then _ else _) = _; rw [if_pos ⟨hv, hw⟩]; rfl)
theorem l_dup2 (h : gPG mi pc = some .dup2) (hv : jcat1 v = true) (hw : jcat1 w = true) : jR d mi pc ls (v :: w :: st) μ = jR d mi (pc + 1) ls (v :: w :: v :: w :: st) μ := st1 h (by show (if jcat1 v = true ∧ jcat1 w = true then _ else _) = _; rw [if_pos ⟨hv, hw⟩]; rfl)
theorem l_pop (h : gPG mi pc = some .pop) (hv : jcat1 v = true) : jR d mi pc ls (v :: st) μ = jR d mi (pc + 1) ls st μ := st1 h (by show (if jcat1 v = true then _ else _) = _; rw [if_pos hv]; rfl)
-- arithmetic
theorem l_iadd (h : gPG mi pc = some .iadd) : jR d mi pc ls (.int y :: .int x :: st) μ = jR d mi (pc + 1) ls (.int (x + y) :: st) μ := st1 h rfl
theorem l_isub (h : gPG mi pc = some .isub) : jR d mi pc ls (.int y :: .int x :: st) μ = jR d mi (pc + 1) ls (.int (x - y) :: st) μ := st1 h rfl
theorem l_imul (h : gPG mi pc = some .imul) : jR d mi pc ls (.int y :: .int x :: st) μ = jR d mi (pc + 1) ls (.int (x * y) :: st) μ := st1 h rfl
theorem l_iand (h : gPG mi pc = some .iand) : jR d mi pc ls (.int y :: .int x :: st) μ = jR d mi (pc + 1) ls (.int (x &&& y) :: st) μ := st1 h rfl
theorem l_ior (h : gPG mi pc = some .ior) : jR d mi pc ls (.int y :: .int x :: st) μ = jR d mi (pc + 1) ls (.int (x ||| y) :: st) μ := st1 h rfl
theorem l_ishl (h : gPG mi pc = some .ishl) : jR d mi pc ls (.int y :: .int x :: st) μ = jR d mi (pc + 1) ls (.int (x <<< (y &&& 31)) :: st) μ := st1 h rfl
theorem l_ishr (h : gPG mi pc = some .ishr) : jR d mi pc ls (.int y :: .int x :: st) μ = jR d mi (pc + 1) ls (.int (x >>> (y &&& 31)) :: st) μ := st1 h rfl
theorem l_iushr (h : gPG mi pc = some .iushr) : jR d mi pc ls (.int y :: .int x :: st) μ = jR d mi (pc + 1) ls (.int ((x.toUInt32 >>> (y.toUInt32 &&& Int32.toUInt32 31)).toInt32) :: st) μ := st1 h rfl
theorem l_ineg (h : gPG mi pc = some .ineg) : jR d mi pc ls (.int x :: st) μ = jR d mi (pc + 1) ls (.int (-x) :: st) μ := st1 h rfl
theorem l_i2b (h : gPG mi pc = some .i2b) : jR d mi pc ls (.int x :: st) μ = jR d mi (pc + 1) ls (.int x.toInt8.toInt32 :: st) μ := st1 h rfl
theorem l_i2s (h : gPG mi pc = some .i2s) : jR d mi pc ls (.int x :: st) μ = jR d mi (pc + 1) ls (.int x.toInt16.toInt32 :: st) μ := st1 h rfl
theorem l_i2c (h : gPG mi pc = some .i2c) : jR d mi pc ls (.int x :: st) μ = jR d mi (pc + 1) ls (.int (x.toUInt32 % 65536).toInt32 :: st) μ := st1 h rfl
theorem l_i2l (h : gPG mi pc = some .i2l) : jR d mi pc ls (.int x :: st) μ = jR d mi (pc + 1) ls (.long x.toInt64 :: st) μ := st1 h rfl
theorem l_lcmp {p q : Int64} (h : gPG mi pc = some .lcmp) : jR d mi pc ls (.long q :: .long p :: st) μ = jR d mi (pc + 1) ls (.int (lg_cmp p q) :: st) μ := st1 h rfl
theorem l_idivK (h : gPG mi pc = some .idiv) (hy : y ≠ 0) : jR d mi pc ls (.int y :: .int x :: st) μ = jR d mi (pc + 1) ls (.int (x / y) :: st) μ := st1 h (by show (if y = 0 then _ else _) = _; rw [if_neg hy]; rfl)
theorem l_iremK (h : gPG mi pc = some .irem) (hy : y ≠ 0) : jR d mi pc ls (.int y :: .int x :: st) μ = jR d mi (pc + 1) ls (.int (x - x / y * y) :: st) μ := st1 h (by show (if y = 0 then _ else _) = _; rw [if_neg hy]; rfl)
theorem l_idiv (h : gPG mi pc = some .idiv) : jR d mi pc ls (.int y :: .int x :: st) μ = if y = 0 then none else jR d mi (pc + 1) ls (.int (x / y) :: st) μ := by
  split
  · rename_i hy; exact stn h (by show (if y = 0 then _ else _) = _; rw [if_pos hy])
  · rename_i hy; exact l_idivK h hy
theorem l_irem (h : gPG mi pc = some .irem) : jR d mi pc ls (.int y :: .int x :: st) μ = if y = 0 then none else jR d mi (pc + 1) ls (.int (x - x / y * y) :: st) μ := by
  split
  · rename_i hy; exact stn h (by show (if y = 0 then _ else _) = _; rw [if_pos hy])
  · rename_i hy; exact l_iremK h hy
-- branches
theorem l_goto (h : gPG mi pc = some (.goto off)) (ht : jtgt pc off = some t) : jR d mi pc ls st μ = jR d mi t ls st μ := st1 h (by show (jtgt pc off).bind _ = _; rw [ht]; rfl)
theorem l_cmp {cc : Jvm.ClassFile.Cond} (h : gPG mi pc = some (.if_icmp cc off)) (ht : jtgt pc off = some t) : jR d mi pc ls (.int y :: .int x :: st) μ = if jcmp cc x y = true then jR d mi t ls st μ else jR d mi (pc + 3) ls st μ := by
  split
  · rename_i hc; exact st1 h (by show (jtgt pc off).bind _ = _; rw [ht]; simp only [Option.bind_some]; rw [if_pos hc]; rfl)
  · rename_i hc; exact st1 h (by show (jtgt pc off).bind _ = _; rw [ht]; simp only [Option.bind_some]; rw [if_neg hc]; rfl)
theorem l_cmp0 {cc : Jvm.ClassFile.Cond} (h : gPG mi pc = some (.ifCond cc off)) (ht : jtgt pc off = some t) : jR d mi pc ls (.int x :: st) μ = if jcmp cc x 0 = true then jR d mi t ls st μ else jR d mi (pc + 3) ls st μ := by
  split
  · rename_i hc; exact st1 h (by show (jtgt pc off).bind _ = _; rw [ht]; simp only [Option.bind_some]; rw [if_pos hc]; rfl)
  · rename_i hc; exact st1 h (by show (jtgt pc off).bind _ = _; rw [ht]; simp only [Option.bind_some]; rw [if_neg hc]; rfl)
theorem jm_eq {α : Type} {a b : α} : (if jcmp .eq x y = true then a else b) = if x = y then a else b := by simp only [jcmp, beq_iff_eq]
theorem jm_ne {α : Type} {a b : α} : (if jcmp .ne x y = true then a else b) = if x = y then b else a := by
  by_cases h : x = y <;> simp [jcmp, h]
theorem jm_lt {α : Type} {a b : α} : (if jcmp .lt x y = true then a else b) = if x < y then a else b := by simp only [jcmp, decide_eq_true_eq]
theorem jm_ge {α : Type} {a b : α} : (if jcmp .ge x y = true then a else b) = if x < y then b else a := by
  by_cases h : x < y <;> simp [jcmp, h]
theorem jm_gt {α : Type} {a b : α} : (if jcmp .gt x y = true then a else b) = if y < x then a else b := by simp only [jcmp, decide_eq_true_eq]
theorem jm_le {α : Type} {a b : α} : (if jcmp .le x y = true then a else b) = if y < x then b else a := by
  by_cases h : y < x <;> simp [jcmp, h]
theorem l_ifnull (h : gPG mi pc = some (.ifnull off)) (hv : jisref v = true) (ht : jtgt pc off = some t) : jR d mi pc ls (v :: st) μ = if jun v = none then jR d mi t ls st μ else jR d mi (pc + 3) ls st μ := by
  split
  · rename_i hc; exact st1 h (by show (if jisref v = true then _ else _) = _; rw [if_pos hv, ht]; simp only [Option.bind_some]; rw [if_pos hc]; rfl)
  · rename_i hc; exact st1 h (by show (if jisref v = true then _ else _) = _; rw [if_pos hv, ht]; simp only [Option.bind_some]; rw [if_neg hc]; rfl)
theorem l_ifnonnull (h : gPG mi pc = some (.ifnonnull off)) (hv : jisref v = true) (ht : jtgt pc off = some t) : jR d mi pc ls (v :: st) μ = if jun v = none then jR d mi (pc + 3) ls st μ else jR d mi t ls st μ := by
  split
  · rename_i hc; exact st1 h (by show (if jisref v = true then _ else _) = _; rw [if_pos hv, ht]; simp only [Option.bind_some]; rw [if_pos hc]; rfl)
  · rename_i hc; exact st1 h (by show (if jisref v = true then _ else _) = _; rw [if_pos hv, ht]; simp only [Option.bind_some]; rw [if_neg hc]; rfl)
theorem l_tsw {dd lo hi : Int} {offs : Array Int} {F : Int32 → Option Nat} (h : gPG mi pc = some (.tableswitch dd lo hi offs)) (hF : ∀ x, ((jsw (.tableswitch dd lo hi offs) x).bind fun o => jtgt pc o) = F x) : jR d mi pc ls (.int x :: st) μ = (F x).bind fun t => jR d mi t ls st μ := by
  rw [← hF, Option.bind_assoc]
  refine Eq.trans (stb (f := fun t => (.inl (t, ls, st, μ) : jO)) (o := (jsw (.tableswitch dd lo hi offs) x).bind fun o => jtgt pc o) h ?_ (fun _ => rfl)) (Option.bind_assoc _ _ _)
  rw [Option.bind_assoc]; rfl
theorem l_lsw {dd : Int} {ps : Array (Int × Int)} {F : Int32 → Option Nat} (h : gPG mi pc = some (.lookupswitch dd ps)) (hF : ∀ x, ((jsw (.lookupswitch dd ps) x).bind fun o => jtgt pc o) = F x) : jR d mi pc ls (.int x :: st) μ = (F x).bind fun t => jR d mi t ls st μ := by
  rw [← hF, Option.bind_assoc]
  refine Eq.trans (stb (f := fun t => (.inl (t, ls, st, μ) : jO)) (o := (jsw (.lookupswitch dd ps) x).bind fun o => jtgt pc o) h ?_ (fun _ => rfl)) (Option.bind_assoc _ _ _)
  rw [Option.bind_assoc]; rfl
theorem ite_bd {α β : Type} {c : Prop} {ic : Decidable c} {a : α} {e : Option α} {g : α → Option β} {r1 r2 : Option β} (h1 : g a = r1) (h2 : e.bind g = r2) : (@ite (Option α) c ic (some a) e).bind g = @ite (Option β) c ic r1 r2 := by
  split
  · exact h1
  · exact h2
theorem sm_bd {α β : Type} {a : α} {g : α → Option β} {r1 : Option β} (h1 : g a = r1) : (some a).bind g = r1 := h1
-- memory
theorem l_gI {kd sl tc fin z : Nat} (h : gPG mi pc = some (.getfield k)) (hr : gRS mi k = some (kd, sl, tc, fin, z)) (hz : ¬ 1 < z) (htc : ¬ tc = 1) : jR d mi pc ls (v :: st) μ = (jgI μ kd sl v).bind fun x => jR d mi (pc + 3) ls (.int x :: st) μ := by
  refine stb (f := fun x => (.inl (pc + 3, ls, .int x :: st, μ) : jO)) h ?_ (fun _ => rfl)
  show (gRS mi k).bind _ = _
  rw [hr]; simp only [Option.bind_some]; rw [if_neg hz, if_neg htc]; rfl
theorem l_gR {kd sl tc fin z : Nat} (h : gPG mi pc = some (.getfield k)) (hr : gRS mi k = some (kd, sl, tc, fin, z)) (hz : ¬ 1 < z) (htc : tc = 1) : jR d mi pc ls (v :: st) μ = (jgR μ kd sl v).bind fun x => jR d mi (pc + 3) ls (x :: st) μ := by
  refine stb (f := fun x => (.inl (pc + 3, ls, x :: st, μ) : jO)) h ?_ (fun _ => rfl)
  show (gRS mi k).bind _ = _
  rw [hr]; simp only [Option.bind_some]; rw [if_neg hz, if_pos htc]; rfl
theorem l_pI {kd sl tc fin z : Nat} (h : gPG mi pc = some (.putfield k)) (hr : gRS mi k = some (kd, sl, tc, fin, z)) (hz : ¬ (1 < z ∨ (fin = 1 ∧ ¬ (gIK mi = kd + 1 ∧ z = 0)))) (htc : ¬ tc = 1) : jR d mi pc ls (.int x :: v :: st) μ = (jpI μ kd sl tc v x).bind fun μ' => jR d mi (pc + 3) ls st μ' := by
  refine stb (f := fun μ' => (.inl (pc + 3, ls, st, μ') : jO)) h ?_ (fun _ => rfl)
  show (gRS mi k).bind _ = _
  rw [hr]; simp only [Option.bind_some]; rw [if_neg hz, if_neg htc]; rfl
theorem l_pR {kd sl tc fin z : Nat} (h : gPG mi pc = some (.putfield k)) (hr : gRS mi k = some (kd, sl, tc, fin, z)) (hz : ¬ (1 < z ∨ (fin = 1 ∧ ¬ (gIK mi = kd + 1 ∧ z = 0)))) (htc : tc = 1) (hw : jisref w = true) : jR d mi pc ls (w :: v :: st) μ = (jpR μ kd sl v w).bind fun μ' => jR d mi (pc + 3) ls st μ' := by
  refine stb (f := fun μ' => (.inl (pc + 3, ls, st, μ') : jO)) h ?_ (fun _ => rfl)
  show (gRS mi k).bind _ = _
  rw [hr]; simp only [Option.bind_some]; rw [if_neg hz]
  rcases ref_cases hw with rfl | ⟨a, rfl⟩
  · show (if tc = 1 then _ else _) = _
    rw [if_pos htc]; rfl
  · show (if tc = 1 then _ else _) = _
    rw [if_pos htc]; rfl
theorem l_iald (h : gPG mi pc = some .iaload) : jR d mi pc ls (.int x :: v :: st) μ = (jaI μ v x).bind fun y => jR d mi (pc + 1) ls (.int y :: st) μ := stb (f := fun y => (.inl (pc + 1, ls, .int y :: st, μ) : jO)) h rfl (fun _ => rfl)
theorem l_bald (h : gPG mi pc = some .baload) : jR d mi pc ls (.int x :: v :: st) μ = (jaB μ v x).bind fun y => jR d mi (pc + 1) ls (.int y :: st) μ := stb (f := fun y => (.inl (pc + 1, ls, .int y :: st, μ) : jO)) h rfl (fun _ => rfl)
theorem l_aald (h : gPG mi pc = some .aaload) : jR d mi pc ls (.int x :: v :: st) μ = (jaR μ v x).bind fun y => jR d mi (pc + 1) ls (y :: st) μ := stb (f := fun y => (.inl (pc + 1, ls, y :: st, μ) : jO)) h rfl (fun _ => rfl)
theorem l_iast (h : gPG mi pc = some .iastore) : jR d mi pc ls (.int y :: .int x :: v :: st) μ = (jsI μ v x y).bind fun μ' => jR d mi (pc + 1) ls st μ' := stb (f := fun μ' => (.inl (pc + 1, ls, st, μ') : jO)) h rfl (fun _ => rfl)
theorem l_bast (h : gPG mi pc = some .bastore) : jR d mi pc ls (.int y :: .int x :: v :: st) μ = (jsB μ v x y).bind fun μ' => jR d mi (pc + 1) ls st μ' := stb (f := fun μ' => (.inl (pc + 1, ls, st, μ') : jO)) h rfl (fun _ => rfl)
theorem l_aast (h : gPG mi pc = some .aastore) : jR d mi pc ls (w :: .int x :: v :: st) μ = (jsR μ v x w).bind fun μ' => jR d mi (pc + 1) ls st μ' := stb (f := fun μ' => (.inl (pc + 1, ls, st, μ') : jO)) h rfl (fun _ => rfl)
theorem l_alen (h : gPG mi pc = some .arraylength) : jR d mi pc ls (v :: st) μ = (jal μ v).bind fun y => jR d mi (pc + 1) ls (.int y :: st) μ := stb (f := fun y => (.inl (pc + 1, ls, .int y :: st, μ) : jO)) h rfl (fun _ => rfl)
theorem l_new {kd wd q3 q4 : Nat} (h : gPG mi pc = some (.new k)) (hr : gRS mi k = some (kd, wd, q3, q4, 30)) : jR d mi pc ls st μ = jR d mi (pc + 3) ls (.ref (jsz μ) :: st) (jnew μ kd 0 wd) := st1 h (by
  show (gRS mi k).bind _ = _
  rw [hr]; rfl)
def jnaK : Jvm.ClassFile.ArrayType → Option Nat
  | .int => some 20 | .boolean => some 21 | .byte => some 22 | _ => none
theorem l_newa {at' : Jvm.ClassFile.ArrayType} {kd : Nat} (h : gPG mi pc = some (.newarray at')) (hk : jnaK at' = some kd) : jR d mi pc ls (.int x :: st) μ = (jnA μ kd x).bind fun p => jR d mi (pc + 2) ls (p.1 :: st) p.2 := by
  refine stb (f := fun p => (.inl (pc + 2, ls, p.1 :: st, p.2) : jO)) h ?_ (fun _ => rfl)
  cases at' <;> first | (cases hk; rfl) | cases hk
theorem l_anewa {q1 q2 q3 kd : Nat} (h : gPG mi pc = some (.anewarray k)) (hr : gRS mi k = some (q1, q2, q3, kd, 30)) : jR d mi pc ls (.int x :: st) μ = (jnA μ kd x).bind fun p => jR d mi (pc + 3) ls (p.1 :: st) p.2 := by
  refine stb (f := fun p => (.inl (pc + 3, ls, p.1 :: st, p.2) : jO)) h ?_ (fun _ => rfl)
  show (gRS mi k).bind _ = _
  rw [hr]; rfl
theorem nA_eq {kd : Nat} : jnA μ kd x = if 0 ≤ x ∧ x ≤ 65536 then some (.ref (jsz μ), jnew μ kd x.toNatClampNeg x.toNatClampNeg) else none := rfl
theorem l_newaK {at' : Jvm.ClassFile.ArrayType} {kd N : Nat} (h : gPG mi pc = some (.newarray at')) (hk : jnaK at' = some kd) (hx : (0 ≤ x ∧ x ≤ 65536) ∧ x.toNatClampNeg = N) : jR d mi pc ls (.int x :: st) μ = jR d mi (pc + 2) ls (.ref (jsz μ) :: st) (jnew μ kd N N) := by
  rw [l_newa h hk, nA_eq, if_pos hx.1, hx.2]; rfl
theorem l_anewaK {q1 q2 q3 kd N : Nat} (h : gPG mi pc = some (.anewarray k)) (hr : gRS mi k = some (q1, q2, q3, kd, 30)) (hx : (0 ≤ x ∧ x ≤ 65536) ∧ x.toNatClampNeg = N) : jR d mi pc ls (.int x :: st) μ = jR d mi (pc + 3) ls (.ref (jsz μ) :: st) (jnew μ kd N N) := by
  rw [l_anewa h hr, nA_eq, if_pos hx.1, hx.2]; rfl
theorem l_mnaK {q1 q2 q3 kd N M : Nat} (h : gPG mi pc = some (.multianewarray k 2)) (hr : gRS mi k = some (q1, q2, q3, kd, 30)) (hx : (0 ≤ x ∧ x ≤ 64 ∧ 0 ≤ y ∧ y ≤ 64) ∧ x.toNatClampNeg = N ∧ y.toNatClampNeg = M) : jR d mi pc ls (.int y :: .int x :: st) μ = jR d mi (pc + 4) ls (.ref (jsz μ) :: st) (jfill2 μ kd (jel kd) N M N) := st1 h (by
  show (gRS mi k).bind _ = _
  rw [hr]; simp only [Option.bind_some]
  show (if _ then _ else _) = _
  rw [if_neg (by simp), ← hx.2.1, ← hx.2.2]
  show (if _ then _ else _) = _
  rw [if_pos hx.1]; rfl)
theorem l_mna3K {q1 q2 q3 kd N M T : Nat} (h : gPG mi pc = some (.multianewarray k 3)) (hr : gRS mi k = some (q1, q2, q3, kd, 30)) (hx : (0 ≤ x ∧ x ≤ 64 ∧ 0 ≤ y ∧ y ≤ 64 ∧ 0 ≤ z ∧ z ≤ 64) ∧ x.toNatClampNeg = N ∧ y.toNatClampNeg = M ∧ z.toNatClampNeg = T) : jR d mi pc ls (.int z :: .int y :: .int x :: st) μ = jR d mi (pc + 4) ls (.ref (jsz μ) :: st) (jfill3 μ kd (jel kd) (jel (jel kd)) N M T N) := st1 h (by
  show (gRS mi k).bind _ = _
  rw [hr]; simp only [Option.bind_some]
  show (if _ then _ else _) = _
  rw [if_neg (by simp), ← hx.2.1, ← hx.2.2.1, ← hx.2.2.2]
  show (if _ then _ else _) = _
  rw [if_pos hx.1]; rfl)
def jck (μ : jM) (k : Nat) (v : Value) : Bool := (jat μ v).any fun t => t.2.1 == k && (t.2.1 == 20 || t.2.1 == 22)
theorem l_cast {q1 q2 kd q4 : Nat} (h : gPG mi pc = some (.checkcast k)) (hr : gRS mi k = some (q1, q2, kd, q4, 30)) : jR d mi pc ls (v :: st) μ = if jck μ kd v = true then jR d mi (pc + 3) ls (v :: st) μ else none := by
  have e : jstep (gRS mi) (gKV mi) (gRC mi) (gIK mi) (.checkcast k) pc ls (v :: st) μ = if jck μ kd v = true then some (.inl (pc + 3, ls, v :: st, μ)) else none := by
    show (gRS mi k).bind _ = _
    rw [hr]; simp only [Option.bind_some]
    show (if _ then _ else _) = _
    rw [if_neg (by simp)]
    unfold jck
    show (jat μ v).bind _ = _
    cases e : jat μ v with
    | none => rfl
    | some t =>
      simp only [Option.bind_some, Option.any_some, Bool.and_eq_true, beq_iff_eq, Bool.or_eq_true]
      rfl
  split
  · rename_i hc; exact st1 h (by rw [e, if_pos hc])
  · rename_i hc; exact stn h (by rw [e, if_neg hc])
-- ends
theorem l_ret (h : gPG mi pc = some .return_) (hrc : gRC mi = 0) : jR d mi pc ls [] μ = some (none, μ) := str h (by show (if gRC mi = 0 then _ else _) = _; rw [if_pos hrc])
theorem l_iretK (h : gPG mi pc = some .ireturn) (hrc : jrf (gRC mi) x = true) : jR d mi pc ls [.int x] μ = some (some (.int x), μ) := str h (by show (if jrf (gRC mi) x = true then _ else _) = _; rw [if_pos hrc])
theorem l_iret (h : gPG mi pc = some .ireturn) {rc : Nat} (hrc : gRC mi = rc) : jR d mi pc ls [.int x] μ = if jrf rc x = true then some (some (.int x), μ) else none := by
  subst hrc
  split
  · rename_i hc; exact l_iretK h hc
  · rename_i hc; exact stn h (by show (if jrf (gRC mi) x = true then _ else _) = _; rw [if_neg hc])
theorem jrf1 : jrf 1 x = true := rfl
theorem l_iret1 (h : gPG mi pc = some .ireturn) (hrc : gRC mi = 1) : jR d mi pc ls [.int x] μ = some (some (.int x), μ) := l_iretK h (by rw [hrc]; rfl)
theorem l_lret {q : Int64} (h : gPG mi pc = some .lreturn) (hrc : gRC mi = 2) : jR d mi pc ls [.long q] μ = some (some (.long q), μ) := str h (by show (if gRC mi = 2 then _ else _) = _; rw [if_pos hrc])
theorem l_aret (h : gPG mi pc = some .areturn) (hrc : gRC mi = 3) (hv : jisref v = true) : jR d mi pc ls [v] μ = some (some v, μ) := str h (by show (if gRC mi = 3 ∧ jisref v = true then _ else _) = _; rw [if_pos ⟨hrc, hv⟩])
-- calls
def csum (st : List Value) (n : Nat) : Prop := (st.map fun v => v.category).sum = n
theorem cs0 : csum [] 0 := rfl
theorem csi {n : Nat} (h : csum st n) : csum (.int x :: st) (n + 1) := by unfold csum at *; rw [List.map_cons, List.sum_cons, h]; show 1 + n = _; omega
theorem csl {n : Nat} {q : Int64} (h : csum st n) : csum (.long q :: st) (n + 2) := by unfold csum at *; rw [List.map_cons, List.sum_cons, h]; show 2 + n = _; omega
theorem csv {n : Nat} (hv : jisref v = true) (h : csum st n) : csum (v :: st) (n + 1) := by unfold csum at *; rw [List.map_cons, List.sum_cons, h, jr_cat hv]; omega
theorem ca0 : ([] : List Value).all jcat1 = true := rfl
theorem cai (h : st.all jcat1 = true) : (.int x :: st : List Value).all jcat1 = true := by rw [List.all_cons, h]; rfl
theorem cav (hv : jisref v = true) (h : st.all jcat1 = true) : (v :: st).all jcat1 = true := by rw [List.all_cons, h, jr_cat1 hv]; rfl
def jinvI (u k : Nat) : Instr := if u = 1 then .invokevirtual k else if u = 2 then .invokestatic k else .invokespecial k
theorem jinv_step {u : Nat} (hu : u = 1 ∨ u = 2 ∨ u = 3) {rs : Nat → Option (Nat × Nat × Nat × Nat × Nat)} {kv : Nat → Option (Value ⊕ Nat)} {rc ik : Nat} : jstep rs kv rc ik (jinvI u k) pc ls st μ = jinv u (rs k) pc ls st μ := by
  rcases hu with rfl | rfl | rfl <;> rfl
theorem bind_any {α β : Type} {o : Option α} {P : α → Prop} {ip : ∀ t, Decidable (P t)} {p : α → Bool} {X : Option β} (h : ∀ t, p t = true ↔ P t) : (o.bind fun t => @ite (Option β) (P t) (ip t) X none) = if o.any p = true then X else none := by
  cases o with
  | none => rfl
  | some t =>
    simp only [Option.bind_some, Option.any_some]
    by_cases hp : P t
    · rw [if_pos hp, if_pos ((h t).mpr hp)]
    · rw [if_neg hp, if_neg (fun g => hp ((h t).mp g))]
/-- a static method, a constructor -/
theorem l_callS {as rest : List Value} {u cc na q4 z n : Nat} (h : gPG mi pc = some (jinvI u k)) (hu : u = 1 ∨ u = 2 ∨ u = 3) (hr : gRS mi k = some (cc, na, 99, q4, z)) (hq : juse z = u ∧ 3 ≤ cc) (ht : (st.take na) = as.reverse) (hl : na ≤ st.length) (hd : st.drop na = rest) (hs : csum rest n) (hn : n ≤ 8) (ha : as.reverse.all jcat1 = true) (hx : u = 3 → ∃ a as', as = .ref a :: as') :
    jR (d + 1) mi pc ls st μ = (jC d cc as μ).bind fun p => jR (d + 1) mi (pc + 3) ls (p.1.toList ++ rest) p.2 := by
  have e : jstep (gRS mi) (gKV mi) (gRC mi) (gIK mi) (jinvI u k) pc ls st μ = some (.inr (.inr (cc, as, rest))) := by
    rw [jinv_step hu, hr]
    unfold jinv
    simp only [Option.bind_some]
    rw [hd, if_pos ⟨hq.1, by rw [hs]; exact hn, by rw [ht]; exact ha, hl⟩, if_neg (by omega), if_neg (by omega), if_neg (by omega), if_pos trivial, ht, List.reverse_reverse]
    split
    · rename_i e3
      obtain ⟨a, as', rfl⟩ := hx e3
      rfl
    · rfl
  rw [jR_step, h]
  simp only [Option.bind_some, e]
  rfl
def jrecv (μ : jM) (k : Nat) : Value → Bool
  | .ref a => (jty μ a).any fun t => t.1 == k || (t.1 == 40 && k == 0)
  | _ => false
theorem l_callV {as rest : List Value} {u cc na kd q4 z n : Nat} (h : gPG mi pc = some (jinvI u k)) (hu : u = 1 ∨ u = 2 ∨ u = 3) (hr : gRS mi k = some (cc, na, kd, q4, z)) (hq : juse z = u ∧ 3 ≤ cc ∧ kd ≠ 99) (ht : (st.take na) = (v :: as).reverse) (hl : na ≤ st.length) (hd : st.drop na = rest) (hs : csum rest n) (hn : n ≤ 8) (ha : (v :: as).reverse.all jcat1 = true) :
    jR (d + 1) mi pc ls st μ = if jrecv μ kd v = true then (jC d cc (v :: as) μ).bind fun p => jR (d + 1) mi (pc + 3) ls (p.1.toList ++ rest) p.2 else none := by
  have e : jstep (gRS mi) (gKV mi) (gRC mi) (gIK mi) (jinvI u k) pc ls st μ = if jrecv μ kd v = true then some (.inr (.inr (cc, v :: as, rest))) else none := by
    rw [jinv_step hu, hr]
    unfold jinv
    simp only [Option.bind_some]
    rw [hd, if_pos ⟨hq.1, by rw [hs]; exact hn, by rw [ht]; exact ha, hl⟩, if_neg (by omega), if_neg (by omega), if_neg (by omega), if_neg hq.2.2, ht, List.reverse_reverse]
    cases v with
    | ref a =>
      exact bind_any (fun t => by simp)
    | _ => rfl
  split
  · rename_i hc
    rw [jR_step, h]
    simp only [Option.bind_some, e, if_pos hc]
    rfl
  · rename_i hc; exact stn h (by rw [e, if_neg hc])
theorem l_obj {a u q2 q3 z n : Nat} (h : gPG mi pc = some (jinvI u k)) (hu : u = 1 ∨ u = 2 ∨ u = 3) (hr : gRS mi k = some (0, 1, q2, q3, z)) (hq : juse z = u) (hs : csum st n) (hn : n ≤ 8) : jR (d + 1) mi pc ls (.ref a :: st) μ = jR (d + 1) mi (pc + 3) ls st μ := by
  have e : jstep (gRS mi) (gKV mi) (gRC mi) (gIK mi) (jinvI u k) pc ls (.ref a :: st) μ = some (.inr (.inr (0, [], st))) := by
    rw [jinv_step hu, hr]
    unfold jinv
    simp only [Option.bind_some]
    have hs' : (((Value.ref a :: st).drop 1).map fun v => v.category).sum ≤ 8 := by rw [List.drop_one, List.tail_cons, hs]; exact hn
    rw [if_pos ⟨hq, hs', by rfl, by simp⟩, if_pos trivial]
  rw [jR_step, h]
  simp only [Option.bind_some, e]
  rfl
theorem l_acp {p q r : Int32} {q3 q4 z n : Nat} (h : gPG mi pc = some (.invokestatic k)) (hr : gRS mi k = some (1, 5, q3, q4, z)) (hq : juse z = 2) (hv : jisref v = true) (hw : jisref w = true) (hs : csum st n) (hn : n ≤ 8) : jR (d + 1) mi pc ls (.int r :: .int q :: w :: .int p :: v :: st) μ = (jcp μ v p w q r).bind fun μ' => jR (d + 1) mi (pc + 3) ls st μ' := by
  have hs' : (((.int r :: .int q :: w :: .int p :: v :: st : List Value).drop 5).map fun v => v.category).sum ≤ 8 := by
    show (st.map fun v => v.category).sum ≤ 8
    rw [hs]; exact hn
  have ha : ((.int r :: .int q :: w :: .int p :: v :: st : List Value).take 5).all jcat1 = true := cai (cai (cav hw (cai (cav hv ca0))))
  have e : jstep (gRS mi) (gKV mi) (gRC mi) (gIK mi) (.invokestatic k) pc ls (.int r :: .int q :: w :: .int p :: v :: st) μ = (jcp μ v p w q r).bind fun _ => some (.inr (.inr (1, [v, .int p, w, .int q, .int r], st))) := by
    show jinv 2 (gRS mi k) pc ls _ μ = _
    rw [hr]
    unfold jinv
    simp only [Option.bind_some]
    rw [if_pos ⟨hq, hs', ha, by simp⟩, if_neg (by omega), if_pos trivial]
  refine stb (f := fun _ => (.inr (.inr (1, [v, .int p, w, .int q, .int r], st)) : jO)) (o := jcp μ v p w q r) (g := fun _ => (jcp μ v p w q r).bind fun μ' => jR (d + 1) mi (pc + 3) ls st μ') h e (fun y => ?_) |>.trans ?_
  · show ((jcp μ v p w q r).map fun μ' => ((none : Option Value), μ')).bind _ = _
    cases jcp μ v p w q r <;> rfl
  · cases jcp μ v p w q r <;> rfl
def jclk (μ : jM) (k : Nat) (v : Value) : Bool := (jat μ v).any fun t => t.2.1 == k && (t.2.1 == 20 || t.2.1 == 22)
theorem l_clone {q3 q4 z n : Nat} (h : gPG mi pc = some (.invokevirtual k)) (hr : gRS mi k = some (2, 1, q3, q4, z)) (hq : juse z = 1) (hv : jisref v = true) (hs : csum st n) (hn : n ≤ 8) : jR (d + 1) mi pc ls (v :: st) μ = if jclk μ q4 v = true then (jcl μ v).bind fun p => jR (d + 1) mi (pc + 3) ls (p.1 :: st) p.2 else none := by
  have hs' : (((v :: st).drop 1).map fun v => v.category).sum ≤ 8 := by
    show (st.map fun v => v.category).sum ≤ 8
    rw [hs]; exact hn
  have e : jstep (gRS mi) (gKV mi) (gRC mi) (gIK mi) (.invokevirtual k) pc ls (v :: st) μ = if jclk μ q4 v = true then some (.inr (.inr (2, [v], st))) else none := by
    show jinv 1 (gRS mi k) pc ls _ μ = _
    rw [hr]
    unfold jinv
    simp only [Option.bind_some]
    rw [if_pos ⟨hq, hs', cav hv ca0, by simp⟩, if_neg (by omega), if_neg (by omega), if_pos trivial]
    show (jat μ v).bind _ = _
    unfold jclk
    cases jat μ v with
    | none => rfl
    | some t => simp [Bool.and_eq_true, beq_iff_eq, Bool.or_eq_true]
  split
  · rename_i hc
    rw [jR_step, h]
    simp only [Option.bind_some, e, if_pos hc]
    show ((jcl μ v).map fun p => (some p.1, p.2)).bind _ = _
    cases jcl μ v <;> rfl
  · rename_i hc; exact stn h (by rw [e, if_neg hc])
theorem jC_run {c : Nat} {as : List Value} (h : 3 ≤ c) : jC d c as μ = jR d c 0 (jentry (gML c) as) [] μ := by
  unfold jC jcall
  rw [if_neg (by omega), if_neg (by omega), if_neg (by omega)]
end STEPS
-- values from outside
def jX (μ : jM) : Prop := jext μ 0 = .int 1 ∧ ∀ j, (j = 1 ∨ 5 ≤ j) → j < 26 → jisref (jext μ j) = true
theorem jX_pI {μ μ' : jM} {k sl tc : Nat} {v : Value} {x : Int32} (hx : jX μ) (h : jpI μ k sl tc v x = some μ') : jX μ' := by
  simp only [jpI, Option.bind_eq_some_iff] at h
  obtain ⟨q, -, h⟩ := h
  split at h
  · cases h; exact hx
  · cases h
theorem jX_sB {μ μ' : jM} {v : Value} {i x : Int32} (hx : jX μ) (h : jsB μ v i x = some μ') : jX μ' := by
  simp only [jsB, Option.bind_eq_some_iff] at h
  obtain ⟨q, -, h⟩ := h
  split at h
  · cases h; exact hx
  · split at h
    · cases h; exact hx
    · cases h
theorem jr_nA {μ : jM} {k : Nat} {n : Int32} {p : Value × jM} (h : jnA μ k n = some p) : jisref p.1 = true := by
  unfold jnA at h
  split at h
  · cases h; rfl
  · cases h
theorem jr_cl {μ : jM} {v : Value} {p : Value × jM} (h : jcl μ v = some p) : jisref p.1 = true := by
  simp only [jcl, Option.bind_eq_some_iff] at h
  obtain ⟨q, -, h⟩ := h
  split at h
  · cases h; rfl
  · cases h
theorem l_getsI {d mi pc k j : Nat} {ls st : List Value} {μ : jM} {c : Int32} (h : gPG mi pc = some (.getstatic k)) (hk : gKV mi k = some (.inr j)) (hj : j < 8) (hc : jext μ j = .int c) : jR d mi pc ls st μ = jR d mi (pc + 3) ls (.int c :: st) μ := by
  rw [l_gets h hk hj, hc]
