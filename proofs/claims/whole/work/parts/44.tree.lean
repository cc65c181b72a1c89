/-! TREES: a formula's tokens have one tree -/
def hdt : List Tk → Int32
  | [] => N 0
  | t :: _ => t.1
/-- a ref's number -/
def cT (t : Tk) : Nat := 8 * t.2.2.toNatClampNeg + 2 * t.2.1.toNatClampNeg + (if t.1 = N 115 then 1 else 0)
def iT (w : Int32) : Nat := if w = N 116 then 0 else if w = N 109 then 1 else if w = N 108 then 2 else 3
/-- reads a tree off its tokens: ONE 0, PART 1, SUM 2, and on from a left side: PART 3, SUM 4 -/
def prs : Nat → Nat → Ex → List Tk → Option (Ex × List Tk)
  | 0, _, _, _ => none
  | n + 1, 0, _, T => match T with
    | [] => none
    | t :: r =>
      if t.1 = N 48 then some (.natCast t.2.1.toNatClampNeg, r)
      else if t.1 = N 114 ∨ t.1 = N 115 then some (.var (cT t), r)
      else if t.1 = N 103 then (prs n 0 (.natCast 0) r).map fun p => (.neg p.1, p.2)
      else if t.1 = N 40 then (prs n 2 (.natCast 0) r).map fun p => (.pow p.1 0, p.2.drop 1)
      else some (.num (((iT t.1) * 1000000 + cT ((r[1]?).getD t) * 1000 + cT ((r[3]?).getD t) : Nat) : Int), r.drop 5)
  | n + 1, 1, a, T => (prs n 0 a T).bind fun p => prs n 3 p.1 p.2
  | n + 1, 2, a, T => (prs n 1 a T).bind fun p => prs n 4 p.1 p.2
  | n + 1, 3, a, T => if hdt T = N 42 then (prs n 0 a (T.drop 1)).bind fun p => prs n 3 (.mul a p.1) p.2 else some (a, T)
  | n + 1, 4, a, T => if hdt T = N 43 then (prs n 1 a (T.drop 1)).bind fun p => prs n 4 (.add a p.1) p.2 else if hdt T = N 45 then (prs n 1 a (T.drop 1)).bind fun p => prs n 4 (.sub a p.1) p.2 else some (a, T)
  | _ + 1, _ + 5, _, _ => none
theorem obind_up {α β : Type} {x y : Option α} {f g : α → Option β} {b : β} (h1 : ∀ a, x = some a → y = some a) (h2 : ∀ a, f a = some b → g a = some b) (h : x.bind f = some b) : y.bind g = some b := by
  rw [Option.bind_eq_some_iff] at h ⊢
  obtain ⟨a, e1, e2⟩ := h
  exact ⟨a, h1 a e1, h2 a e2⟩
theorem omap_up {α β : Type} {x y : Option α} {f : α → β} {b : β} (h1 : ∀ a, x = some a → y = some a) (h : x.map f = some b) : y.map f = some b := by
  rw [Option.map_eq_some_iff] at h ⊢
  obtain ⟨a, e1, e2⟩ := h
  exact ⟨a, h1 a e1, e2⟩
theorem prs_up : ∀ {n u : Nat} {a : Ex} {T : List Tk} {x : Ex × List Tk}, prs n u a T = some x → prs (n + 1) u a T = some x
  | 0, _, _, _, _, h => by simp [prs] at h
  | n + 1, 0, a, [], x, h => by simp [prs] at h
  | n + 1, 0, a, t :: r, x, h => by
    rw [prs] at h ⊢
    split
    · rename_i c; rw [if_pos c] at h; exact h
    · rename_i c; rw [if_neg c] at h
      split
      · rename_i c; rw [if_pos c] at h; exact h
      · rename_i c; rw [if_neg c] at h
        split
        · rename_i c; rw [if_pos c] at h; exact omap_up (fun _ g => prs_up g) h
        · rename_i c; rw [if_neg c] at h
          split
          · rename_i c; rw [if_pos c] at h; exact omap_up (fun _ g => prs_up g) h
          · rename_i c; rw [if_neg c] at h; exact h
  | n + 1, 1, a, T, x, h => by
    rw [prs] at h ⊢
    exact obind_up (fun _ g => prs_up g) (fun _ g => prs_up g) h
  | n + 1, 2, a, T, x, h => by
    rw [prs] at h ⊢
    exact obind_up (fun _ g => prs_up g) (fun _ g => prs_up g) h
  | n + 1, 3, a, T, x, h => by
    rw [prs] at h ⊢
    split
    · rename_i c; rw [if_pos c] at h; exact obind_up (fun _ g => prs_up g) (fun _ g => prs_up g) h
    · rename_i c; rw [if_neg c] at h; exact h
  | n + 1, 4, a, T, x, h => by
    rw [prs] at h ⊢
    split
    · rename_i c; rw [if_pos c] at h; exact obind_up (fun _ g => prs_up g) (fun _ g => prs_up g) h
    · rename_i c; rw [if_neg c] at h
      split
      · rename_i c; rw [if_pos c] at h; exact obind_up (fun _ g => prs_up g) (fun _ g => prs_up g) h
      · rename_i c; rw [if_neg c] at h; exact h
  | _ + 1, _ + 5, _, _, _, h => by simp [prs] at h
theorem prs_le {n m u : Nat} {a : Ex} {T : List Tk} {x : Ex × List Tk} (h : prs n u a T = some x) (hm : n ≤ m) : prs m u a T = some x := by
  obtain ⟨k, rfl⟩ := Nat.exists_eq_add_of_le hm
  clear hm
  induction k with
  | zero => exact h
  | succ k ih => exact prs_up ih
theorem rT_fst {i : Nat} : (rT i).1 = N 114 ∨ (rT i).1 = N 115 := by
  unfold rT
  by_cases h : i % 2 = 1
  · rw [if_pos h]; exact Or.inr rfl
  · rw [if_neg h]; exact Or.inl rfl
theorem cT_rT {i : Nat} (h : rK i) : cT (rT i) = i := by
  obtain ⟨h1, h2, h3⟩ := h
  unfold cT rT
  simp only
  rw [N_nat (by omega), N_nat (by omega)]
  by_cases h : i % 2 = 1
  · rw [if_pos h, if_pos rfl]; omega
  · rw [if_neg h, if_neg (by decide)]; omega
theorem iT_wT {w : Nat} (h : w < 4) : iT (wT w) = w := by
  obtain rfl | rfl | rfl | rfl : w = 0 ∨ w = 1 ∨ w = 2 ∨ w = 3 := by omega
  all_goals rfl
theorem wT_ne {w : Nat} : (wT w = N 48) = False ∧ (wT w = N 114) = False ∧ (wT w = N 115) = False ∧ (wT w = N 103) = False ∧ (wT w = N 40) = False := by
  have h : wT w = N 116 ∨ wT w = N 109 ∨ wT w = N 108 ∨ wT w = N 110 := by
    unfold wT
    split
    · exact Or.inl rfl
    · split
      · exact Or.inr (Or.inl rfl)
      · split
        · exact Or.inr (Or.inr (Or.inl rfl))
        · exact Or.inr (Or.inr (Or.inr rfl))
  rcases h with h | h | h | h
  all_goals rw [h]; refine ⟨?_, ?_, ?_, ?_, ?_⟩
  all_goals exact eq_false (by decide)
def L0 (e : Ex) : Prop := ∃ n, ∀ a r, prs n 0 a (tks e ++ r) = some (e, r)
def L1 (e : Ex) : Prop := ∃ n, ∀ a r k x, prs k 3 e r = some x → prs (n + k) 1 a (tks e ++ r) = some x
def L2 (e : Ex) : Prop := ∃ n, ∀ a r k x, hdt r ≠ N 42 → prs k 4 e r = some x → prs (n + k) 2 a (tks e ++ r) = some x
theorem L0.l1 {e : Ex} (h : L0 e) : L1 e := by
  obtain ⟨n, h⟩ := h
  refine ⟨n + 1, fun a r k x hx => ?_⟩
  rw [show n + 1 + k = n + k + 1 by omega, prs, prs_le (h a r) (by omega)]
  exact prs_le hx (by omega)
theorem L1.one {e : Ex} (h : L1 e) : ∃ n, ∀ a r, hdt r ≠ N 42 → prs n 1 a (tks e ++ r) = some (e, r) := by
  obtain ⟨n, h⟩ := h
  refine ⟨n + 1, fun a r hr => h a r 1 (e, r) ?_⟩
  rw [prs, if_neg hr]
theorem L1.l2 {e : Ex} (h : L1 e) : L2 e := by
  obtain ⟨n, h⟩ := h.one
  refine ⟨n + 1, fun a r k x hr hx => ?_⟩
  rw [show n + 1 + k = n + k + 1 by omega, prs, prs_le (h a r hr) (by omega)]
  exact prs_le hx (by omega)
theorem prs_tks : ∀ (e : Ex), (lv 0 e → L0 e) ∧ (lv 1 e → L1 e) ∧ (lv 2 e → L2 e) := by
  have up : ∀ e : Ex, (lv 0 e → L0 e) → (lv 1 e → lv 0 e) → (lv 2 e → lv 0 e) → (lv 0 e → L0 e) ∧ (lv 1 e → L1 e) ∧ (lv 2 e → L2 e) :=
    fun e h h1 h2 => ⟨h, fun g => (h (h1 g)).l1, fun g => (h (h2 g)).l1.l2⟩
  have n1 : ¬ (N 40 = N 48) := by decide
  have n2 : ¬ (N 40 = N 114 ∨ N 40 = N 115) := by decide
  have n3 : ¬ (N 40 = N 103) := by decide
  have n4 : ¬ (N 103 = N 48) := by decide
  have n5 : ¬ (N 103 = N 114 ∨ N 103 = N 115) := by decide
  intro e
  induction e with
  | natCast v =>
    refine up _ (fun h => ⟨1, fun a r => ?_⟩) id id
    have h : v < 1000000 := h
    simp only [tks, List.cons_append, List.nil_append, prs, if_true, N_nat (show v < 2147483648 by omega)]
  | var i =>
    refine up _ (fun h => ⟨1, fun a r => ?_⟩) id id
    have h : rK i := h
    have e0 : ¬ (rT i).1 = N 48 := by
      rcases rT_fst (i := i) with e | e
      · rw [e]; decide
      · rw [e]; decide
    simp only [tks, List.cons_append, List.nil_append, prs, if_neg e0, if_pos (rT_fst (i := i)), cT_rT h]
  | neg e ih =>
    refine up _ (fun h => ?_) id id
    obtain ⟨n, h⟩ := ih.1 h
    refine ⟨n + 1, fun a r => ?_⟩
    simp only [tks, List.cons_append, prs, if_neg n4, if_neg n5, if_true, h, Option.map_some]
  | pow e k ih =>
    refine up _ (fun h => ?_) id id
    obtain ⟨hk, h⟩ : k = 0 ∧ lv 2 e := h
    obtain ⟨n, h⟩ := ih.2.2 h
    refine ⟨n + 2, fun a r => ?_⟩
    have h2 := h (.natCast 0) ((N 41, N 0, N 0) :: r) 1 (e, (N 41, N 0, N 0) :: r) (show N 41 ≠ N 42 by decide) (by
      rw [prs, if_neg (show ¬ hdt ((N 41, N 0, N 0) :: r) = N 43 by show ¬ N 41 = N 43; decide), if_neg (show ¬ hdt ((N 41, N 0, N 0) :: r) = N 45 by show ¬ N 41 = N 45; decide)])
    have h3 : tks (Lean.Grind.CommRing.Expr.pow e k) ++ r = (N 40, N 0, N 0) :: (tks e ++ (N 41, N 0, N 0) :: r) := by simp only [tks, List.cons_append, List.append_assoc, List.nil_append]
    rw [h3, prs]
    simp only [if_neg n1, if_neg n2, if_neg n3, if_true, h2, Option.map_some, List.drop_succ_cons, List.drop_zero, hk]
  | num k =>
    refine up _ (fun h => ⟨1, fun a r => ?_⟩) id id
    obtain ⟨h0, h1, h2, h3⟩ : 0 ≤ k ∧ k.toNat / 1000000 < 4 ∧ rK (k.toNat / 1000 % 1000) ∧ rK (k.toNat % 1000) := h
    obtain ⟨w1, w2, w3, w4, w5⟩ := wT_ne (w := k.toNat / 1000000)
    simp only [tks, List.cons_append, List.nil_append, prs, w1, w2, w3, w4, w5, or_self, if_false, iT_wT h1, List.getElem?_cons_succ, List.getElem?_cons_zero, Option.getD_some, cT_rT h2, cT_rT h3, List.drop_succ_cons, List.drop_zero, Option.some.injEq, Prod.mk.injEq, and_true]
    congr 1
    omega
  | add x y ihx ihy =>
    refine ⟨fun h => absurd h.1 (by decide), fun h => absurd h.1 (by decide), fun h => ?_⟩
    obtain ⟨n, hx⟩ := ihx.2.2 h.2.1
    obtain ⟨m, hy⟩ := (ihy.2.1 h.2.2).one
    refine ⟨n + m + 1, fun a r k z hr hz => ?_⟩
    have h2 := hx a ((N 43, N 0, N 0) :: (tks y ++ r)) (m + k + 1) z (show N 43 ≠ N 42 by decide) (by
      rw [prs, if_pos (show hdt ((N 43, N 0, N 0) :: (tks y ++ r)) = N 43 from rfl), List.drop_succ_cons, List.drop_zero, prs_le (hy x r hr) (by omega)]
      exact prs_le hz (by omega))
    simp only [tks, List.append_assoc, List.cons_append]
    exact prs_le h2 (by omega)
  | sub x y ihx ihy =>
    refine ⟨fun h => absurd h.1 (by decide), fun h => absurd h.1 (by decide), fun h => ?_⟩
    obtain ⟨n, hx⟩ := ihx.2.2 h.2.1
    obtain ⟨m, hy⟩ := (ihy.2.1 h.2.2).one
    refine ⟨n + m + 1, fun a r k z hr hz => ?_⟩
    have h2 := hx a ((N 45, N 0, N 0) :: (tks y ++ r)) (m + k + 1) z (show N 45 ≠ N 42 by decide) (by
      rw [prs, if_neg (show ¬ hdt ((N 45, N 0, N 0) :: (tks y ++ r)) = N 43 by show ¬ N 45 = N 43; decide), if_pos (show hdt ((N 45, N 0, N 0) :: (tks y ++ r)) = N 45 from rfl), List.drop_succ_cons, List.drop_zero, prs_le (hy x r hr) (by omega)]
      exact prs_le hz (by omega))
    simp only [tks, List.append_assoc, List.cons_append]
    exact prs_le h2 (by omega)
  | mul x y ihx ihy =>
    have h1 : lv 1 x ∧ lv 0 y → L1 (Lean.Grind.CommRing.Expr.mul x y) := by
      intro h
      obtain ⟨n, hx⟩ := ihx.2.1 h.1
      obtain ⟨m, hy⟩ := ihy.1 h.2
      refine ⟨n + m + 1, fun a r k z hz => ?_⟩
      have h2 := hx a ((N 42, N 0, N 0) :: (tks y ++ r)) (m + k + 1) z (by
        rw [prs, if_pos (show hdt ((N 42, N 0, N 0) :: (tks y ++ r)) = N 42 from rfl), List.drop_succ_cons, List.drop_zero, prs_le (hy x r) (by omega)]
        exact prs_le hz (by omega))
      simp only [tks, List.append_assoc, List.cons_append]
      exact prs_le h2 (by omega)
    exact ⟨fun h => absurd h.1 (by decide), fun h => h1 h.2, fun h => (h1 h.2).l2⟩
  | intCast k => exact ⟨fun h => h.elim, fun h => h.elim, fun h => h.elim⟩
theorem tks_inj {e e' : Ex} (h : lv 2 e) (h' : lv 2 e') (ht : tks e = tks e') : e = e' := by
  have key : ∀ x : Ex, lv 2 x → ∃ n, prs n 2 (.natCast 0) (tks x) = some (x, []) := by
    intro x hx
    obtain ⟨n, hn⟩ := (prs_tks x).2.2 hx
    have h2 := hn (.natCast 0) [] 1 (x, []) (show N 0 ≠ N 42 by decide) (by rw [prs, if_neg (show ¬ hdt [] = N 43 by show ¬ N 0 = N 43; decide), if_neg (show ¬ hdt [] = N 45 by show ¬ N 0 = N 45; decide)])
    rw [List.append_nil] at h2
    exact ⟨n + 1, h2⟩
  obtain ⟨n, hn⟩ := key e h
  obtain ⟨m, hm⟩ := key e' h'
  have h1 := prs_le hn (Nat.le_max_left n m)
  have h2 := prs_le hm (Nat.le_max_right n m)
  rw [ht, h2] at h1
  exact (Prod.mk.inj (Option.some.inj h1)).1.symm
/-- the tree of some tokens -/
noncomputable def tree (T : List Tk) : Ex := haveI := Classical.propDecidable (∃ e, lv 2 e ∧ tks e = T); if h : ∃ e, lv 2 e ∧ tks e = T then Classical.choose h else .natCast 0
theorem tree_tks {e : Ex} (h : lv 2 e) : tree (tks e) = e := by
  have hx : ∃ x, lv 2 x ∧ tks x = tks e := ⟨e, h, rfl⟩
  unfold tree
  rw [dif_pos hx]
  exact tks_inj (Classical.choose_spec hx).1 h (Classical.choose_spec hx).2
/-- a ref to no key has no column -/
def rcan (i : Nat) : Nat := if i / 8 = 0 then 0 else i
def ecan : Ex → Ex
  | .var i => .var (rcan i)
  | .num k => .num ((k.toNat / 1000000 * 1000000 + rcan (k.toNat / 1000 % 1000) * 1000 + rcan (k.toNat % 1000) : Nat) : Int)
  | .neg a => .neg (ecan a)
  | .pow a k => .pow (ecan a) k
  | .add a b => .add (ecan a) (ecan b)
  | .sub a b => .sub (ecan a) (ecan b)
  | .mul a b => .mul (ecan a) (ecan b)
  | .natCast v => .natCast v
  | .intCast v => .intCast v
theorem rcan_K {i : Nat} (h : rK i) : rK (rcan i) := by
  unfold rcan
  split
  · exact ⟨by decide, by decide, fun g => absurd g (by decide)⟩
  · exact h
theorem rcan_lt {i : Nat} (h : i < 1000) : rcan i < 1000 := by
  unfold rcan
  split <;> omega
theorem rT_can {i : Nat} (h : rK i) : rT (rcan i) = tcan (rT i) := by
  obtain ⟨h1, h2, h3⟩ := h
  unfold rcan
  split
  · rename_i h0
    have h4 : ¬ i % 2 = 1 := by omega
    show rT 0 = tcan (if i % 2 = 1 then N 115 else N 114, N (i / 2 % 4), N (i / 8))
    rw [if_neg h4, h0]
    unfold tcan
    rw [if_pos ⟨rfl, rfl⟩]; rfl
  · rename_i h0
    unfold tcan
    rw [if_neg]
    rintro ⟨-, g⟩
    have g : N (i / 8) = N 0 := g
    rw [N_inj (by omega) (by decide)] at g
    exact h0 g
theorem tcan_id {x y z : Int32} (h : x ≠ N 114) : tcan (x, y, z) = (x, y, z) := by
  unfold tcan
  rw [if_neg (fun g => h g.1)]
theorem ecan_ok : ∀ (e : Ex), (∀ u, lv u e → lv u (ecan e) ∧ tks (ecan e) = (tks e).map tcan) ∧ nst (ecan e) = nst e := by
  have c103 : tcan (N 103, N 0, N 0) = (N 103, N 0, N 0) := tcan_id (by decide)
  have c40 : tcan (N 40, N 0, N 0) = (N 40, N 0, N 0) := tcan_id (by decide)
  have c41 : tcan (N 41, N 0, N 0) = (N 41, N 0, N 0) := tcan_id (by decide)
  have c42 : tcan (N 42, N 0, N 0) = (N 42, N 0, N 0) := tcan_id (by decide)
  have c43 : tcan (N 43, N 0, N 0) = (N 43, N 0, N 0) := tcan_id (by decide)
  have c45 : tcan (N 45, N 0, N 0) = (N 45, N 0, N 0) := tcan_id (by decide)
  have c58 : tcan (N 58, N 0, N 0) = (N 58, N 0, N 0) := tcan_id (by decide)
  intro e
  induction e with
  | natCast v => exact ⟨fun u h => ⟨h, by simp only [ecan, tks, List.map_cons, List.map_nil, tcan_id (show N 48 ≠ N 114 by decide)]⟩, rfl⟩
  | var i =>
    refine ⟨fun u h => ?_, rfl⟩
    have h : rK i := by cases u <;> exact h
    have h' := rcan_K h
    refine ⟨by cases u <;> exact h', ?_⟩
    simp only [ecan, tks, List.map_cons, List.map_nil, rT_can h]
  | neg e ih =>
    refine ⟨fun u h => ?_, by simp only [ecan, nst, ih.2]⟩
    have h : lv 0 e := by cases u <;> exact h
    obtain ⟨h1, h2⟩ := ih.1 0 h
    refine ⟨by cases u <;> exact h1, ?_⟩
    simp only [ecan, tks, List.map_cons, h2, c103]
  | pow e k ih =>
    refine ⟨fun u h => ?_, by simp only [ecan, nst, ih.2]⟩
    have h : k = 0 ∧ lv 2 e := by cases u <;> exact h
    obtain ⟨h1, h2⟩ := ih.1 2 h.2
    refine ⟨by cases u <;> exact ⟨h.1, h1⟩, ?_⟩
    simp only [ecan, tks, List.map_cons, List.map_append, List.map_nil, h2, c40, c41]
  | num k =>
    refine ⟨fun u h => ?_, rfl⟩
    have h : 0 ≤ k ∧ k.toNat / 1000000 < 4 ∧ rK (k.toNat / 1000 % 1000) ∧ rK (k.toNat % 1000) := by cases u <;> exact h
    obtain ⟨h0, h1, h2, h3⟩ := h
    have l1 := rcan_lt (i := k.toNat / 1000 % 1000) (by omega)
    have l2 := rcan_lt (i := k.toNat % 1000) (by omega)
    have e1 : (k.toNat / 1000000 * 1000000 + rcan (k.toNat / 1000 % 1000) * 1000 + rcan (k.toNat % 1000)) / 1000000 = k.toNat / 1000000 := by omega
    have e2 : (k.toNat / 1000000 * 1000000 + rcan (k.toNat / 1000 % 1000) * 1000 + rcan (k.toNat % 1000)) / 1000 % 1000 = rcan (k.toNat / 1000 % 1000) := by omega
    have e3 : (k.toNat / 1000000 * 1000000 + rcan (k.toNat / 1000 % 1000) * 1000 + rcan (k.toNat % 1000)) % 1000 = rcan (k.toNat % 1000) := by omega
    have g : lv 0 (ecan (.num k)) := by
      refine ⟨Int.natCast_nonneg _, ?_, ?_, ?_⟩
      · rw [Int.toNat_natCast, e1]; exact h1
      · rw [Int.toNat_natCast, e2]; exact rcan_K h2
      · rw [Int.toNat_natCast, e3]; exact rcan_K h3
    refine ⟨by cases u <;> exact g, ?_⟩
    have cw : tcan (wT (k.toNat / 1000000), N 0, N 0) = (wT (k.toNat / 1000000), N 0, N 0) := tcan_id (fun g => by rw [(wT_ne (w := k.toNat / 1000000)).2.1] at g; exact g)
    simp only [ecan, tks, Int.toNat_natCast, e1, e2, e3, List.map_cons, List.map_nil, rT_can h2, rT_can h3, c40, c41, c58, cw]
  | add x y ihx ihy =>
    refine ⟨fun u h => ?_, by simp only [ecan, nst, ihx.2, ihy.2]⟩
    obtain ⟨h1, h2, h3⟩ : 2 ≤ u ∧ lv 2 x ∧ lv 1 y := h
    obtain ⟨a1, a2⟩ := ihx.1 2 h2
    obtain ⟨b1, b2⟩ := ihy.1 1 h3
    exact ⟨⟨h1, a1, b1⟩, by simp only [ecan, tks, List.map_cons, List.map_append, a2, b2, c43]⟩
  | sub x y ihx ihy =>
    refine ⟨fun u h => ?_, by simp only [ecan, nst, ihx.2, ihy.2]⟩
    obtain ⟨h1, h2, h3⟩ : 2 ≤ u ∧ lv 2 x ∧ lv 1 y := h
    obtain ⟨a1, a2⟩ := ihx.1 2 h2
    obtain ⟨b1, b2⟩ := ihy.1 1 h3
    exact ⟨⟨h1, a1, b1⟩, by simp only [ecan, tks, List.map_cons, List.map_append, a2, b2, c45]⟩
  | mul x y ihx ihy =>
    refine ⟨fun u h => ?_, by simp only [ecan, nst, ihx.2, ihy.2]⟩
    obtain ⟨h1, h2, h3⟩ : 1 ≤ u ∧ lv 1 x ∧ lv 0 y := h
    obtain ⟨a1, a2⟩ := ihx.1 1 h2
    obtain ⟨b1, b2⟩ := ihy.1 0 h3
    exact ⟨⟨h1, a1, b1⟩, by simp only [ecan, tks, List.map_cons, List.map_append, a2, b2, c42]⟩
  | intCast k => exact ⟨fun u h => by cases u <;> exact h.elim, rfl⟩
theorem len_ecan {e : Ex} {u : Nat} (h : lv u e) : (tks (ecan e)).length = (tks e).length := by rw [((ecan_ok e).1 u h).2, List.length_map]
