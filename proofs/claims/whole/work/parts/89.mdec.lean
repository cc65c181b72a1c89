/-! THE REFERENCE's formulas: rows of twos; its grids as they are read -/
/-- a tree in twos -/
def encE : Ex → List (Int32 × Int32)
  | .natCast v => [(N 0, N v)]
  | .var i => [(N 3, N i)]
  | .neg e => (N 1, N 45) :: encE e
  | .pow e _ => (N 1, N 40) :: (encE e ++ [(N 1, N 41)])
  | .num k => [(N 2, N (k.toNat / 1000000)), (N 1, N 40), (N 3, N (k.toNat / 1000 % 1000)), (N 1, N 58), (N 3, N (k.toNat % 1000)), (N 1, N 41)]
  | .add a b => encE a ++ (N 1, N 43) :: encE b
  | .sub a b => encE a ++ (N 1, N 45) :: encE b
  | .mul a b => encE a ++ (N 1, N 42) :: encE b
  | .intCast _ => []
/-- twos as tokens: a minus sign is one of a ONE, where no operand stands ahead of it -/
def dcT : Bool → List (Int32 × Int32) → List Tk
  | _, [] => []
  | b, p :: r =>
    if p.1 = N 0 then (N 48, p.2, N 0) :: dcT true r
    else if p.1 = N 3 then rT p.2.toNatClampNeg :: dcT true r
    else if p.1 = N 2 then (wT p.2.toNatClampNeg, N 0, N 0) :: dcT true r
    else if p.2 = N 45 ∧ b = false then (N 103, N 0, N 0) :: dcT false r
    else (p.2, N 0, N 0) :: dcT (decide (p.2 = N 41)) r
theorem dc_0 {b : Bool} {v : Int32} {r : List (Int32 × Int32)} : dcT b ((N 0, v) :: r) = (N 48, v, N 0) :: dcT true r := rfl
theorem dc_3 {b : Bool} {i : Nat} {r : List (Int32 × Int32)} (hi : i < 1000) : dcT b ((N 3, N i) :: r) = rT i :: dcT true r := by
  show (if N 3 = N 0 then _ else if N 3 = N 3 then rT (N i).toNatClampNeg :: dcT true r else _) = _
  rw [if_neg (by decide), if_pos rfl, N_nat (by omega)]
theorem dc_2 {b : Bool} {w : Nat} {r : List (Int32 × Int32)} (hw : w < 4) : dcT b ((N 2, N w) :: r) = (wT w, N 0, N 0) :: dcT true r := by
  show (if N 2 = N 0 then _ else if N 2 = N 3 then _ else if N 2 = N 2 then (wT (N w).toNatClampNeg, N 0, N 0) :: dcT true r else _) = _
  rw [if_neg (by decide), if_neg (by decide), if_pos rfl, N_nat (by omega)]
theorem dc_1 {b : Bool} {c : Nat} {r : List (Int32 × Int32)} (hc : c < 128) (h : c ≠ 45 ∨ b = true) : dcT b ((N 1, N c) :: r) = (N c, N 0, N 0) :: dcT (decide (c = 41)) r := by
  show (if N 1 = N 0 then _ else if N 1 = N 3 then _ else if N 1 = N 2 then _ else if N c = N 45 ∧ b = false then _ else (N c, N 0, N 0) :: dcT (decide (N c = N 41)) r) = _
  rw [if_neg (by decide), if_neg (by decide), if_neg (by decide), if_neg (fun g => ?_)]
  · simp only [N_inj (show c < 2147483648 by omega) (show 41 < 2147483648 by decide)]
  · rw [N_inj (by omega) (by decide)] at g
    rcases h with h | h
    · exact h g.1
    · rw [h] at g; cases g.2
theorem dc_n {r : List (Int32 × Int32)} : dcT false ((N 1, N 45) :: r) = (N 103, N 0, N 0) :: dcT false r := by
  show (if N 1 = N 0 then _ else if N 1 = N 3 then _ else if N 1 = N 2 then _ else if N 45 = N 45 ∧ false = false then (N 103, N 0, N 0) :: dcT false r else _) = _
  rw [if_neg (by decide), if_neg (by decide), if_neg (by decide), if_pos ⟨rfl, rfl⟩]
theorem dc_E : ∀ (e : Ex) (u : Nat) (r : List (Int32 × Int32)), lv u e → dcT false (encE e ++ r) = tks e ++ dcT true r
  | .natCast v, u, r, h => rfl
  | .var i, u, r, h => dc_3 (rK_lt h)
  | .intCast _, u, r, h => h.elim
  | .neg e, u, r, h => by
    show dcT false ((N 1, N 45) :: (encE e ++ r)) = (N 103, N 0, N 0) :: (tks e ++ dcT true r)
    rw [dc_n, dc_E e 0 r h]
  | .pow e _, u, r, h => by
    show dcT false ((N 1, N 40) :: (encE e ++ [(N 1, N 41)] ++ r)) = (N 40, N 0, N 0) :: (tks e ++ [(N 41, N 0, N 0)] ++ dcT true r)
    rw [dc_1 (by decide) (Or.inl (by decide)), List.append_assoc, show decide ((40 : Nat) = 41) = false from rfl, dc_E e 2 _ h.2]
    show _ :: (tks e ++ dcT true ((N 1, N 41) :: r)) = _
    rw [dc_1 (by decide) (Or.inl (by decide)), List.append_assoc]; rfl
  | .num k, u, r, h => by
    obtain ⟨h0, h1, h2, h3⟩ := h
    show dcT false ((N 2, N (k.toNat / 1000000)) :: (N 1, N 40) :: (N 3, N (k.toNat / 1000 % 1000)) :: (N 1, N 58) :: (N 3, N (k.toNat % 1000)) :: (N 1, N 41) :: r) = _
    rw [dc_2 h1, dc_1 (by decide) (Or.inl (by decide)), dc_3 (rK_lt h2), dc_1 (by decide) (Or.inl (by decide)), dc_3 (rK_lt h3), dc_1 (by decide) (Or.inl (by decide))]; rfl
  | .add a b, u, r, h => by
    show dcT false (encE a ++ (N 1, N 43) :: encE b ++ r) = tks a ++ (N 43, N 0, N 0) :: tks b ++ dcT true r
    rw [List.append_assoc, dc_E a 2 _ h.2.1]
    show tks a ++ dcT true ((N 1, N 43) :: (encE b ++ r)) = _
    rw [dc_1 (by decide) (Or.inl (by decide)), show decide ((43 : Nat) = 41) = false from rfl, dc_E b 1 r h.2.2, List.append_assoc]; rfl
  | .sub a b, u, r, h => by
    show dcT false (encE a ++ (N 1, N 45) :: encE b ++ r) = tks a ++ (N 45, N 0, N 0) :: tks b ++ dcT true r
    rw [List.append_assoc, dc_E a 2 _ h.2.1]
    show tks a ++ dcT true ((N 1, N 45) :: (encE b ++ r)) = _
    rw [dc_1 (by decide) (Or.inr rfl), show decide ((45 : Nat) = 41) = false from rfl, dc_E b 1 r h.2.2, List.append_assoc]; rfl
  | .mul a b, u, r, h => by
    show dcT false (encE a ++ (N 1, N 42) :: encE b ++ r) = tks a ++ (N 42, N 0, N 0) :: tks b ++ dcT true r
    rw [List.append_assoc, dc_E a 1 _ h.2.1]
    show tks a ++ dcT true ((N 1, N 42) :: (encE b ++ r)) = _
    rw [dc_1 (by decide) (Or.inl (by decide)), show decide ((42 : Nat) = 41) = false from rfl, dc_E b 0 r h.2.2, List.append_assoc]; rfl
theorem dc_e {e : Ex} {u : Nat} (h : lv u e) : dcT false (encE e) = tks e := by
  have := dc_E e u [] h
  rw [List.append_nil] at this
  rw [this]
  show tks e ++ dcT true [] = tks e
  unfold dcT
  rw [List.append_nil]
theorem len_encE : ∀ (e : Ex), (encE e).length = (tks e).length
  | .natCast _ => rfl
  | .var _ => rfl
  | .intCast _ => rfl
  | .num _ => rfl
  | .neg e => by show (encE e).length + 1 = (tks e).length + 1; rw [len_encE e]
  | .pow e _ => by show ((N 1, N 40) :: (encE e ++ [(N 1, N 41)])).length = ((N 40, N 0, N 0) :: (tks e ++ [(N 41, N 0, N 0)])).length; simp [len_encE e]
  | .add a b => by show (encE a ++ (N 1, N 43) :: encE b).length = (tks a ++ (N 43, N 0, N 0) :: tks b).length; simp [len_encE a, len_encE b]
  | .sub a b => by show (encE a ++ (N 1, N 45) :: encE b).length = (tks a ++ (N 45, N 0, N 0) :: tks b).length; simp [len_encE a, len_encE b]
  | .mul a b => by show (encE a ++ (N 1, N 42) :: encE b).length = (tks a ++ (N 42, N 0, N 0) :: tks b).length; simp [len_encE a, len_encE b]
/-- an array of twos -/
def prs2 (μ : jM) (f : Nat) : List (Int32 × Int32) := (List.range (jl μ f / 2)).map fun i => (jiv μ f (2 * i), jiv μ f (2 * i + 1))
def mF (μ : jM) : Option Nat → List Tk
  | none => []
  | some f => dcT false (prs2 μ f)
/-- a good formula -/
def MFS (μ : jM) (D f : Nat) (e : Ex) : Prop := jk μ f = 20 ∧ D ≤ f ∧ lv 2 e ∧ nst e ≤ 4 ∧ ecan e = e ∧ wsum (tks e) ≤ 39 ∧ jl μ f = 2 * (tks e).length ∧ prs2 μ f = encE e
def MCO (μ : jM) (D : Nat) (x : RC (Option Nat)) : Prop :=
  (x.1 = N 0 ∧ x.2.1 = N 0 ∧ x.2.2.1 = none) ∨ (x.1 = N 1 ∧ x.2.2.1 = none) ∨ (x.1 = N 2 ∧ x.2.1 = N 0 ∧ ∃ f e, x.2.2.1 = some f ∧ MFS μ D f e)
def rowsM (μ : jM) (D : Nat) (l : List (RW (Option Nat))) : Prop := ∀ w ∈ l, MCO μ D w.2.1 ∧ MCO μ D w.2.2.1 ∧ MCO μ D w.2.2.2
def dM (μ : jM) (A : GA) : DG := (rG μ A).map (rwm (mF μ))
/-- a good grid of the reference -/
def GVR (μ : jM) (D : Nat) (A : GA) : Prop := (jiv μ (A.1 0) A.2 = N (vN μ A) ∧ vN μ A ≤ 8 ∧ ∀ j b, jrv μ (A.1 4) j = some b → jk μ b = 20) ∧ rowsM μ D (rG μ A)
section MDEC
variable {μ μ' μ'' : jM} {S S' : Nat → Prop} {T T' : Nat → Nat → Prop} {M g h t n w d D i j k x y a c f : Nat} {A B : GA} {e : Ex}
theorem MFS.tk (h : MFS μ D f e) : mF μ (some f) = tks e := by
  show dcT false (prs2 μ f) = _
  rw [h.2.2.2.2.2.2.2]
  exact dc_e h.2.2.1
/-- formulas behind D stay -/
theorem FD.mfs (F : FD D μ μ') (hs : MFS μ D f e) : MFS μ' D f e ∧ prs2 μ' f = prs2 μ f := by
  obtain ⟨h1, h2, h3, h4, h5, h6, h7, h8⟩ := hs
  obtain ⟨a1, a2, a3⟩ := F f (ne99 h1 (by decide))
  obtain ⟨a3, -⟩ := a3 h2
  have e2 : prs2 μ' f = prs2 μ f := by unfold prs2; rw [a2, a3]
  exact ⟨⟨by rw [a1]; exact h1, h2, h3, h4, h5, h6, by rw [a2]; exact h7, by rw [e2]; exact h8⟩, e2⟩
theorem FD.mco (F : FD D μ μ') {x : RC (Option Nat)} (hx : MCO μ D x) : MCO μ' D x ∧ rcm (mF μ') x = rcm (mF μ) x := by
  obtain ⟨x1, x2, x3, x4⟩ := x
  rcases hx with ⟨h1, h2, h3⟩ | ⟨h1, h3⟩ | ⟨h1, h2, f, e, h3, h4⟩
  · have h3 : x3 = none := h3
    subst h3
    exact ⟨Or.inl ⟨h1, h2, rfl⟩, rfl⟩
  · have h3 : x3 = none := h3
    subst h3
    exact ⟨Or.inr (Or.inl ⟨h1, rfl⟩), rfl⟩
  · have h3 : x3 = some f := h3
    subst h3
    obtain ⟨g1, g2⟩ := F.mfs h4
    refine ⟨Or.inr (Or.inr ⟨h1, h2, f, e, rfl, g1⟩), ?_⟩
    show (x1, x2, dcT false (prs2 μ' f), x4) = (x1, x2, dcT false (prs2 μ f), x4)
    rw [g2]
theorem FD.rowm (F : FD D μ μ') {l : List (RW (Option Nat))} (hl : rowsM μ D l) : rowsM μ' D l ∧ l.map (rwm (mF μ')) = l.map (rwm (mF μ)) := by
  refine ⟨fun w hw => ?_, List.map_congr_left fun w hw => ?_⟩
  · obtain ⟨a1, a2, a3⟩ := hl w hw
    exact ⟨(F.mco a1).1, (F.mco a2).1, (F.mco a3).1⟩
  · obtain ⟨a1, a2, a3⟩ := hl w hw
    unfold rwm
    rw [(F.mco a1).2, (F.mco a2).2, (F.mco a3).2]
theorem len_dM : (dM μ A).length = vN μ A := by
  unfold dM
  rw [List.length_map, len_rG]
theorem cO_dM {p : Option Nat} : cO [] (dM μ A) p c = rcm (mF μ) (cO none (rG μ A) p c) := by
  unfold dM
  rw [cO_map (F := mF μ) (z := none) (z' := []) (show mF μ none = [] from rfl)]
theorem lfind_dM {k : Int32} : lfind k (dM μ A) = lfind k (rG μ A) := lfind_map
theorem keyO_dM : keyO (dM μ A) i = keyO (rG μ A) i := keyO_map
theorem rowsM.cO {l : List (RW (Option Nat))} (h : rowsM μ D l) {p : Option Nat} : MCO μ D (cO none l p c) := by
  cases p with
  | none => exact Or.inl ⟨rfl, rfl, rfl⟩
  | some i =>
    show MCO μ D ((((some i : Option Nat).bind fun i => l[i]?).map fun w => rcol w c).getD (N 0, N 0, none, N 0))
    show MCO μ D (((l[i]?).map fun w => rcol w c).getD (N 0, N 0, none, N 0))
    cases e : l[i]? with
    | none => exact Or.inl ⟨rfl, rfl, rfl⟩
    | some w =>
      obtain ⟨a1, a2, a3⟩ := h w (List.mem_of_getElem? e)
      show MCO μ D (rcol w c)
      unfold rcol
      split
      · exact a1
      · split
        · exact a2
        · exact a3
/-- a grid that a change passes by -/
theorem GVR.out (h : GVR μ D A) (F : FD D μ μ') (h0 : jiv μ' (A.1 0) A.2 = jiv μ (A.1 0) A.2) (h1 : jiv μ' (A.1 1) = jiv μ (A.1 1)) (h2 : jiv μ' (A.1 2) = jiv μ (A.1 2)) (h3 : jiv μ' (A.1 3) = jiv μ (A.1 3)) (h4 : jrv μ' (A.1 4) = jrv μ (A.1 4)) (h5 : jiv μ' (A.1 5) = jiv μ (A.1 5)) : GVR μ' D A ∧ dM μ' A = dM μ A := by
  obtain ⟨e1, e2⟩ := rG_same (A := A) h0 h1 h2 h3 h4 h5
  obtain ⟨⟨a1, a2, a3⟩, a4⟩ := h
  obtain ⟨b1, b2⟩ := F.rowm a4
  refine ⟨⟨⟨by rw [e2, h0]; exact a1, by rw [e2]; exact a2, fun j b hb => ?_⟩, by rw [e1]; exact b1⟩, by unfold dM; rw [e1]; exact b2⟩
  rw [h4] at hb
  have := a3 j b hb
  rw [(F b (ne99 this (by decide))).1]; exact this
end MDEC
