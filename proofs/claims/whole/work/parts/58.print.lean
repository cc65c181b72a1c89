/-! PRINTING: a cell's text -/
/-- the constant texts -/
def kw : Nat → Option (List Nat)
  | 8 => some [116, 111, 116, 97, 108]
  | 9 => some [109, 111, 115, 116]
  | 10 => some [108, 101, 97, 115, 116]
  | 11 => some [109, 97, 110, 121]
  | 12 => some [116, 111, 116, 97, 108]
  | 13 => some [109, 111, 115, 116]
  | 14 => some [108, 101, 97, 115, 116]
  | 15 => some [109, 97, 110, 121]
  | 16 => some [116, 111, 116, 97, 108]
  | 17 => some [109, 111, 115, 116]
  | 18 => some [108, 101, 97, 115, 116]
  | 19 => some [109, 97, 110, 121]
  | 20 => some [61, 43, 45, 42, 40, 41, 58, 36, 35]
  | 21 => some []
  | 22 => some [61]
  | 23 => some [97, 98, 99]
  | 24 => some [35]
  | 25 => some [36]
  | _ => none
/-- what is constant, below B -/
def KX (μ : jM) (B : Nat) : Prop := jX μ ∧ (∃ o, o < B ∧ jext μ 5 = .ref o ∧ jk μ o = 41 ∧ jl μ o = 100 ∧ ∀ i, i < 100 → jiv μ o i = N (48 + i % 10)) ∧ (∃ o, o < B ∧ jext μ 6 = .ref o ∧ jk μ o = 41 ∧ jl μ o = 100 ∧ ∀ i, i < 100 → jiv μ o i = N (48 + i / 10)) ∧ ∀ j s, kw j = some s → ∃ a t, a < B ∧ t < B ∧ jext μ j = .ref a ∧ ST μ a t s
/-- a token, printed -/
def tkp (G : DG) (t : Tk) : List Nat :=
  if t.1 = N 48 then dec t.2.1
  else if t.1 = N 114 ∨ t.1 = N 115 then (match lfind t.2.2 G with
    | none => [35]
    | some p => (if t.1 = N 115 then [36] else []) ++ (97 + t.2.1.toNatClampNeg) :: dec (N (p + 1)))
  else if t.1 = N 116 then [116, 111, 116, 97, 108]
  else if t.1 = N 109 then [109, 111, 115, 116]
  else if t.1 = N 108 then [108, 101, 97, 115, 116]
  else if t.1 = N 110 then [109, 97, 110, 121]
  else if t.1 = N 103 then [45]
  else [t.1.toNatClampNeg]
/-- a cell, printed -/
def celp (G : DG) (x : RC (List Tk)) : List Nat := if x.1 = N 2 then 61 :: x.2.2.1.flatMap (tkp G) else if x.1 = N 1 then dec x.2.1 else []
/-- what a token may be -/
def tkOK (t : Tk) : Prop := (∃ v, v < 1000000 ∧ t = (N 48, N v, N 0)) ∨ (∃ i, rK i ∧ t = rT i) ∨ (∃ w, w < 4 ∧ t = (wT w, N 0, N 0)) ∨ ∃ c, (c = 103 ∨ c = 40 ∨ c = 41 ∨ c = 42 ∨ c = 43 ∨ c = 45 ∨ c = 58) ∧ t = (N c, N 0, N 0)
theorem tks_ok : ∀ (e : Ex) (u : Nat), lv u e → ∀ t, t ∈ tks e → tkOK t := by
  have sg : ∀ c, (c = 103 ∨ c = 40 ∨ c = 41 ∨ c = 42 ∨ c = 43 ∨ c = 45 ∨ c = 58) → tkOK (N c, N 0, N 0) := fun c h => Or.inr (Or.inr (Or.inr ⟨c, h, rfl⟩))
  intro e
  induction e with
  | natCast v =>
    intro u h t ht
    have h : v < 1000000 := by cases u <;> exact h
    rw [tks, List.mem_singleton] at ht
    exact Or.inl ⟨v, h, ht⟩
  | var i =>
    intro u h t ht
    have h : rK i := by cases u <;> exact h
    rw [tks, List.mem_singleton] at ht
    exact Or.inr (Or.inl ⟨i, h, ht⟩)
  | neg e ih =>
    intro u h t ht
    have h : lv 0 e := by cases u <;> exact h
    rw [tks, List.mem_cons] at ht
    rcases ht with rfl | ht
    · exact sg 103 (by decide)
    · exact ih 0 h t ht
  | pow e k ih =>
    intro u h t ht
    have h : k = 0 ∧ lv 2 e := by cases u <;> exact h
    rw [tks, List.mem_cons, List.mem_append, List.mem_singleton] at ht
    rcases ht with rfl | ht | rfl
    · exact sg 40 (by decide)
    · exact ih 2 h.2 t ht
    · exact sg 41 (by decide)
  | num k =>
    intro u h t ht
    have h : 0 ≤ k ∧ k.toNat / 1000000 < 4 ∧ rK (k.toNat / 1000 % 1000) ∧ rK (k.toNat % 1000) := by cases u <;> exact h
    simp only [tks, List.mem_cons, List.not_mem_nil, or_false] at ht
    rcases ht with rfl | rfl | rfl | rfl | rfl | rfl
    · exact Or.inr (Or.inr (Or.inl ⟨_, h.2.1, rfl⟩))
    · exact sg 40 (by decide)
    · exact Or.inr (Or.inl ⟨_, h.2.2.1, rfl⟩)
    · exact sg 58 (by decide)
    · exact Or.inr (Or.inl ⟨_, h.2.2.2, rfl⟩)
    · exact sg 41 (by decide)
  | add x y ihx ihy =>
    intro u h t ht
    rw [tks, List.mem_append, List.mem_cons] at ht
    rcases ht with ht | rfl | ht
    · exact ihx 2 h.2.1 t ht
    · exact sg 43 (by decide)
    · exact ihy 1 h.2.2 t ht
  | sub x y ihx ihy =>
    intro u h t ht
    rw [tks, List.mem_append, List.mem_cons] at ht
    rcases ht with ht | rfl | ht
    · exact ihx 2 h.2.1 t ht
    · exact sg 45 (by decide)
    · exact ihy 1 h.2.2 t ht
  | mul x y ihx ihy =>
    intro u h t ht
    rw [tks, List.mem_append, List.mem_cons] at ht
    rcases ht with ht | rfl | ht
    · exact ihx 1 h.2.1 t ht
    · exact sg 42 (by decide)
    · exact ihy 0 h.2.2 t ht
  | intCast k => intro u h; cases u <;> exact h.elim
theorem dec_N {v : Nat} (h : v < 1000000000) : dec (N v) = dgs v := by
  unfold dec
  rw [if_neg (by rw [N_lt (by omega) (by decide)]; omega), N_toInt (by omega)]
  rfl
theorem dlen_nd {v : Nat} (h : v < 1000000) : dlen v = nd v := by
  unfold dlen nd
  repeat' split
  all_goals omega
theorem dec_1 {v : Nat} (h : v < 10) : dec (N v) = [48 + v] := by rw [dec_N (by omega), dgs_lt (by omega), if_pos h]
theorem tkp_w {G : DG} {t : Tk} (hG : G.length ≤ 8) (hz : KZ G) (h : tkOK t) : (tkp G t).length ≤ tw t ∧ 1 ≤ (tkp G t).length := by
  rcases h with ⟨v, hv, rfl⟩ | ⟨i, hi, rfl⟩ | ⟨w, hw, rfl⟩ | ⟨c, hc, rfl⟩
  · unfold tkp tw
    simp only [if_true]
    rw [N_nat (by omega), dec_N (by omega), dgs_len (by omega), dlen_nd hv]
    exact ⟨Nat.le_refl _, nd_pos v⟩
  · have e2 : (rT i).2.2 = N (i / 8) := rfl
    have e48 : ¬ (rT i).1 = N 48 := by
      rcases rT_fst (i := i) with e | e
      · rw [e]; decide
      · rw [e]; decide
    unfold tkp tw
    rw [if_neg e48, if_neg e48, if_pos rT_fst, e2]
    cases e : lfind (N (i / 8)) G with
    | none =>
      simp only [List.length_cons, List.length_nil]
      refine ⟨?_, by decide⟩
      split
      · split <;> decide
      · split
        · decide
        · split
          · decide
          · split <;> decide
    | some p =>
      have hp : p < G.length := lfind_lt e
      have h0 : ¬ N (i / 8) = N 0 := fun g => by rw [g, lfind_0 hz] at e; cases e
      simp only [dec_1 (show p + 1 < 10 by omega)]
      rcases rT_fst (i := i) with e3 | e3
      · rw [if_neg (show ¬ (rT i).1 = N 115 by rw [e3]; decide), if_pos e3, if_neg h0]
        exact ⟨Nat.le_refl _, Nat.le_of_ble_eq_true rfl⟩
      · rw [if_pos e3, if_neg (show ¬ (rT i).1 = N 114 by rw [e3]; decide), if_pos e3]
        exact ⟨Nat.le_refl _, Nat.le_of_ble_eq_true rfl⟩
  · obtain rfl | rfl | rfl | rfl : w = 0 ∨ w = 1 ∨ w = 2 ∨ w = 3 := by omega
    all_goals exact ⟨Nat.le_of_ble_eq_true rfl, Nat.le_of_ble_eq_true rfl⟩
  · rcases hc with rfl | rfl | rfl | rfl | rfl | rfl | rfl
    all_goals exact ⟨Nat.le_of_ble_eq_true rfl, Nat.le_of_ble_eq_true rfl⟩
theorem tkp_can {G : DG} {t : Tk} (hz : KZ G) : tkp G (tcan t) = tkp G t := by
  unfold tcan
  split
  · rename_i h
    unfold tkp
    simp only [h.1, h.2, lfind_0 hz, if_neg (show ¬ N 114 = N 48 by decide), true_or, if_true]
  · rfl
section PRN
variable {μ μ' μb : jM} {a t cap d n w c b tb B : Nat} {s u : List Nat} {v : Int32} {G : DG}
theorem KX.kd (h : KX μ B) : KD μ := by
  obtain ⟨h1, ⟨o, -, h2⟩, ⟨o', -, h3⟩, -⟩ := h
  exact ⟨h1, ⟨o, h2⟩, ⟨o', h3⟩⟩
theorem KX.fa {S : Nat → Prop} {T : Nat → Nat → Prop} (h : KX μ B) (hj : JW μ) (F : Fa S T n w μ μ') (hS : ∀ b, b < B → ¬ S b) (hT : ∀ b j, b < B → ¬ T b j) : KX μ' B := by
  obtain ⟨h1, ⟨o, o1, o2, o3, o4, o5⟩, ⟨p, p1, p2, p3, p4, p5⟩, h4⟩ := h
  have l1 := hj.lt (ne99 o3 (by decide))
  have l2 := hj.lt (ne99 p3 (by decide))
  refine ⟨h1.of F.1, ⟨o, o1, ?_⟩, ⟨p, p1, ?_⟩, fun j s hs => ?_⟩
  · rw [F.1, F.kk l1, F.ll l1, F.iv l1 (hS o o1)]; exact ⟨o2, o3, o4, o5⟩
  · rw [F.1, F.kk l2, F.ll l2, F.iv l2 (hS p p1)]; exact ⟨p2, p3, p4, p5⟩
  · obtain ⟨a, t, a1, a2, a3, a4⟩ := h4 j s hs
    exact ⟨a, t, a1, a2, by rw [F.1]; exact a3, a4.fa hj F (hS a a1) (hS t a2) (hT a 0 a1)⟩
theorem KX.fx {S : Nat → Prop} {T : Nat → Nat → Prop} (h : KX μ B) (hj : JW μ) (F : Fx S T μ μ') (hS : ∀ b, b < B → ¬ S b) (hT : ∀ b j, b < B → ¬ T b j) : KX μ' B := h.fa hj (F.fa hj) hS hT
/-- how often room has grown -/
def gp (cap : Nat) : Nat := if cap < 34 then 0 else if cap < 70 then 1 else 2
/-- a text is being built, behind what stood at μb -/
def PS (μb : jM) (n w : Nat) (μ : jM) (a t cap : Nat) (s : List Nat) : Prop := Fa (fun _ => False) (fun _ _ => False) n w μb μ ∧ BV μ a t cap s ∧ jsz μb ≤ a ∧ jsz μb ≤ t ∧ 16 ≤ cap ∧ jsz μ ≤ jsz μb + (2 + gp cap) ∧ jsl μ ≤ jsl μb + (20 + 80 * gp cap)
theorem gp_gr {m cap' : Nat} (hc : 16 ≤ cap) (hm : m ≤ 40) (h : gr cap m cap') : gn cap m + gp cap ≤ gp cap' := by
  unfold gn gp
  unfold gr at h
  by_cases e1 : m ≤ cap
  · rw [if_pos e1]
    repeat' split
    all_goals omega
  · rw [if_neg e1]
    repeat' split
    all_goals omega
theorem ps_step {t' cap' m : Nat} {s' : List Nat} (h : PS μb n w μ a t cap s) (hb : BV μ' a t' cap' s') (hg : gr cap m cap') (hm : m ≤ 40) (F : Fa (fun b => b = a ∨ b = t) (fun b _ => b = a) (gn cap m) (80 * gn cap m) μ μ') (ht : t' = t ∨ t' = jsz μ) : PS μb (n + 1) (w + 80) μ' a t' cap' s' := by
  obtain ⟨h1, h2, h3, h4, h5, h6, h7⟩ := h
  have hn : gn cap m ≤ 1 := by unfold gn; split <;> decide
  have hp := gp_gr h5 hm hg
  have hz := F.2.1
  have hl := F.2.2.1
  refine ⟨?_, hb, h3, ?_, by have := hg.1; omega, by omega, by omega⟩
  · have := h1.trans F (fun b hb g => by rcases g with g | g <;> omega) (fun b j hb g => by have g : b = a := g; omega)
    exact this.mono (fun _ _ g => g) (fun _ _ _ g => g) (by omega) (by omega)
  · have := h1.2.1.1
    rcases ht with e | e <;> omega
theorem gn_le {cap m : Nat} : gn cap m ≤ 1 := by
  unfold gn
  split <;> decide
theorem ps_char (hx : jX μb) (hp : PS μb n w μ a t cap s) (hc : c < 128) (hm : s.length + 1 ≤ 40) : ∃ μ' t' cap', jC (d + 5) 292 [.ref a, .int (N c)] μ = some (some (.ref a), μ') ∧ PS μb (n + 1) (w + 80) μ' a t' cap' (s ++ [c]) := by
  obtain ⟨μ', t', cap', r1, r2, r3, r4, r5⟩ := sb_char (d := d) (hx.of hp.1.1) hp.1.jw hp.2.1 hc hm
  exact ⟨μ', t', cap', r1, ps_step hp r2 r3 hm r4 r5⟩
theorem ps_int (hx : KX μb B) (hjb : JW μb) (hp : PS μb n w μ a t cap s) (hm : s.length + (dec v).length ≤ 40) : ∃ μ' t' cap', jC (d + 5) 293 [.ref a, .int v] μ = some (some (.ref a), μ') ∧ PS μb (n + 1) (w + 80) μ' a t' cap' (s ++ dec v) := by
  obtain ⟨μ', t', cap', r1, r2, r3, r4, r5⟩ := sb_int (d := d) (v := v) (hx.fa hjb hp.1 (fun _ _ => id) (fun _ _ _ => id)).kd hp.1.jw hp.2.1 hm
  exact ⟨μ', t', cap', r1, ps_step hp r2 r3 hm r4 r5⟩
theorem ps_str {j : Nat} (hx : KX μb B) (hjb : JW μb) (hp : PS μb n w μ a t cap s) (hs : kw j = some u) (hm : s.length + u.length ≤ 40) : ∃ μ' t' cap', jC (d + 6) 294 [.ref a, jext μ j] μ = some (some (.ref a), μ') ∧ PS μb (n + 1) (w + 80) μ' a t' cap' (s ++ u) := by
  have hX := hx.fa hjb hp.1 (fun _ _ => id) (fun _ _ _ => id)
  obtain ⟨b, tb, -, -, b3, b4⟩ := hX.2.2.2 j u hs
  obtain ⟨μ', t', cap', r1, r2, r3, r4, r5⟩ := sb_str (d := d) hX.1 hp.1.jw hp.2.1 b4 hm
  rw [b3]
  exact ⟨μ', t', cap', r1, ps_step hp r2 r3 hm r4 r5⟩
end PRN
