/-! THE REFERENCE's CALLS: texts being built -/
/-- a text built, with other things made between -/
def OB (μb : jM) (m v : Nat) (μ : jM) (a t cap : Nat) (s : List Nat) : Prop := Fa (fun _ => False) (fun _ _ => False) (m + 2 + gp cap) (v + 20 + 80 * gp cap) μb μ ∧ BV μ a t cap s ∧ jsz μb ≤ a ∧ jsz μb ≤ t ∧ 16 ≤ cap
/-- a two, printed -/
def prP (G : DG) (x : Int32 × Int32) : List Nat :=
  if x.1 = N 0 then tkp G (N 48, x.2, N 0)
  else if x.1 = N 3 then tkp G (rT x.2.toNatClampNeg)
  else if x.1 = N 2 then tkp G (wT x.2.toNatClampNeg, N 0, N 0)
  else tkp G (x.2, N 0, N 0)
/-- what a two may be -/
def twOK (x : Int32 × Int32) : Prop := (∃ v, v < 1000000 ∧ x = (N 0, N v)) ∨ (∃ i, rK i ∧ x = (N 3, N i)) ∨ (∃ w, w < 4 ∧ x = (N 2, N w)) ∨ ∃ c, (c = 40 ∨ c = 41 ∨ c = 42 ∨ c = 43 ∨ c = 45 ∨ c = 58) ∧ x = (N 1, N c)
theorem enc_tw : ∀ (e : Ex) (u : Nat), lv u e → ∀ x, x ∈ encE e → twOK x
  | .natCast v, u, hu, x, hx => by
    rw [List.mem_singleton.mp hx]
    exact Or.inl ⟨v, hu, rfl⟩
  | .intCast v, u, hu, x, hx => hu.elim
  | .var i, u, hu, x, hx => by
    rw [List.mem_singleton.mp hx]
    exact Or.inr (Or.inl ⟨i, hu, rfl⟩)
  | .num z, u, hu, x, hx => by
    obtain ⟨h0, h1, h2, h4⟩ := hu
    have hx : x ∈ [(N 2, N (z.toNat / 1000000)), (N 1, N 40), (N 3, N (z.toNat / 1000 % 1000)), (N 1, N 58), (N 3, N (z.toNat % 1000)), (N 1, N 41)] := hx
    simp only [List.mem_cons, List.not_mem_nil, or_false] at hx
    rcases hx with rfl | rfl | rfl | rfl | rfl | rfl
    · exact Or.inr (Or.inr (Or.inl ⟨_, h1, rfl⟩))
    · exact Or.inr (Or.inr (Or.inr ⟨40, by decide, rfl⟩))
    · exact Or.inr (Or.inl ⟨_, h2, rfl⟩)
    · exact Or.inr (Or.inr (Or.inr ⟨58, by decide, rfl⟩))
    · exact Or.inr (Or.inl ⟨_, h4, rfl⟩)
    · exact Or.inr (Or.inr (Or.inr ⟨41, by decide, rfl⟩))
  | .neg e, u, hu, x, hx => by
    rcases List.mem_cons.mp (show x ∈ (N 1, N 45) :: encE e from hx) with rfl | hx
    · exact Or.inr (Or.inr (Or.inr ⟨45, by decide, rfl⟩))
    · exact enc_tw e 0 hu x hx
  | .pow e _, u, hu, x, hx => by
    rcases List.mem_cons.mp (show x ∈ (N 1, N 40) :: (encE e ++ [(N 1, N 41)]) from hx) with rfl | hx
    · exact Or.inr (Or.inr (Or.inr ⟨40, by decide, rfl⟩))
    · rcases List.mem_append.mp hx with hx | hx
      · exact enc_tw e 2 hu.2 x hx
      · rw [List.mem_singleton.mp hx]
        exact Or.inr (Or.inr (Or.inr ⟨41, by decide, rfl⟩))
  | .add a b, u, hu, x, hx => by
    rcases List.mem_append.mp (show x ∈ encE a ++ (N 1, N 43) :: encE b from hx) with hx | hx
    · exact enc_tw a 2 hu.2.1 x hx
    · rcases List.mem_cons.mp hx with rfl | hx
      · exact Or.inr (Or.inr (Or.inr ⟨43, by decide, rfl⟩))
      · exact enc_tw b 1 hu.2.2 x hx
  | .sub a b, u, hu, x, hx => by
    rcases List.mem_append.mp (show x ∈ encE a ++ (N 1, N 45) :: encE b from hx) with hx | hx
    · exact enc_tw a 2 hu.2.1 x hx
    · rcases List.mem_cons.mp hx with rfl | hx
      · exact Or.inr (Or.inr (Or.inr ⟨45, by decide, rfl⟩))
      · exact enc_tw b 1 hu.2.2 x hx
  | .mul a b, u, hu, x, hx => by
    rcases List.mem_append.mp (show x ∈ encE a ++ (N 1, N 42) :: encE b from hx) with hx | hx
    · exact enc_tw a 1 hu.2.1 x hx
    · rcases List.mem_cons.mp hx with rfl | hx
      · exact Or.inr (Or.inr (Or.inr ⟨42, by decide, rfl⟩))
      · exact enc_tw b 0 hu.2.2 x hx
theorem dcT_pr (G : DG) : ∀ (l : List (Int32 × Int32)) (b : Bool), (dcT b l).flatMap (tkp G) = l.flatMap (prP G)
  | [], b => rfl
  | x :: l, b => by
    show (dcT b (x :: l)).flatMap (tkp G) = prP G x ++ l.flatMap (prP G)
    have e2 := dcT_pr G l true
    have e3 := dcT_pr G l false
    have e4 := dcT_pr G l (decide (x.2 = N 41))
    generalize l.flatMap (prP G) = L at *
    unfold dcT prP
    by_cases h0 : x.1 = N 0
    · rw [if_pos h0, if_pos h0, List.flatMap_cons, e2]
    · rw [if_neg h0, if_neg h0]
      by_cases h3 : x.1 = N 3
      · rw [if_pos h3, if_pos h3, List.flatMap_cons, e2]
      · rw [if_neg h3, if_neg h3]
        by_cases h2 : x.1 = N 2
        · rw [if_pos h2, if_pos h2, List.flatMap_cons, e2]
        · rw [if_neg h2, if_neg h2]
          by_cases h5 : x.2 = N 45 ∧ b = false
          · rw [if_pos h5, List.flatMap_cons, e3, h5.1]
            rfl
          · rw [if_neg h5, List.flatMap_cons, e4]
section BLD
variable {μ μ' μb ν : jM} {a t cap d n w c b tb B m v k : Nat} {s u : List Nat} {x : Int32} {G : DG}
theorem gp2 : gp cap ≤ 2 := by
  unfold gp
  split
  · decide
  · split <;> decide
theorem ob_start (hx : jX μ) (hj : JW μ) : ∃ μ1 t, jC (d + 2) 291 [.ref (jsz μ)] (jnew μ 1 0 4) = some (none, μ1) ∧ OB μ 0 0 μ1 (jsz μ) t 16 [] := by
  have F0 : Fa (fun _ => False) (fun _ _ => False) 1 4 μ (jnew μ 1 0 4) := Fa.new hj
  obtain ⟨μ1, c1, B1, F1, s1⟩ := sb_new (d := d) (a := jsz μ) (μ := jnew μ 1 0 4) (hx.of F0.1) F0.jw nk_e (by rw [nv_e])
  have F01 : Fa (fun _ => False) (fun _ _ => False) 2 20 μ μ1 := F0.trans F1 (fun a ha g => by have g : a = jsz μ := g; omega) (fun a j ha g => by have g : a = jsz μ := g; omega)
  exact ⟨μ1, jsz (jnew μ 1 0 4), c1, F01, B1, Nat.le_refl _, by rw [nsz]; omega, Nat.le_refl _⟩
theorem ob_mid (h : OB μb m v μ a t cap s) (F : Fa (fun _ => False) (fun _ _ => False) n w μ ν) : OB μb (m + n) (v + w) ν a t cap s := by
  obtain ⟨h1, h2, h3, h4, h5⟩ := h
  exact ⟨(h1.trans F (fun _ _ k => k) (fun _ _ _ k => k)).mono (fun _ _ k => k) (fun _ _ _ k => k) (by omega) (by omega), h2.fa h1.jw F id id id, h3, h4, h5⟩
theorem ob_step {t' cap' : Nat} {s' : List Nat} (h : OB μb m v μ a t cap s) (hb : BV μ' a t' cap' s') (hg : gr cap k cap') (hm : k ≤ 40) (F : Fa (fun b => b = a ∨ b = t) (fun b _ => b = a) (gn cap k) (80 * gn cap k) μ μ') (ht : t' = t ∨ t' = jsz μ) : OB μb m v μ' a t' cap' s' ∧ (k ≤ cap → cap' = cap) := by
  obtain ⟨h1, h2, h3, h4, h5⟩ := h
  have hn : gn cap k ≤ 1 := gn_le
  have hp := gp_gr h5 hm hg
  refine ⟨⟨?_, hb, h3, ?_, by have := hg.1; omega⟩, fun hk => ?_⟩
  · have := h1.trans F (fun b hb g => by rcases g with g | g <;> omega) (fun b j hb g => by have g : b = a := g; omega)
    exact this.mono (fun _ _ g => g) (fun _ _ _ g => g) (by omega) (by omega)
  · have := h1.2.1.1
    rcases ht with e | e <;> omega
  · have e0 : gn cap k = 0 := if_pos hk
    rw [e0] at F
    have l1 := hb.lt F.jw
    have l2 := h2.lt h1.jw
    have sz := F.2.1
    have et : t' = t := by
      rcases ht with e | e
      · exact e
      · omega
    subst et
    have a1 := hb.2.1.2.1
    rw [F.ll l2.2] at a1
    rw [← a1]
    exact h2.2.1.2.1
theorem ob_char (hx : jX μb) (h : OB μb m v μ a t cap s) (hc : c < 128) (hm : s.length + 1 ≤ 40) : ∃ μ' t' cap', jC (d + 5) 292 [.ref a, .int (N c)] μ = some (some (.ref a), μ') ∧ OB μb m v μ' a t' cap' (s ++ [c]) ∧ (s.length + 1 ≤ cap → cap' = cap) := by
  obtain ⟨μ', t', cap', r1, r2, r3, r4, r5⟩ := sb_char (d := d) (hx.of h.1.1) h.1.jw h.2.1 hc hm
  exact ⟨μ', t', cap', r1, ob_step h r2 r3 hm r4 r5⟩
theorem ob_int (hx : KX μb B) (hj : JW μb) (h : OB μb m v μ a t cap s) (hm : s.length + (dec x).length ≤ 40) : ∃ μ' t' cap', jC (d + 5) 293 [.ref a, .int x] μ = some (some (.ref a), μ') ∧ OB μb m v μ' a t' cap' (s ++ dec x) ∧ (s.length + (dec x).length ≤ cap → cap' = cap) := by
  obtain ⟨μ', t', cap', r1, r2, r3, r4, r5⟩ := sb_int (d := d) (v := x) (hx.fa hj h.1 (fun _ _ => id) (fun _ _ _ => id)).kd h.1.jw h.2.1 hm
  exact ⟨μ', t', cap', r1, ob_step h r2 r3 hm r4 r5⟩
theorem ob_str (hx : jX μb) (h : OB μb m v μ a t cap s) (hs : ST μ b tb u) (hm : s.length + u.length ≤ 40) : ∃ μ' t' cap', jC (d + 6) 294 [.ref a, .ref b] μ = some (some (.ref a), μ') ∧ OB μb m v μ' a t' cap' (s ++ u) ∧ (s.length + u.length ≤ cap → cap' = cap) := by
  obtain ⟨μ', t', cap', r1, r2, r3, r4, r5⟩ := sb_str (d := d) (hx.of h.1.1) h.1.jw h.2.1 hs hm
  exact ⟨μ', t', cap', r1, ob_step h r2 r3 hm r4 r5⟩
theorem ob_end (hx : jX μb) (h : OB μb m v μ a t cap s) : ∃ ν b tb, jC (d + 6) 297 [.ref a] μ = some (some (.ref b), ν) ∧ ST ν b tb s ∧ Fa (fun _ => False) (fun _ _ => False) (m + 4 + gp cap) (v + 24 + 80 * gp cap + s.length) μb ν := by
  obtain ⟨μ', tr, r1, r2, r3, r4⟩ := sb_toString (d := d) (hx.of h.1.1) h.1.jw h.2.1
  exact ⟨μ', jsz μ, tr, r1, r2, (h.1.trans r4 (fun _ _ k => k) (fun _ _ _ k => k)).mono (fun _ _ k => k) (fun _ _ _ k => k) (by omega) (by omega)⟩
theorem ob_k1 (h : OB μb m v μ a t cap s) : jrecv μ 1 (.ref a) = true := by rw [rv1, h.2.1.1.1]; rfl
/-- a constant text -/
theorem kx_st {j : Nat} (hx : KX μ B) (hs : kw j = some u) : ∃ b tb, jext μ j = .ref b ∧ ST μ b tb u := by
  obtain ⟨b, tb, -, -, b3, b4⟩ := hx.2.2.2 j u hs
  exact ⟨b, tb, b3, b4⟩
theorem r_wordOf (hx : KX μ B) (hw : w < 4) : ∃ b tb, jC d 176 [.int (N w)] μ = some (some (.ref b), μ) ∧ ST μ b tb (tkp G (wT w, N 0, N 0)) := by
  have fin : ∀ (j : Nat) (u : List Nat), kw j = some u → ∃ b tb, jR d 176 31 [.int (N w)] [jext μ j] μ = some (some (.ref b), μ) ∧ ST μ b tb u := fun j u hj => by
    obtain ⟨b, tb, e1, e2⟩ := kx_st hx hj
    refine ⟨b, tb, ?_, e2⟩
    rw [e1, b176_31 (hs0 := ir_ref)]
  rw [jC_run (by decide)]
  show ∃ b tb, jR d 176 0 [.int (N w)] [] μ = _ ∧ _
  rw [b176_0 (hx := hx.1)]
  obtain rfl | rfl | rfl | rfl : w = 0 ∨ w = 1 ∨ w = 2 ∨ w = 3 := by omega
  · rw [if_pos (show N 0 = 0 from rfl)]
    exact fin 16 _ rfl
  · rw [if_neg (show ¬ N 1 = 0 by decide), if_pos (show N 1 = 1 from rfl)]
    exact fin 17 _ rfl
  · rw [if_neg (show ¬ N 2 = 0 by decide), if_neg (show ¬ N 2 = 1 by decide), if_pos (show N 2 = 2 from rfl)]
    exact fin 18 _ rfl
  · rw [if_neg (show ¬ N 3 = 0 by decide), if_neg (show ¬ N 3 = 1 by decide), if_neg (show ¬ N 3 = 2 by decide)]
    exact fin 19 _ rfl
end BLD
