/-! THE REFERENCE, MERGING: places -/
/-- the keys of the fourth grid -/
def KS (μ : jM) (M : Nat) (K : List Int32) : Prop := K.length ≤ 8 ∧ jiv μ (M + 1) 3 = N K.length ∧ (∀ (i : Nat) k, K[i]? = some k → jiv μ (M + 3 + 3) i = k) ∧ K3 μ M
/-- keys and the count changed -/
def FKp (M : Nat) (μ μ' : jM) : Prop := Fx (fun a => a = M + 1 ∨ a = M + 3 + 3) (fun _ _ => False) μ μ' ∧ ∀ j, j ≠ 3 → jiv μ' (M + 1) j = jiv μ (M + 1) j
/-- behind which place -/
def bhd (W : DG) (ks : List Int32) : Nat → Nat
  | 0 => 0
  | j + 1 => nextB W ((ks[j]?).getD (N 0)) (bhd W ks j)
def prI (j : Nat) : Int32 := if j = 0 then NEG else N (j - 1)
section LAY
variable {μ μ' μ'' ν : jM} {S S' : Nat → Prop} {T T' : Nat → Nat → Prop} {M g h t s n w d D i j k x y a b c f q : Nat} {A B C : GA} {σ : SG} {G : Nat → DG} {o o' ob ox ot : Option Nat} {R : Nat → Nat × Nat} {l l' : List CL} {V : Nat → DC} {K : List Int32} {W : DG}
theorem lfind_ky {φ ψ : Type} {l : List (RW φ)} {l' : List (RW ψ)} {kk : Int32} (h : ky1 l = ky1 l') : lfind kk l = lfind kk l' := by
  have e : ∀ {χ : Type} (l : List (RW χ)), lfind kk l = (ky1 l).findIdx? (fun y => y == kk) := by
    intro χ l
    unfold lfind ky1
    rw [List.findIdx?_map]; rfl
  rw [e l, e l', h]
theorem ky1_get {φ : Type} {l : List (RW φ)} : (ky1 l)[i]? = (l[i]?).map fun w => w.1 := List.getElem?_map ..
theorem FKp.refl : FKp M μ μ := ⟨Fx.refl, fun _ _ => rfl⟩
theorem FKp.trans (a : FKp M μ μ') (b : FKp M μ' μ'') : FKp M μ μ'' := ⟨a.1.trans b.1, fun j h => (b.2 j h).trans (a.2 j h)⟩
theorem FKp.me (F : FKp M μ μ') : FMe M μ μ' := by
  refine ⟨F.1.mono (fun a k => ?_) (fun a j k => k.elim), F.2, fun j _ => congrFun (F.1.iv (by omega)) j⟩
  unfold SMe SMg
  omega
theorem KS.vn (h : KS μ M K) : vN μ (mA M 3) = K.length := by
  show (jiv μ (M + 1) 3).toNatClampNeg = _
  rw [h.2.1, N_nat (by have := h.1; omega)]
theorem KS.gq (h : KS μ M K) : GQ μ M 3 := ⟨by decide, by rw [h.vn]; exact h.2.1, by rw [h.vn]; exact h.1, h.2.2.2⟩
theorem KS.ky (h : KS μ M K) : ky1 (rG μ (mA M 3)) = K := by
  apply List.ext_getElem?
  intro i
  rw [ky1_get]
  by_cases hi : i < K.length
  · have e : (rG μ (mA M 3))[i]? = some (rowAt μ (mA M 3) i) := RWN_get (n := vN μ (mA M 3)) (by rw [h.vn]; exact hi)
    rw [e, List.getElem?_eq_getElem hi]
    exact congrArg some (h.2.2.1 i _ (List.getElem?_eq_getElem hi))
  · rw [List.getElem?_eq_none (show (rG μ (mA M 3)).length ≤ i by rw [len_rG, h.vn]; omega), List.getElem?_eq_none (show K.length ≤ i by omega)]; rfl
theorem KS.find (h : KS μ M (ky1 W)) {kk : Int32} : lfind kk (rG μ (mA M 3)) = lfind kk W := lfind_ky h.ky
/-- one more key behind -/
theorem KS.push (h : KS μ M K) (h8 : K.length < 8) {kk : Int32} : KS (jsetI (jsetI μ (M + 3 + 3) K.length kk) (M + 1) 3 (N (K.length + 1))) M (K ++ [kk]) ∧ FKp M μ (jsetI (jsetI μ (M + 3 + 3) K.length kk) (M + 1) 3 (N (K.length + 1))) := by
  obtain ⟨h1, h2, h3, h4⟩ := h
  refine ⟨⟨by rw [List.length_append]; exact h8, ?_, fun i k hk => ?_, h4⟩, Fx.setI (Fx.setI Fx.refl (Or.inr rfl)) (Or.inl rfl), fun j hj => ?_⟩
  · rw [List.length_append]
    exact if_pos ⟨rfl, rfl⟩
  · show (if M + 3 + 3 = M + 1 ∧ i = 3 then _ else if M + 3 + 3 = M + 3 + 3 ∧ i = K.length then kk else jiv μ (M + 3 + 3) i) = k
    rw [if_neg (by omega)]
    by_cases e : i = K.length
    · subst e
      rw [List.getElem?_append_right (Nat.le_refl _), Nat.sub_self] at hk
      rw [if_pos ⟨rfl, rfl⟩]
      exact Option.some.inj hk
    · rw [if_neg (fun q => e q.2)]
      have hi : i < K.length := by
        have := (List.getElem?_eq_some_iff.mp hk).1
        rw [List.length_append] at this
        have this : i < K.length + 1 := this
        omega
      rw [List.getElem?_append_left hi] at hk
      exact h3 i k hk
  · show (if M + 1 = M + 1 ∧ j = 3 then _ else if M + 1 = M + 3 + 3 ∧ j = K.length then _ else jiv μ (M + 1) j) = _
    rw [if_neg (fun q => hj q.2), if_neg (by omega)]
theorem prI_0 : N j - 1 = prI j := by
  unfold prI
  by_cases e : j = 0
  · subst e; rw [if_pos rfl]; rfl
  · rw [if_neg e, show (1 : Int32) = N 1 from rfl, N_sub (by omega)]
theorem prI_1 : N j + (-1) = prI j := by
  unfold prI
  by_cases e : j = 0
  · subst e; rw [if_pos rfl]; rfl
  · rw [if_neg e, neg1, N_pred (by omega)]
/-- where another one's row comes to stand -/
theorem r_behind (h : GG μ M G) (hk : KS μ M (ky1 W)) (hj : j ≤ (G 2).length) : jC (d + 1) 233 [.ref M, .int (N j)] μ = some (some (.int (N (bhd W (ky1 (G 2)) j))), μ) := by
  have hq := h.1
  have k13 := hq.k13
  have gl := (h.gq (g := 2) (by decide)).2.2
  have n3 : ∀ kk, (pl (lfind kk W) = -1) = (lfind kk W = none) := fun kk => plo_ne (by have := hk.1; unfold ky1 at this; rw [List.length_map] at this; exact this)
  have loop : ∀ j, j ≤ (G 2).length → ∀ u1 u3, jR (d + 1) 233 4 [.ref M, u1, .int (prI j), u3] [] μ = some (some (.int (N (bhd W (ky1 (G 2)) j))), μ) := by
    intro j
    induction j with
    | zero =>
      intro _ u1 u3
      rw [b233_4, if_pos (by decide)]
      rfl
    | succ j ih =>
      intro hj u1 u3
      have gg := hq.gk (g := 2) (by decide)
      have gr := hq.gr (g := 2) (by decide)
      have e1 := ent_get (μ := μ) (i := j) gg.1.1 gg.1.2 (by omega) (by decide)
      have ek : ((ky1 (G 2))[j]?).getD (N 0) = jiv μ (M + 3 + 2) j := by
        obtain ⟨z1, z2⟩ := h.2 2 (by decide)
        rw [ky1_get, ← z2]
        unfold dM
        rw [List.getElem?_map, show (rG μ (mA M 2))[j]? = some (rowAt μ (mA M 2) j) from RWN_get (n := vN μ (mA M 2)) (by rw [(h.gq (g := 2) (by decide)).2.1]; omega)]
        rfl
      have p3 := r_placeOf (d := d) hq hk.gq (jiv μ (M + 3 + 2) j)
      rw [hk.find] at p3
      have p3 : jC d 194 [.ref M, .int 3, .int (jiv μ (M + 3 + 2) j)] μ = _ := p3
      have gr1 : jaR μ (.ref (M + 2)) 2 = some (.ref (M + 3 + 2)) := gr.1
      show jR (d + 1) 233 4 [.ref M, u1, .int (N j), u3] [] μ = some (some (.int (N (nextB W (((ky1 (G 2))[j]?).getD (N 0)) (bhd W (ky1 (G 2)) j)))), μ)
      rw [ek, b233_4, if_neg (by show ¬ N j < N 0; rw [N_lt (by omega) (by decide)]; omega)]
      simp only [gI13, gR13, pI13, pR13, rv13, k13, hq.f.2.1, gr1, e1, p3, if_true, Option.bind_some, rf_some]
      show jR (d + 1) 233 21 [.ref M, u1, .int (N j), u3] [.int (pl (lfind (jiv μ (M + 3 + 2) j) W))] μ = _
      rw [b233_21]
      unfold nextB
      cases e : lfind (jiv μ (M + 3 + 2) j) W with
      | none =>
        rw [if_pos (show pl none = -1 from rfl), prI_1]
        exact ih (by omega) _ _
      | some p =>
        rw [if_neg (show ¬ pl (some p) = -1 by rw [← e, n3, e]; intro q; cases q)]
        show some (some (Value.int (N p + N 1)), μ) = _
        rw [N_add]
  rw [jC_run (by decide)]
  show jR (d + 1) 233 0 [.ref M, .int (N j), .retAddr 0, .retAddr 0] [] μ = _
  rw [b233_0, prI_0]
  exact loop j hj _ _
/-- keys moved down, one put between -/
theorem r_between {kk : Int32} {u1 u2 u4 : Value} {i2 : Int32} (h : GG μ M G) (hk : KS μ M K) (h8 : K.length < 8) (hb : b ≤ K.length) : ∃ μ', jR (d + 1) 226 153 [.ref M, u1, .int i2, .int kk, u2, u4] [.int (N b)] μ = jR (d + 1) 226 216 [.ref M, u1, .int i2, .int kk, .int (N b), .int (N b)] [] μ' ∧ FKp M μ μ' ∧ KS μ' M (K.insertIdx b kk) := by
  have ro : ∀ {ν : jM}, QS ν M → jaI ν (.ref (M + 1)) 3 = some (jiv ν (M + 1) 3) := fun q => q.ro (g := 3) (by decide)
  have loop : ∀ m i5 (μ1 : jM), b + m = i5 → i5 ≤ K.length → QS μ1 M → FKp M μ μ1 → jiv μ1 (M + 1) = jiv μ (M + 1) → (∀ z, jiv μ1 (M + 3 + 3) z = if i5 < z ∧ z ≤ K.length then jiv μ (M + 3 + 3) (z - 1) else jiv μ (M + 3 + 3) z) → ∃ μ2, jR (d + 1) 226 163 [.ref M, u1, .int i2, .int kk, .int (N b), .int (N i5)] [] μ1 = jR (d + 1) 226 163 [.ref M, u1, .int i2, .int kk, .int (N b), .int (N b)] [] μ2 ∧ QS μ2 M ∧ FKp M μ μ2 ∧ jiv μ2 (M + 1) = jiv μ (M + 1) ∧ ∀ z, jiv μ2 (M + 3 + 3) z = if b < z ∧ z ≤ K.length then jiv μ (M + 3 + 3) (z - 1) else jiv μ (M + 3 + 3) z := by
    intro m
    induction m with
    | zero =>
      intro i5 μ1 hi hl q F e1 e2
      have : i5 = b := by omega
      subst this
      exact ⟨μ1, rfl, q, F, e1, e2⟩
    | succ m ih =>
      intro i5 μ1 hi hl q F e1 e2
      have gg := q.gk (g := 3) (by decide)
      have gr : jaR μ1 (.ref (M + 2)) 3 = some (.ref (M + 3 + 3)) := (q.gr (g := 3) (by decide)).1
      have g1 := ent_get (μ := μ1) (i := i5 - 1) gg.1.1 gg.1.2 (by omega) (by decide)
      have g2 := ent_set (μ := μ1) (i := i5) (v := jiv μ1 (M + 3 + 3) (i5 - 1)) gg.1.1 gg.1.2 (by omega) (by decide)
      have F2 : FKp M μ1 (jsetI μ1 (M + 3 + 3) i5 (jiv μ1 (M + 3 + 3) (i5 - 1))) := ⟨Fx.setI Fx.refl (Or.inr rfl), fun j _ => congrFun (iv_setIn (by omega)) j⟩
      obtain ⟨μ2, w1, w2⟩ := ih (i5 - 1) _ (by omega) (by omega) (F2.me.qs q) (F.trans F2) ((iv_setIn (by omega)).trans e1) (fun z => by
        show (if M + 3 + 3 = M + 3 + 3 ∧ z = i5 then _ else jiv μ1 (M + 3 + 3) z) = _
        by_cases ez : z = i5
        · subst ez
          rw [if_pos ⟨rfl, rfl⟩, if_pos (by omega), e2, if_neg (by omega)]
        · rw [if_neg (fun q => ez q.2), e2]
          by_cases e3 : i5 < z ∧ z ≤ K.length
          · rw [if_pos e3, if_pos (by omega)]
          · rw [if_neg e3, if_neg (by omega)])
      refine ⟨μ2, ?_, w2⟩
      rw [b226_163, if_pos (by rw [N_lt (by omega) (by omega)]; omega)]
      have e3 : N i5 - 1 = N (i5 - 1) := by rw [show (1 : Int32) = N 1 from rfl, N_sub (by omega)]
      have e4 : N i5 + (-1) = N (i5 - 1) := by rw [neg1, N_pred (by omega)]
      simp only [gI13, gR13, pI13, pR13, rv13, q.k13, q.f.2.1, gr, e3, e4, g1, g2, if_true, Option.bind_some, rf_some]
      exact w1
  have hq := h.1
  have k13 := hq.k13
  obtain ⟨h1, h2, h3, h4⟩ := hk
  obtain ⟨μ2, w1, w2, w3, w4, w5⟩ := loop (K.length - b) K.length μ (by omega) (by omega) hq FKp.refl rfl (fun z => by rw [if_neg (by omega)])
  have gg := w2.gk (g := 3) (by decide)
  have gr : jaR μ2 (.ref (M + 2)) 3 = some (.ref (M + 3 + 3)) := (w2.gr (g := 3) (by decide)).1
  have g2 := ent_set (μ := μ2) (i := b) (v := kk) gg.1.1 gg.1.2 (by omega) (by decide)
  have F2 : FKp M μ2 (jsetI μ2 (M + 3 + 3) b kk) := ⟨Fx.setI Fx.refl (Or.inr rfl), fun j _ => congrFun (iv_setIn (by omega)) j⟩
  have q3 := F2.me.qs w2
  have r3 := ro q3
  have e13 : jiv (jsetI μ2 (M + 3 + 3) b kk) (M + 1) 3 = N K.length := by
    rw [show jiv (jsetI μ2 (M + 3 + 3) b kk) (M + 1) = jiv μ2 (M + 1) from iv_setIn (by omega), w4]; exact h2
  rw [e13] at r3
  have g3 := q3.rs (g := 3) (v := N K.length + 1) (by decide)
  have g3 : jsI (jsetI μ2 (M + 3 + 3) b kk) (.ref (M + 1)) 3 (N K.length + 1) = _ := g3
  have F3 : FKp M (jsetI μ2 (M + 3 + 3) b kk) (jsetI (jsetI μ2 (M + 3 + 3) b kk) (M + 1) 3 (N K.length + 1)) := ⟨Fx.setI Fx.refl (Or.inl rfl), fun j hj => ivj hj⟩
  refine ⟨jsetI (jsetI μ2 (M + 3 + 3) b kk) (M + 1) 3 (N K.length + 1), ?_, w3.trans (F2.trans F3), ?_, ?_, fun i k hi => ?_, fun j b hb => ?_⟩
  · rw [b226_153]
    have r0 := ro hq
    rw [h2] at r0
    simp only [gI13, gR13, pI13, pR13, rv13, k13, hq.f.1, r0, if_true, Option.bind_some, rf_some]
    rw [w1, b226_163, if_neg (by rw [N_lt (by omega) (by omega)]; omega)]
    simp only [gI13, gR13, pI13, pR13, rv13, w2.k13, w2.f.2.1, gr, g2, q3.k13, q3.f.1, r3, g3, if_true, Option.bind_some, rf_some]
  · rw [List.length_insertIdx_of_le_length hb]; omega
  · rw [List.length_insertIdx_of_le_length hb, ← N_add]
    exact if_pos ⟨rfl, rfl⟩
  · show (if M + 3 + 3 = M + 1 ∧ i = 3 then _ else if M + 3 + 3 = M + 3 + 3 ∧ i = b then kk else jiv μ2 (M + 3 + 3) i) = k
    rw [if_neg (by omega)]
    rw [List.getElem?_insertIdx] at hi
    by_cases e1 : i < b
    · rw [if_pos e1] at hi
      rw [if_neg (by omega), w5, if_neg (by omega)]
      exact h3 i k hi
    · rw [if_neg e1] at hi
      by_cases e2 : i = b
      · rw [if_pos e2, if_pos (by omega)] at hi
        rw [if_pos ⟨rfl, e2⟩]
        exact Option.some.inj hi
      · rw [if_neg e2] at hi
        have : i - 1 < K.length := (List.getElem?_eq_some_iff.mp hi).1
        rw [if_neg (by omega), w5, if_pos (by omega)]
        exact h3 (i - 1) k hi
  · have hb : jrv μ2 (M + 23 + 3) j = some b := hb
    rw [w3.1.rv id] at hb
    show jk μ2 b = 20
    rw [w3.1.kk]
    exact h4 j b hb
end LAY
