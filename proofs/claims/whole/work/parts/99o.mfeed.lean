/-! THE REFERENCE's CALLS: the tape fed -/
section LAY
variable {μ μ' ν : jM} {S S' : Nat → Prop} {T T' : Nat → Nat → Prop} {M g h t s n w d D i j k x y a b c : Nat} {A B C : GA} {σ : SG}
/-- a byte laid on the tape -/
theorem fd_step {m L k : Nat} {v1 v2 v3 v4 v5 v : Int32} (hq : QS μ M) (h16 : jiv μ M 16 = N L) (hm : m ≤ 5) (hL : L + m ≤ 40) (hk : k < m) (hv : [v1, v2, v3, v4, v5][k]? = some v) : jR d 164 67 [.ref M, .int (N m), .int v1, .int v2, .int v3, .int v4, .int v5, .int (N k)] [] μ = jR d 164 67 [.ref M, .int (N m), .int v1, .int v2, .int v3, .int v4, .int v5, .int (N (k + 1))] [] (jsetI μ (M + 399) (L + k) v) := by
  have k13 := hq.k13
  have q15 : jrv μ M 15 = some (M + 399) := hq.2.1 15 399 rfl
  have k99 : jk μ (M + 399) = 20 ∧ jl μ (M + 399) = 40 := hq.kd (o := 399) (by decide) rfl
  have e1 := ent_set (μ := μ) (i := L + k) (v := v) k99.1 k99.2 (by omega) (by decide)
  have go : jR d 164 127 [.ref M, .int (N m), .int v1, .int v2, .int v3, .int v4, .int v5, .int (N k)] [.int v, .int (N L + N k), .ref (M + 399)] μ = jR d 164 67 [.ref M, .int (N m), .int v1, .int v2, .int v3, .int v4, .int v5, .int (N (k + 1))] [] (jsetI μ (M + 399) (L + k) v) := by
    rw [b164_127 (hs0 := ir_ref), N_add, e1, show (1 : Int32) = N 1 from rfl, N_add]
    rfl
  rw [b164_67, if_pos (by rw [N_lt (by omega) (by omega)]; exact hk)]
  simp only [gI13, gR13, pI13, pR13, rv13, k13, q15, if_true, Option.bind_some, rf_some, h16]
  rcases (show k = 0 ∨ k = 1 ∨ k = 2 ∨ k = 3 ∨ k = 4 by omega) with rfl | rfl | rfl | rfl | rfl
  · cases hv; rw [if_pos (by decide)]; exact go
  · cases hv; rw [if_neg (by decide), if_pos (by decide)]; exact go
  · cases hv; rw [if_neg (by decide), if_neg (by decide), if_pos (by decide)]; exact go
  · cases hv; rw [if_neg (by decide), if_neg (by decide), if_neg (by decide), if_pos (by decide)]; exact go
  · cases hv; rw [if_neg (by decide), if_neg (by decide), if_neg (by decide), if_neg (by decide)]; exact go
/-- bytes laid on the tape, one by one -/
theorem fd_loop {m L : Nat} {v1 v2 v3 v4 v5 : Int32} (hm : m ≤ 5) (hL : L + m ≤ 40) : ∀ (r k : Nat) (ν : jM), k + r = m → Fx (fun a => a = M + 399) (fun _ _ => False) μ ν → QS ν M → jiv ν M 16 = N L → (∀ j, j < L → jiv ν (M + 399) j = jiv μ (M + 399) j) → (∀ j v, j < k → [v1, v2, v3, v4, v5][j]? = some v → jiv ν (M + 399) (L + j) = v) → ∃ μ', jR d 164 67 [.ref M, .int (N m), .int v1, .int v2, .int v3, .int v4, .int v5, .int (N k)] [] ν = jR d 164 67 [.ref M, .int (N m), .int v1, .int v2, .int v3, .int v4, .int v5, .int (N m)] [] μ' ∧ Fx (fun a => a = M + 399) (fun _ _ => False) μ μ' ∧ QS μ' M ∧ jiv μ' M 16 = N L ∧ (∀ j, j < L → jiv μ' (M + 399) j = jiv μ (M + 399) j) ∧ ∀ j v, j < m → [v1, v2, v3, v4, v5][j]? = some v → jiv μ' (M + 399) (L + j) = v := by
  intro r
  induction r with
  | zero =>
    intro k ν hk F q h16 h1 h2
    have : k = m := by omega
    subst this
    exact ⟨ν, rfl, F, q, h16, h1, h2⟩
  | succ r ih =>
    intro k ν hk F q h16 h1 h2
    obtain ⟨v, hv⟩ : ∃ v, [v1, v2, v3, v4, v5][k]? = some v := ⟨[v1, v2, v3, v4, v5][k]'(by show k < 5; omega), List.getElem?_eq_getElem (by show k < 5; omega)⟩
    have st := fd_step (d := d) (k := k) q h16 hm hL (by omega) hv
    have rd : ∀ j, jiv (jsetI ν (M + 399) (L + k) v) (M + 399) j = if j = L + k then v else jiv ν (M + 399) j := fun j => by
      show (if M + 399 = M + 399 ∧ j = L + k then v else jiv ν (M + 399) j) = _
      simp only [true_and]
    obtain ⟨μ', c, rest⟩ := ih (k + 1) (jsetI ν (M + 399) (L + k) v) (by omega) (Fx.setI F rfl) q.set (by rw [iv_setIn (show ¬ M = M + 399 by omega)]; exact h16) (fun j hj => by
      rw [rd, if_neg (by omega)]; exact h1 j hj) (fun j w hj hw => by
      rw [rd]
      by_cases e : j = k
      · subst e
        rw [if_pos rfl]
        rw [hv] at hw
        exact Option.some.inj hw
      · rw [if_neg (by omega)]; exact h2 j w (by omega) hw)
    exact ⟨μ', by rw [st]; exact c, rest⟩
/-- the tape is longer now -/
theorem MR.tape (h : MR μ M σ) {m : Nat} {l : List Nat} (F : Fx (fun a => a = M + 399) (fun _ _ => False) μ μ') (ht : MRt (jsetI μ' M 16 (N m)) M l) : FR M μ (jsetI μ' M 16 (N m)) ∧ MR (jsetI μ' M 16 (N m)) M (stp σ l) := by
  have G : Fx (fun a => a = M ∨ a = M + 399) (fun _ _ => False) μ (jsetI μ' M 16 (N m)) := Fx.setI (F.mono (fun a k => Or.inr k) (fun a j k => k)) (Or.inl rfl)
  have iv : ∀ a, a ≠ M → a ≠ M + 399 → jiv (jsetI μ' M 16 (N m)) a = jiv μ a := fun a h1 h2 => G.iv (fun q => q.elim h1 h2)
  have iM : ∀ j, j ≠ 16 → jiv (jsetI μ' M 16 (N m)) M j = jiv μ M j := fun j hj => by
    show (if M = M ∧ j = 16 then N m else jiv μ' M j) = _
    rw [if_neg (fun q => hj q.2), F.iv (a := M) (by omega)]
  obtain ⟨l1, l2, l3, l4, l5⟩ := h.low G (fun a k => by omega) (iM 14 (by decide)) (iM 49 (by decide)) (iM 50 (by decide))
  obtain ⟨-, -, -, hr, -, -, -, hcl, hm, hs⟩ := h
  refine ⟨G.mono (fun a k => by omega) (fun a j k => k.elim), l1, l2, l3, fun x hx => ?_, l4, l5, ht, ?_, ?_, fun i hi => ?_⟩
  · rw [iv (M + 27) (by omega) (by omega), iv (M + 28) (by omega) (by omega)]; exact hr x hx
  · obtain ⟨b1, b2, b3⟩ := hcl
    exact ⟨b1, by rw [iM 35 (by decide)]; exact b2, by rw [iv (M + 405) (by omega) (by omega), iv (M + 406) (by omega) (by omega), iv (M + 407) (by omega) (by omega), iv (M + 408) (by omega) (by omega)]; exact b3⟩
  · show jiv _ M 36 = _
    rw [iM 36 (by decide)]; exact hm
  · rw [iv (M + 416) (by omega) (by omega), iv (M + 417) (by omega) (by omega), iv (M + 419 + i) (by omega) (by omega)]
    exact hs i hi
end LAY
