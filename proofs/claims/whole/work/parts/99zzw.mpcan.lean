/-! THE REFERENCE's READER: what it reads is canonical; the state while it reads -/
section LEX
variable {μ μ' μ'' : jM} {M B d i j k a t c n w w' b : Nat} {bs r A R s ds ws l : List Nat} {v x y : Int32} {ts ts' : List T3} {T : List (Int32 × Int32)} {ok : Bool} {G : DG} {e : Ex} {ky : Nat → Nat} {σ : SG}
theorem pr1_can {s : Nat} (h : (pr1 ky s ts).1 = true) : rcan (pr1 ky s ts).2.2 = (pr1 ky s ts).2.2 := by
  unfold pr1 at h ⊢
  by_cases e1 : hk ts = 97
  · rw [if_pos e1] at h ⊢
    by_cases e2 : hk ts.tail = 48 ∧ ky (hf ts.tail) ≠ 0
    · rw [if_pos e2] at h ⊢
      have := e2.2
      unfold rcan
      rw [if_neg (by show ¬ (8 * ky (hf ts.tail) + 2 * hf ts + s) / 8 = 0; omega)]
    · rw [if_neg e2] at h
      cases h
  · rw [if_neg e1] at h
    cases h
theorem pRef_can (h : (pRef ky ts).1 = true) : rcan (pRef ky ts).2.2 = (pRef ky ts).2.2 := by
  rw [pRef_pr] at h ⊢
  by_cases e1 : hk ts = 35
  · rw [if_pos e1]
    show rcan 0 = 0
    exact if_pos (by decide)
  · rw [if_neg e1] at h ⊢
    by_cases e2 : hk ts = 36
    · rw [if_pos e2] at h ⊢; exact pr1_can h
    · rw [if_neg e2] at h ⊢; exact pr1_can h
theorem can_num {q a b : Nat} (ha : a < 1000) (hb : b < 1000) (ca : rcan a = a) (cb : rcan b = b) : ecan (.num ((q * 1000000 + a * 1000 + b : Nat) : Int)) = .num ((q * 1000000 + a * 1000 + b : Nat) : Int) := by
  show (.num _ : Ex) = _
  rw [Int.toNat_natCast, show (q * 1000000 + a * 1000 + b) / 1000 % 1000 = a by omega, show (q * 1000000 + a * 1000 + b) % 1000 = b by omega, ca, cb, show (q * 1000000 + a * 1000 + b) / 1000000 * 1000000 + a * 1000 + b = q * 1000000 + a * 1000 + b by omega]
theorem pRng_can (hky : ∀ v, ky v < 100) (hg : GTS ts) (h0 : hk ts ≠ 0) (h : (pRng ky e ts).1 = true) : ecan (pRng ky e ts).2.2 = (pRng ky e ts).2.2 := by
  have g1 := (hg.tl h0).1
  unfold pRng at h ⊢
  by_cases e1 : hk ts.tail = 40
  · rw [if_pos e1] at h ⊢
    have g2 := (g1.tl (by rw [e1]; decide)).1
    have p1 := pRef_ok hky g2
    by_cases e2 : (pRef ky ts.tail.tail).1 = true
    · rw [if_pos e2] at h ⊢
      by_cases e3 : hk (pRef ky ts.tail.tail).2.1 = 58
      · rw [if_pos e3] at h ⊢
        have g3 := (p1.1.tl (by rw [e3]; decide)).1
        have p2 := pRef_ok hky g3
        by_cases e4 : (pRef ky (pRef ky ts.tail.tail).2.1.tail).1 = true
        · rw [if_pos e4] at h ⊢
          by_cases e5 : hk (pRef ky (pRef ky ts.tail.tail).2.1.tail).2.1 = 41
          · rw [if_pos e5]
            exact can_num (rK_lt (p1.2.1 e2).1) (rK_lt (p2.2.1 e4).1) (pRef_can e2) (pRef_can e4)
          · rw [if_neg e5] at h; cases h
        · rw [if_neg e4] at h; cases h
      · rw [if_neg e3] at h; cases h
    · rw [if_neg e2] at h; cases h
  · rw [if_neg e1] at h; cases h
theorem pP_can (hky : ∀ v, ky v < 100) : ∀ (n u w : Nat) (e : Ex) (ts : List T3), GTS ts → w ≤ 4 → (3 ≤ u → ecan e = e) → (pP ky n u w e ts).1 = true → ecan (pP ky n u w e ts).2.2 = (pP ky n u w e ts).2.2 := by
  intro n
  induction n with
  | zero => intro u w e ts _ _ _ h; cases h
  | succ n ih =>
    intro u w e ts hg hw hu h
    have gt : ∀ u' w' e' ts', u' < 3 → GTS ts' → w' ≤ 4 → GTS (pP ky n u' w' e' ts').2.1 := fun u' w' e' ts' h1 h2 h3 => (pP_ok hky n u' w' e' ts' h2 h3 (fun q => absurd q (by omega))).1
    have no : ∀ u' w' e' ts', u' < 3 → GTS ts' → w' ≤ 4 → (pP ky n u' w' e' ts').1 = true → ecan (pP ky n u' w' e' ts').2.2 = (pP ky n u' w' e' ts').2.2 := fun u' w' e' ts' h1 h2 h3 => ih u' w' e' ts' h2 h3 (fun q => absurd q (by omega))
    match u with
    | 0 =>
      rw [pP] at h ⊢
      by_cases c1 : hk ts = 48
      · rw [if_pos c1]; rfl
      · rw [if_neg c1] at h ⊢
        by_cases c2 : hk ts = 45
        · rw [if_pos c2] at h ⊢
          by_cases c3 : w < 4
          · rw [if_pos c3] at h ⊢
            exact congrArg (fun z => (.neg z : Ex)) (no 0 (w + 1) e ts.tail (by decide) (hg.tl (by omega)).1 (by omega) h)
          · rw [if_neg c3] at h; cases h
        · rw [if_neg c2] at h ⊢
          by_cases c4 : hk ts = 40
          · rw [if_pos c4] at h ⊢
            by_cases c3 : w < 4
            · rw [if_pos c3] at h ⊢
              by_cases c5 : (pP ky n 2 (w + 1) e ts.tail).1 = true
              · rw [if_pos c5] at h ⊢
                by_cases c6 : hk (pP ky n 2 (w + 1) e ts.tail).2.1 = 41
                · rw [if_pos c6]
                  exact congrArg (fun z => (.pow z 0 : Ex)) (no 2 (w + 1) e ts.tail (by decide) (hg.tl (by omega)).1 (by omega) c5)
                · rw [if_neg c6] at h; cases h
              · rw [if_neg c5] at h; cases h
            · rw [if_neg c3] at h; cases h
          · rw [if_neg c4] at h ⊢
            by_cases c7 : hk ts = 116 ∨ hk ts = 109 ∨ hk ts = 108 ∨ hk ts = 110
            · rw [if_pos c7] at h ⊢
              exact pRng_can hky hg (by omega) h
            · rw [if_neg c7] at h ⊢
              exact congrArg (fun z => (.var z : Ex)) (pRef_can h)
    | 1 =>
      rw [pP] at h ⊢
      by_cases c1 : (pP ky n 0 w e ts).1 = true
      · rw [if_pos c1] at h ⊢
        exact ih 3 w _ _ (gt 0 w e ts (by decide) hg hw) hw (fun _ => no 0 w e ts (by decide) hg hw c1) h
      · rw [if_neg c1] at h; cases h
    | 2 =>
      rw [pP] at h ⊢
      by_cases c1 : (pP ky n 1 w e ts).1 = true
      · rw [if_pos c1] at h ⊢
        exact ih 4 w _ _ (gt 1 w e ts (by decide) hg hw) hw (fun _ => no 1 w e ts (by decide) hg hw c1) h
      · rw [if_neg c1] at h; cases h
    | 3 =>
      have he := hu (by decide)
      rw [pP] at h ⊢
      by_cases c0 : hk ts = 42
      · have g1 := (hg.tl (by omega)).1
        rw [if_pos c0] at h ⊢
        by_cases c1 : (pP ky n 0 w e ts.tail).1 = true
        · rw [if_pos c1] at h ⊢
          exact ih 3 w _ _ (gt 0 w e ts.tail (by decide) g1 hw) hw (fun _ => by
            show (.mul (ecan e) (ecan _) : Ex) = _
            rw [he, no 0 w e ts.tail (by decide) g1 hw c1]) h
        · rw [if_neg c1] at h; cases h
      · rw [if_neg c0]; exact he
    | 4 =>
      have he := hu (by decide)
      rw [pP] at h ⊢
      by_cases c0 : hk ts = 43
      · have g1 := (hg.tl (by omega)).1
        rw [if_pos c0] at h ⊢
        by_cases c1 : (pP ky n 1 w e ts.tail).1 = true
        · rw [if_pos c1] at h ⊢
          exact ih 4 w _ _ (gt 1 w e ts.tail (by decide) g1 hw) hw (fun _ => by
            show (.add (ecan e) (ecan _) : Ex) = _
            rw [he, no 1 w e ts.tail (by decide) g1 hw c1]) h
        · rw [if_neg c1] at h; cases h
      · rw [if_neg c0] at h ⊢
        by_cases c2 : hk ts = 45
        · have g1 := (hg.tl (by omega)).1
          rw [if_pos c2] at h ⊢
          by_cases c1 : (pP ky n 1 w e ts.tail).1 = true
          · rw [if_pos c1] at h ⊢
            exact ih 4 w _ _ (gt 1 w e ts.tail (by decide) g1 hw) hw (fun _ => by
              show (.sub (ecan e) (ecan _) : Ex) = _
              rw [he, no 1 w e ts.tail (by decide) g1 hw c1]) h
          · rw [if_neg c1] at h; cases h
        · rw [if_neg c2]; exact he
    | u + 5 => cases h
/-- the state after reading -/
theorem MR.read (h : MR μ M σ) {l : List Nat} (F : Fx (fun a => a = M ∨ a = M + 400) (fun _ _ => False) μ μ') (hM : ∀ j, ¬ (16 ≤ j ∧ j ≤ 24) → j ≠ 26 → jiv μ' M j = jiv μ M j) (ht : MRt μ' M l) : FR M μ μ' ∧ MR μ' M (stp σ l) := by
  have iv : ∀ a, a ≠ M → a ≠ M + 400 → jiv μ' a = jiv μ a := fun a h1 h2 => F.iv (fun q => q.elim h1 h2)
  obtain ⟨l1, l2, l3, l4, l5⟩ := h.low F (fun a k => by omega) (hM 14 (by decide) (by decide)) (hM 49 (by decide) (by decide)) (hM 50 (by decide) (by decide))
  obtain ⟨-, -, -, hr, -, -, -, hcl, hm, hs⟩ := h
  refine ⟨F.mono (fun a k => by omega) (fun a j k => k.elim), l1, l2, l3, fun x hx => ?_, l4, l5, ht, ?_, ?_, fun i hi => ?_⟩
  · rw [iv (M + 27) (by omega) (by omega), iv (M + 28) (by omega) (by omega)]; exact hr x hx
  · obtain ⟨b1, b2, b3⟩ := hcl
    exact ⟨b1, by rw [hM 35 (by decide) (by decide)]; exact b2, by rw [iv (M + 405) (by omega) (by omega), iv (M + 406) (by omega) (by omega), iv (M + 407) (by omega) (by omega), iv (M + 408) (by omega) (by omega)]; exact b3⟩
  · show jiv _ M 36 = _
    rw [hM 36 (by decide) (by decide)]; exact hm
  · rw [iv (M + 416) (by omega) (by omega), iv (M + 417) (by omega) (by omega), iv (M + 419 + i) (by omega) (by omega)]
    exact hs i hi
end LEX
