/-! THE REFERENCE's READER: what it notes, signs -/
/-- wrong, and it stays so -/
def WR (M : Nat) (μ μ' : jM) : Prop := PX M μ μ' ∧ jiv μ' M 22 = N 1 ∧ jiv μ' M 18 = jiv μ M 18
section LEX
variable {μ μ' μ'' : jM} {M B d i j k a t c n w b : Nat} {bs r A R s ds ws l : List Nat} {v x y : Int32} {ts ts' : List T3} {T : List (Int32 × Int32)} {ok : Bool}
theorem RDc.nx (h : RDc μ M B bs ts w T) (F : NX M μ μ') (ht : TS μ' M bs ts') : RDc μ' M B bs ts' w T := by
  obtain ⟨h1, h2, h3, h4, h5⟩ := h
  refine ⟨h1.nx F, ht, by rw [F.2 21 (by omega) (by decide)]; exact h3, by rw [F.2 23 (by omega) (by decide)]; exact h4, fun i x hx => ?_⟩
  rw [F.1.iv (a := M + 400) (fun q => by have q : M + 400 = M := q; omega)]
  exact h5 i x hx
theorem TS.px (h : TS μ M bs ts) (F : PX M μ μ') (e7 : jiv μ' M 17 = jiv μ M 17) (e8 : jiv μ' M 18 = jiv μ M 18) (e9 : jiv μ' M 19 = jiv μ M 19) (e0 : jiv μ' M 20 = jiv μ M 20) (e2 : jiv μ' M 22 = jiv μ M 22) : TS μ' M bs ts := by
  unfold TS
  rw [e7, e8, e9, e0, e2]
  exact h
/-- unfit, or fit to go on -/
theorem TS.fit (h : TS μ M bs ts) (h1 : hk ts ≠ 1) : jiv μ M 22 = N 0 ∧ tkv (hk ts) (hf ts) (jiv μ M 19) (jiv μ M 20) ∧ (hk ts ≠ 0 → ∃ n A r, bs = A ++ r ∧ jiv μ M 17 = N A.length ∧ r.length ≤ n ∧ ts.tail = lexx n A.length r) := by
  rcases h.2 with ⟨q, -⟩ | q
  · exact absurd q h1
  · exact q
theorem WR.refl (h : jiv μ M 22 = N 1) : WR M μ μ := ⟨PX.refl, h, rfl⟩
theorem WR.trans (a : WR M μ μ') (b : WR M μ' μ'') : WR M μ μ'' := ⟨a.1.trans b.1, b.2.1, b.2.2.trans a.2.2⟩
theorem WR.set (hk : k = 19 ∨ k = 20 ∨ k = 21 ∨ k = 17) (h : jiv μ M 22 = N 1) : WR M μ (jsetI μ M k v) := ⟨PX.set (by omega), (ivj (by omega)).trans h, ivj (by omega)⟩
theorem WR.one : WR M μ (jsetI μ M 22 (N 1)) := ⟨PX.set (by omega), if_pos ⟨rfl, rfl⟩, ivj (by decide)⟩
theorem WR.re (h : WR M μ μ') (e : jiv μ M 18 = N (hs ts)) : RE M B bs w μ μ' false ts T := ⟨h.1, (fun q => by cases q), fun _ => ⟨h.2.1, h.2.2.trans e⟩⟩
theorem r_notes (h : RDc μ M B bs ts w T) (h1 : hk ts ≠ 1) (hl : T.length < 40) : ∃ μ', jC d 183 [.ref M, .int x, .int y] μ = some (none, μ') ∧ PX M μ μ' ∧ RDc μ' M B bs ts w (T ++ [(x, y)]) := by
  obtain ⟨hb, ht, h21, h23, hT⟩ := h
  have k13 := hb.k13
  have h22 := (ht.fit h1).1
  have kd := hb.1.kd (o := 400) (a := M + 400) (by decide) rfl
  have s1 := ent_set (μ := μ) (v := x) (i := 2 * T.length) (l := 80) kd.1 kd.2 (by omega) (by decide)
  have s2 := ent_set (μ := jsetI μ (M + 400) (2 * T.length) x) (v := y) (i := 2 * T.length + 1) (l := 80) kd.1 kd.2 (by omega) (by decide)
  have k1 : jk (jsetI μ (M + 400) (2 * T.length) x) M = 13 := k13
  have k2 : jk (jsetI (jsetI μ (M + 400) (2 * T.length) x) (M + 400) (2 * T.length + 1) y) M = 13 := k13
  have r25 := hb.1.2.1 25 400 rfl
  have g1 : jiv (jsetI μ (M + 400) (2 * T.length) x) M 23 = N (2 * T.length) := by
    show (if M = M + 400 ∧ 23 = 2 * T.length then x else jiv μ M 23) = _
    rw [if_neg (fun q => by omega)]; exact h23
  have g2 : jiv (jsetI (jsetI μ (M + 400) (2 * T.length) x) (M + 400) (2 * T.length + 1) y) M 23 = N (2 * T.length) := by
    show (if M = M + 400 ∧ 23 = 2 * T.length + 1 then y else jiv (jsetI μ (M + 400) (2 * T.length) x) M 23) = _
    rw [if_neg (fun q => by omega)]; exact g1
  have F0 : PX M μ (jsetI (jsetI μ (M + 400) (2 * T.length) x) (M + 400) (2 * T.length + 1) y) := ⟨Fx.setI (Fx.setI Fx.refl (Or.inr rfl)) (Or.inr rfl), fun j _ _ => by
    show (if M = M + 400 ∧ j = 2 * T.length + 1 then y else if M = M + 400 ∧ j = 2 * T.length then x else jiv μ M j) = _
    rw [if_neg (fun q => by omega), if_neg (fun q => by omega)]⟩
  have iM : ∀ j, jiv (jsetI (jsetI μ (M + 400) (2 * T.length) x) (M + 400) (2 * T.length + 1) y) M j = jiv μ M j := fun j => by
    show (if M = M + 400 ∧ j = 2 * T.length + 1 then y else if M = M + 400 ∧ j = 2 * T.length then x else jiv μ M j) = _
    rw [if_neg (fun q => by omega), if_neg (fun q => by omega)]
  have i4 : ∀ j, jiv (jsetI (jsetI μ (M + 400) (2 * T.length) x) (M + 400) (2 * T.length + 1) y) (M + 400) j = if j = 2 * T.length + 1 then y else if j = 2 * T.length then x else jiv μ (M + 400) j := fun j => by
    show (if M + 400 = M + 400 ∧ j = 2 * T.length + 1 then y else if M + 400 = M + 400 ∧ j = 2 * T.length then x else jiv μ (M + 400) j) = _
    simp only [true_and]
  have F1 : PX M (jsetI (jsetI μ (M + 400) (2 * T.length) x) (M + 400) (2 * T.length + 1) y) (jsetI (jsetI (jsetI μ (M + 400) (2 * T.length) x) (M + 400) (2 * T.length + 1) y) M 23 (N (2 * T.length + 2))) := PX.set (by omega)
  refine ⟨_, ?_, F0.trans F1, (hb.px F0).px F1, ht.px (F0.trans F1) ((ivj (by decide)).trans (iM _)) ((ivj (by decide)).trans (iM _)) ((ivj (by decide)).trans (iM _)) ((ivj (by decide)).trans (iM _)) ((ivj (by decide)).trans (iM _)), (ivj (by decide)).trans ((iM _).trans h21), ?_, fun i z hz => ?_⟩
  · have n1 : N (2 * T.length) + 1 = N (2 * T.length + 1) := by rw [show (1 : Int32) = N 1 from rfl, N_add]
    have n2 : N (2 * T.length) + 2 = N (2 * T.length + 2) := by rw [show (2 : Int32) = N 2 from rfl, N_add]
    have rv1' : jrv (jsetI μ (M + 400) (2 * T.length) x) M 25 = some (M + 400) := r25
    rw [jC_run (by decide)]
    show jR d 183 0 [.ref M, .int x, .int y] [] μ = _
    rw [b183_0]
    simp only [gI13, gR13, pI13, pR13, rv13, k13, h22, if_true, Option.bind_some]
    rw [if_pos (show N 0 = 0 from rfl)]
    simp only [r25, rf_some, h23, s1, k1, rv1', g1, n1, s2, k2, g2, n2, jfit0, and_true, if_true, Option.bind_some]
  · rw [List.length_append]
    exact if_pos ⟨rfl, rfl⟩
  · have e : jiv (jsetI (jsetI (jsetI μ (M + 400) (2 * T.length) x) (M + 400) (2 * T.length + 1) y) M 23 (N (2 * T.length + 2))) (M + 400) = jiv (jsetI (jsetI μ (M + 400) (2 * T.length) x) (M + 400) (2 * T.length + 1) y) (M + 400) := by
      funext j
      show (if M + 400 = M ∧ j = 23 then _ else _) = _
      rw [if_neg (fun q => by omega)]
      rfl
    rw [e, i4, i4]
    by_cases hi : i < T.length
    · rw [List.getElem?_append_left hi] at hz
      rw [if_neg (by omega), if_neg (by omega), if_neg (by omega), if_neg (by omega)]
      exact hT i z hz
    · rw [List.getElem?_append_right (by omega)] at hz
      have hi : i = T.length := by
        have := (List.getElem?_eq_some_iff.mp hz).1
        rw [List.length_cons, List.length_nil] at this
        omega
      subst hi
      rw [Nat.sub_self] at hz
      have hz : (x, y) = z := Option.some.inj hz
      subst hz
      rw [if_neg (by omega), if_pos rfl, if_pos rfl]
      exact ⟨rfl, rfl⟩
theorem r_notesW (hk : jk μ M = 13) (h : jiv μ M 22 = N 1) : jC d 183 [.ref M, .int x, .int y] μ = some (none, μ) := by
  rw [jC_run (by decide)]
  show jR d 183 0 [.ref M, .int x, .int y] [] μ = _
  rw [b183_0]
  simp only [gI13, gR13, pI13, pR13, rv13, hk, h, if_true, Option.bind_some]
  rw [if_neg (show ¬ N 1 = 0 by decide)]
/-- the token ahead passed over -/
theorem rd_next (h : RDc μ M B bs ts w T) (hg : GTS ts) (hl : T.length + ts.tail.length ≤ 41) (h1 : hk ts ≠ 1) (h0 : hk ts ≠ 0) : ∃ μ', jC (d + 6) 173 [.ref M] μ = some (none, μ') ∧ PX M μ μ' ∧ RD μ' M B bs ts.tail w T := by
  obtain ⟨f1, -, f3⟩ := h.2.1.fit h1
  obtain ⟨n, A, r, e1, e2, e3, e4⟩ := f3 h0
  subst e1
  obtain ⟨μ', c1, F, t1⟩ := r_next (d := d) h.1 e2 f1 e3
  rw [← e4] at t1
  exact ⟨μ', c1, F.px, h.nx F t1, (hg.tl h0).1, hl⟩
/-- the token noted, and passed over -/
theorem rd_take (h : RD μ M B bs ts w T) (h1 : hk ts ≠ 1) (h0 : hk ts ≠ 0) : ∃ μ1 μ', jC d 183 [.ref M, .int x, .int y] μ = some (none, μ1) ∧ jk μ1 M = 13 ∧ jC (k + 6) 173 [.ref M] μ1 = some (none, μ') ∧ PX M μ μ' ∧ RD μ' M B bs ts.tail w (T ++ [(x, y)]) := by
  obtain ⟨hc, hg, hl⟩ := h
  have tl := hg.tl h0
  have t1 := tl.1.hd.2.2.2.2
  obtain ⟨μ1, c1, F1, r1⟩ := r_notes (d := d) (x := x) (y := y) hc h1 (by omega)
  obtain ⟨μ', c2, F2, r2⟩ := rd_next (d := k) r1 hg (by rw [List.length_append]; show T.length + 1 + _ ≤ 41; omega) h1 h0
  exact ⟨μ1, μ', c1, r1.1.k13, c2, F1.trans F2, r2⟩
theorem sg_ne (hc : c ∈ signs) : c ≠ 0 ∧ c ≠ 1 ∧ c ≠ 48 ∧ c ≠ 97 ∧ c ≠ 116 ∧ c ≠ 109 ∧ c ≠ 108 ∧ c ≠ 110 ∧ c < 256 := by
  unfold signs at hc
  simp only [List.mem_cons, List.not_mem_nil, or_false] at hc
  omega
/-- a sign that must come -/
theorem r_sign (h : RD μ M B bs ts w T) (hc : c ∈ signs) : ∃ μ', jC (d + 7) 186 [.ref M, .int (N c)] μ = some (none, μ') ∧ RE M B bs w μ μ' (decide (hk ts = c)) (if hk ts = c then ts.tail else ts) (T ++ [(N 1, N c)]) := by
  obtain ⟨n0, n1, n48, n97, n116, n109, n108, n110, n256⟩ := sg_ne hc
  have k13 := h.1.1.k13
  have i1 := r_isSign (d := d + 6) k13 h.1.2.1 h.2.1 hc
  have st : jC (d + 7) 186 [.ref M, .int (N c)] μ = jR (d + 7) 186 6 [.ref M, .int (N c)] [.int (bN (decide (hk ts = c))), .ref M] μ := by
    rw [jC_run (by decide)]
    show jR (d + 7) 186 0 [.ref M, .int (N c)] [] μ = _
    rw [b186_0]
    simp only [gI13, gR13, pI13, pR13, rv13, k13, if_true, i1, Option.bind_some]
    rfl
  rw [st, b186_6 (hs0 := ir_ref)]
  by_cases e : hk ts = c
  · rw [if_pos e, decide_eq_true e]
    obtain ⟨μ1, μ', c1, k1, c2, F, r1⟩ := rd_take (d := d + 6) (k := d) (x := N 1) (y := N c) h (by omega) (by omega)
    have c1 : jC (d + 6) 183 [.ref M, .int 1, .int (N c)] μ = some (none, μ1) := c1
    refine ⟨μ', ?_, F, fun _ => r1, fun q => by cases q⟩
    have nt : jC (d + 6) 185 [.ref M, .int (bN true)] μ = some (none, μ) := r_needT (by decide)
    simp only [gI13, gR13, pI13, pR13, rv13, k13, if_true, nt, Option.bind_some]
    show jR (d + 7) 186 9 [.ref M, .int (N c)] [] μ = _
    rw [b186_9]
    simp only [gI13, gR13, pI13, pR13, rv13, k13, if_true, c1, Option.bind_some]
    show jR (d + 7) 186 15 [.ref M, .int (N c)] [] μ1 = _
    rw [b186_15]
    simp only [gI13, gR13, pI13, pR13, rv13, k1, if_true, c2, Option.bind_some]
    show jR (d + 7) 186 19 [.ref M, .int (N c)] [] μ' = _
    rw [b186_19]
  · rw [if_neg e, decide_eq_false e]
    have W : WR M μ (jsetI μ M 22 (N 1)) := WR.one
    refine ⟨jsetI μ M 22 (N 1), ?_, W.re h.1.2.1.1⟩
    have nf : jC (d + 6) 185 [.ref M, .int (bN false)] μ = some (none, jsetI μ M 22 (N 1)) := r_needF k13
    have k1 : jk (jsetI μ M 22 (N 1)) M = 13 := k13
    have g22 := W.2.1
    simp only [gI13, gR13, pI13, pR13, rv13, k13, if_true, nf, Option.bind_some]
    show jR (d + 7) 186 9 [.ref M, .int (N c)] [] (jsetI μ M 22 (N 1)) = _
    generalize jsetI μ M 22 (N 1) = μ1 at *
    rw [b186_9]
    simp only [gI13, gR13, pI13, pR13, rv13, k1, if_true, r_notesW k1 g22, Option.bind_some]
    show jR (d + 7) 186 15 [.ref M, .int (N c)] [] μ1 = _
    rw [b186_15]
    simp only [gI13, gR13, pI13, pR13, rv13, k1, if_true, r_nextW k1 g22, Option.bind_some]
    show jR (d + 7) 186 19 [.ref M, .int (N c)] [] μ1 = _
    rw [b186_19]
theorem r_signW (k13 : jk μ M = 13) (h : jiv μ M 22 = N 1) : ∃ μ', jC (d + 7) 186 [.ref M, .int x] μ = some (none, μ') ∧ WR M μ μ' := by
  have W : WR M μ (jsetI μ M 22 (N 1)) := WR.one
  refine ⟨jsetI μ M 22 (N 1), ?_, W⟩
  rw [jC_run (by decide)]
  show jR (d + 7) 186 0 [.ref M, .int x] [] μ = _
  have nf : jC (d + 6) 185 [.ref M, .int 0] μ = some (none, jsetI μ M 22 (N 1)) := r_needF k13
  have k1 : jk (jsetI μ M 22 (N 1)) M = 13 := k13
  have g22 := W.2.1
  rw [b186_0]
  simp only [gI13, gR13, pI13, pR13, rv13, k13, if_true, r_isSignW k13 h, Option.bind_some]
  show jR (d + 7) 186 6 [.ref M, .int x] [.int 0, .ref M] μ = _
  rw [b186_6 (hs0 := ir_ref)]
  simp only [gI13, gR13, pI13, pR13, rv13, k13, if_true, nf, Option.bind_some]
  show jR (d + 7) 186 9 [.ref M, .int x] [] (jsetI μ M 22 (N 1)) = _
  generalize jsetI μ M 22 (N 1) = μ1 at *
  rw [b186_9]
  simp only [gI13, gR13, pI13, pR13, rv13, k1, if_true, r_notesW k1 g22, Option.bind_some]
  show jR (d + 7) 186 15 [.ref M, .int x] [] μ1 = _
  rw [b186_15]
  simp only [gI13, gR13, pI13, pR13, rv13, k1, if_true, r_nextW k1 g22, Option.bind_some]
  show jR (d + 7) 186 19 [.ref M, .int x] [] μ1 = _
  rw [b186_19]
end LEX
