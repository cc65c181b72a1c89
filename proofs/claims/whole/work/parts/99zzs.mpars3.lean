/-! THE REFERENCE's READER: refs whole, depth, what it does when wrong -/
section LEX
variable {μ μ' μ'' : jM} {M B d i j k a t c n w w' b : Nat} {bs r A R s ds ws l : List Nat} {v x y : Int32} {ts ts' : List T3} {T : List (Int32 × Int32)} {ok : Bool} {G : DG}
theorem re_pre (F : PX M μ μ') (h : RE M B bs w μ' μ'' ok ts T) : RE M B bs w μ μ'' ok ts T := ⟨F.trans h.1, h.2⟩
theorem RD.depth (h : RD μ M B bs ts w T) : RD (jsetI μ M 21 (N w')) M B bs ts w' T ∧ PX M μ (jsetI μ M 21 (N w')) := by
  have F : PX M μ (jsetI μ M 21 (N w')) := PX.set (by omega)
  obtain ⟨⟨h1, h2, h3, h4, h5⟩, h6⟩ := h
  refine ⟨⟨⟨h1.px F, h2.px F (ivj (by decide)) (ivj (by decide)) (ivj (by decide)) (ivj (by decide)) (ivj (by decide)), if_pos ⟨rfl, rfl⟩, (ivj (by decide)).trans h4, fun i z hz => ?_⟩, h6⟩, F⟩
  have e : jiv (jsetI μ M 21 (N w')) (M + 400) = jiv μ (M + 400) := by
    funext j
    show (if M + 400 = M ∧ j = 21 then _ else _) = _
    rw [if_neg (fun q => by omega)]
    rfl
  rw [e]
  exact h5 i z hz
theorem r_ref (h : RD μ M B bs ts w T) (hR : RG' μ M G) (hK : KK G) : ∃ μ', jC (d + 8) 187 [.ref M] μ = some (none, μ') ∧ RE M B bs w μ μ' (pRef (kyG G) ts).1 (pRef (kyG G) ts).2.1 (T ++ [(N 3, N (pRef (kyG G) ts).2.2)]) := by
  have k13 := h.1.1.k13
  have i35 := r_isSign (d := d + 7) (c := 35) k13 h.1.2.1 h.2.1 (by decide)
  have i36 := r_isSign (d := d + 7) (c := 36) k13 h.1.2.1 h.2.1 (by decide)
  have i35 : jC (d + 7) 179 [.ref M, .int 35] μ = _ := i35
  have i36 : jC (d + 7) 179 [.ref M, .int 36] μ = _ := i36
  have st : jC (d + 8) 187 [.ref M] μ = jR (d + 8) 187 6 [.ref M, .retAddr 0, .retAddr 0] [.int (bN (decide (hk ts = 35)))] μ := by
    rw [jC_run (by decide)]
    show jR (d + 8) 187 0 [.ref M, .retAddr 0, .retAddr 0] [] μ = _
    rw [b187_0]
    simp only [gI13, gR13, pI13, pR13, rv13, k13, if_true, i35, Option.bind_some]
    rfl
  rw [st, pRef_pr, b187_6]
  by_cases e : hk ts = 35
  · rw [if_pos e, decide_eq_true e, if_neg (show ¬ bN true = 0 by decide)]
    obtain ⟨μ1, μ2, c1, k1, c2, F, r1⟩ := rd_take (d := d + 7) (k := d + 1) (x := N 3) (y := N 0) h (by rw [e]; decide) (by rw [e]; decide)
    have c1 : jC (d + 7) 183 [.ref M, .int 3, .int 0] μ = some (none, μ1) := c1
    refine ⟨μ2, ?_, F, fun _ => r1, fun q => by cases q⟩
    simp only [gI13, gR13, pI13, pR13, rv13, k13, if_true, c1, Option.bind_some]
    show jR (d + 8) 187 15 [.ref M, .retAddr 0, .retAddr 0] [] μ1 = _
    rw [b187_15]
    simp only [gI13, gR13, pI13, pR13, rv13, k1, if_true, c2, Option.bind_some]
    show jR (d + 8) 187 19 [.ref M, .retAddr 0, .retAddr 0] [] μ2 = _
    rw [b187_19]
  · rw [if_neg e, decide_eq_false e, if_pos (show bN false = 0 from rfl)]
    simp only [gI13, gR13, pI13, pR13, rv13, k13, if_true, i36, Option.bind_some]
    show ∃ μ', jR (d + 8) 187 26 [.ref M, .retAddr 0, .retAddr 0] [.int (bN (decide (hk ts = 36)))] μ = some (none, μ') ∧ _
    rw [b187_26]
    by_cases e2 : hk ts = 36
    · rw [if_pos e2, decide_eq_true e2, if_neg (show ¬ bN true = 0 by decide)]
      have tl := h.2.1.tl (show hk ts ≠ 0 by rw [e2]; decide)
      obtain ⟨μ1, c1, F1, r1⟩ := rd_next (d := d + 1) h.1 h.2.1 (by have := h.2.2; omega) (by rw [e2]; decide) (by rw [e2]; decide)
      obtain ⟨μ2, c2, R2⟩ := ref_44 (d := d) (s := 1) (u2 := .retAddr 0) r1 (hR.px F1) hK (by decide)
      refine ⟨μ2, ?_, re_pre F1 R2⟩
      rw [b187_34, if_pos rfl]
      simp only [gI13, gR13, pI13, pR13, rv13, k13, if_true, c1, Option.bind_some]
      exact c2
    · rw [if_neg e2, decide_eq_false e2, if_pos (show bN false = 0 from rfl), b187_34, if_neg (show ¬ (0 : Int32) = 1 by decide)]
      exact ref_44 (d := d) (s := 0) (u2 := .retAddr 0) h hR hK (by decide)
theorem r_refW (k13 : jk μ M = 13) (h : jiv μ M 22 = N 1) : ∃ μ', jC (d + 8) 187 [.ref M] μ = some (none, μ') ∧ WR M μ μ' := by
  have W : WR M μ (jsetI μ M 22 (N 1)) := WR.one
  have nf : jC (d + 7) 185 [.ref M, .int 0] μ = some (none, jsetI μ M 22 (N 1)) := r_needF k13
  have k1 : jk (jsetI μ M 22 (N 1)) M = 13 := k13
  obtain ⟨μ', c2, W2⟩ := ref_68W (d := d) (u1 := 0) (u2 := .retAddr 0) k1 W.2.1
  refine ⟨μ', ?_, W.trans W2⟩
  rw [jC_run (by decide)]
  show jR (d + 8) 187 0 [.ref M, .retAddr 0, .retAddr 0] [] μ = _
  rw [b187_0]
  simp only [gI13, gR13, pI13, pR13, rv13, k13, if_true, r_isSignW k13 h, Option.bind_some]
  show jR (d + 8) 187 6 [.ref M, .retAddr 0, .retAddr 0] [.int 0] μ = _
  rw [b187_6, if_pos rfl]
  simp only [gI13, gR13, pI13, pR13, rv13, k13, if_true, r_isSignW k13 h, Option.bind_some]
  show jR (d + 8) 187 26 [.ref M, .retAddr 0, .retAddr 0] [.int 0] μ = _
  rw [b187_26, if_pos rfl, b187_34, if_neg (show ¬ (0 : Int32) = 1 by decide), b187_44]
  simp only [gI13, gR13, pI13, pR13, rv13, k13, if_true, h, Option.bind_some]
  rw [if_neg (show ¬ N 1 = 0 by decide), b187_64 (hs0 := ir_ref), b187_65 (hs0 := ir_ref)]
  simp only [gI13, gR13, pI13, pR13, rv13, k13, if_true, nf, Option.bind_some]
  exact c2
theorem r_oneW (k13 : jk μ M = 13) (h : jiv μ M 22 = N 1) : jC (d + 1) 182 [.ref M] μ = some (none, μ) := by
  rw [jC_run (by decide)]
  show jR (d + 1) 182 0 [.ref M] [] μ = _
  rw [b182_0]
  simp only [gI13, gR13, pI13, pR13, rv13, k13, if_true, h, Option.bind_some]
  rw [if_neg (show ¬ N 1 = 0 by decide)]
theorem r_partW (k13 : jk μ M = 13) (h : jiv μ M 22 = N 1) : jC (d + 2) 181 [.ref M] μ = some (none, μ) := by
  rw [jC_run (by decide)]
  show jR (d + 2) 181 0 [.ref M] [] μ = _
  rw [b181_0]
  simp only [gI13, gR13, pI13, pR13, rv13, k13, if_true, r_oneW k13 h, Option.bind_some]
  show jR (d + 2) 181 4 [.ref M] [] μ = _
  rw [b181_4]
  simp only [gI13, gR13, pI13, pR13, rv13, k13, if_true, r_isSignW k13 h, Option.bind_some]
  show jR (d + 2) 181 10 [.ref M] [.int 0] μ = _
  rw [b181_10, if_pos rfl]
theorem r_sumW (k13 : jk μ M = 13) (h : jiv μ M 22 = N 1) : jC (d + 3) 180 [.ref M] μ = some (none, μ) := by
  rw [jC_run (by decide)]
  show jR (d + 3) 180 0 [.ref M] [] μ = _
  rw [b180_0]
  simp only [gI13, gR13, pI13, pR13, rv13, k13, if_true, r_partW k13 h, Option.bind_some]
  show jR (d + 3) 180 4 [.ref M] [] μ = _
  rw [b180_4]
  simp only [gI13, gR13, pI13, pR13, rv13, k13, if_true, r_isSignW k13 h, Option.bind_some]
  show jR (d + 3) 180 10 [.ref M] [.int 0] μ = _
  rw [b180_10, if_pos rfl]
  simp only [gI13, gR13, pI13, pR13, rv13, k13, if_true, r_isSignW k13 h, Option.bind_some]
  show jR (d + 3) 180 19 [.ref M] [.int 0] μ = _
  rw [b180_19, if_pos rfl]
/-- one deeper -/
theorem r_opensOk (h : RD μ M B bs ts w T) (hw : w < 4) : jC (d + 1) 184 [.ref M] μ = some (none, jsetI μ M 21 (N (w + 1))) := by
  have k13 := h.1.1.k13
  have g := h.1.2.2.1
  rw [jC_run (by decide)]
  show jR (d + 1) 184 0 [.ref M] [] μ = _
  rw [b184_0]
  simp only [gI13, gR13, pI13, pR13, rv13, k13, if_true, g, Option.bind_some]
  rw [if_pos (show N w < 4 by show N w < N 4; rw [N_lt (by omega) (by decide)]; exact hw), b184_14 (hs0 := ir_ref)]
  have nt : jC d 185 [.ref M, .int 1] μ = some (none, μ) := r_needT (by decide)
  simp only [gI13, gR13, pI13, pR13, rv13, k13, if_true, nt, Option.bind_some]
  show jR (d + 1) 184 17 [.ref M] [] μ = _
  rw [b184_17]
  simp only [gI13, gR13, pI13, pR13, rv13, k13, if_true, g, jfit0, and_true, Option.bind_some, show N w + 1 = N (w + 1) by rw [show (1 : Int32) = N 1 from rfl, N_add]]
theorem r_opensNo (h : RD μ M B bs ts w T) (hw : w = 4) : ∃ μ', jC (d + 1) 184 [.ref M] μ = some (none, μ') ∧ WR M μ μ' := by
  have k13 := h.1.1.k13
  have g := h.1.2.2.1
  have W : WR M μ (jsetI μ M 22 (N 1)) := WR.one
  have k1 : jk (jsetI μ M 22 (N 1)) M = 13 := k13
  have nf : jC d 185 [.ref M, .int 0] μ = some (none, jsetI μ M 22 (N 1)) := r_needF k13
  refine ⟨jsetI (jsetI μ M 22 (N 1)) M 21 (jiv (jsetI μ M 22 (N 1)) M 21 + 1), ?_, W.trans (WR.set (by omega) W.2.1)⟩
  rw [jC_run (by decide)]
  show jR (d + 1) 184 0 [.ref M] [] μ = _
  rw [b184_0]
  simp only [gI13, gR13, pI13, pR13, rv13, k13, if_true, g, Option.bind_some]
  rw [if_neg (show ¬ N w < 4 by rw [hw]; decide), b184_14 (hs0 := ir_ref)]
  simp only [gI13, gR13, pI13, pR13, rv13, k13, if_true, nf, Option.bind_some]
  show jR (d + 1) 184 17 [.ref M] [] (jsetI μ M 22 (N 1)) = _
  rw [b184_17]
  simp only [gI13, gR13, pI13, pR13, rv13, k1, if_true, jfit0, and_true, Option.bind_some]
/-- a range, wrong from here on -/
theorem rng_151W (k13 : jk μ M = 13) (h : jiv μ M 22 = N 1) : ∃ μ', jR (d + 9) 182 151 [.ref M] [] μ = some (none, μ') ∧ WR M μ μ' := by
  obtain ⟨μ1, c1, W1⟩ := r_signW (d := d + 1) (x := 41) k13 h
  refine ⟨μ1, ?_, W1⟩
  rw [b182_151]
  simp only [gI13, gR13, pI13, pR13, rv13, k13, if_true, c1, Option.bind_some]
  show jR (d + 9) 182 157 [.ref M] [] μ1 = _
  rw [b182_157, b182_164]
theorem WR.kq (W : WR M μ μ') (k13 : jk μ M = 13) : jk μ' M = 13 := by rw [W.1.1.kk]; exact k13
theorem rng_147W (k13 : jk μ M = 13) (h : jiv μ M 22 = N 1) : ∃ μ', jR (d + 9) 182 147 [.ref M] [] μ = some (none, μ') ∧ WR M μ μ' := by
  obtain ⟨μ1, c1, W1⟩ := r_refW (d := d) k13 h
  obtain ⟨μ2, c2, W2⟩ := rng_151W (d := d) (W1.kq k13) W1.2.1
  refine ⟨μ2, ?_, W1.trans W2⟩
  rw [b182_147]
  simp only [gI13, gR13, pI13, pR13, rv13, k13, if_true, c1, Option.bind_some]
  exact c2
theorem rng_141W (k13 : jk μ M = 13) (h : jiv μ M 22 = N 1) : ∃ μ', jR (d + 9) 182 141 [.ref M] [] μ = some (none, μ') ∧ WR M μ μ' := by
  obtain ⟨μ1, c1, W1⟩ := r_signW (d := d + 1) (x := 58) k13 h
  obtain ⟨μ2, c2, W2⟩ := rng_147W (d := d) (W1.kq k13) W1.2.1
  refine ⟨μ2, ?_, W1.trans W2⟩
  rw [b182_141]
  simp only [gI13, gR13, pI13, pR13, rv13, k13, if_true, c1, Option.bind_some]
  exact c2
theorem rng_137W (k13 : jk μ M = 13) (h : jiv μ M 22 = N 1) : ∃ μ', jR (d + 9) 182 137 [.ref M] [] μ = some (none, μ') ∧ WR M μ μ' := by
  obtain ⟨μ1, c1, W1⟩ := r_refW (d := d) k13 h
  obtain ⟨μ2, c2, W2⟩ := rng_141W (d := d) (W1.kq k13) W1.2.1
  refine ⟨μ2, ?_, W1.trans W2⟩
  rw [b182_137]
  simp only [gI13, gR13, pI13, pR13, rv13, k13, if_true, c1, Option.bind_some]
  exact c2
theorem WR.to (W : WR M μ μ') (h : RW' μ M b) : RW' μ' M b := ⟨W.2.1, W.2.2.trans h.2⟩
theorem RE.no (F : PX M μ μ') (h : RW' μ' M (hs ts)) : RE M B bs w μ μ' false ts T := ⟨F, (fun q => by cases q), fun _ => h⟩
end LEX
