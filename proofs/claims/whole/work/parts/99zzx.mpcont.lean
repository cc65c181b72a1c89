/-! THE REFERENCE's READER: a content -/
section LEX
variable {μ μ' μ'' : jM} {M B d i j k a t c n w w' b : Nat} {bs r A R s ds ws l : List Nat} {v x y : Int32} {ts ts' : List T3} {T : List (Int32 × Int32)} {ok : Bool} {G : DG} {e : Ex} {ky : Nat → Nat} {σ : SG}
theorem RD.num (h : RD μ M B bs ts w T) : RD (jsetI μ M 26 v) M B bs ts w T ∧ PX M μ (jsetI μ M 26 v) := by
  have F : PX M μ (jsetI μ M 26 v) := PX.set (by omega)
  obtain ⟨⟨h1, h2, h3, h4, h5⟩, h6⟩ := h
  refine ⟨⟨⟨h1.px F, h2.px F (ivj (by decide)) (ivj (by decide)) (ivj (by decide)) (ivj (by decide)) (ivj (by decide)), (ivj (by decide)).trans h3, (ivj (by decide)).trans h4, fun i z hz => ?_⟩, h6⟩, F⟩
  have e : jiv (jsetI μ M 26 v) (M + 400) = jiv μ (M + 400) := by
    funext j
    show (if M + 400 = M ∧ j = 26 then _ else _) = _
    rw [if_neg (fun q => by omega)]
    rfl
  rw [e]
  exact h5 i z hz
theorem c_150 {kk : Int32} {u2 : Value} (k13 : jk μ M = 13) : jR d 172 150 [.ref M, .int kk, u2] [] μ = some (some (.int kk), jsetI μ M 16 (N 0)) := by
  rw [b172_150]
  simp only [gI13, gR13, pI13, pR13, rv13, k13, jfit0, if_true, and_true, Option.bind_some]
  rfl
theorem c_127W {kk : Int32} {u2 : Value} (k13 : jk μ M = 13) (h : jiv μ M 22 = N 1) : ∃ μ1, jR (d + 32) 172 127 [.ref M, .int kk, u2] [] μ = some (some (.int kk), jsetI μ1 M 16 (N 0)) ∧ WR M μ μ1 := by
  refine ⟨jsetI μ M 22 (N 1), ?_, WR.one⟩
  have k1 : jk (jsetI μ M 22 (N 1)) M = 13 := k13
  have nf : jC (d + 31) 185 [.ref M, .int 0] μ = some (none, jsetI μ M 22 (N 1)) := r_needF k13
  rw [b172_127]
  simp only [gI13, gR13, pI13, pR13, rv13, k13, if_true, h, Option.bind_some]
  rw [if_neg (show ¬ N 1 = 0 by decide), b172_146 (hs0 := ir_ref), b172_147 (hs0 := ir_ref)]
  simp only [gI13, gR13, pI13, pR13, rv13, k13, if_true, nf, Option.bind_some]
  exact c_150 k1
theorem c_127 {kk : Int32} {u2 : Value} (h : RD μ M B bs ts w T) : ∃ μ1, jR (d + 32) 172 127 [.ref M, .int kk, u2] [] μ = some (some (.int kk), jsetI μ1 M 16 (N 0)) ∧ PX M μ μ1 ∧ (hk ts = 0 → μ1 = μ) ∧ (hk ts ≠ 0 → RW' μ1 M (hs ts)) := by
  have k13 := h.1.1.k13
  have h8 := h.1.2.1.1
  by_cases e0 : hk ts = 0
  · obtain ⟨f1, f2, -⟩ := h.1.2.1.fit (by rw [e0]; decide)
    have q : jiv μ M 19 = N 0 := by
      rcases f2 with ⟨k1, k2⟩ | ⟨k1, k2, k3⟩ | ⟨k1, k2, k3⟩ | ⟨k1, k2, k3⟩ | ⟨k1, k2, k3⟩
      · exact k2
      · rw [e0] at k1; exact absurd k1 (by decide)
      · rw [e0] at k1; exact absurd k1 (by decide)
      · rw [e0] at k1; exact absurd k1 (by decide)
      · rw [e0] at k1; exact absurd k1 (by decide)
    refine ⟨μ, ?_, PX.refl, fun _ => rfl, fun q => absurd e0 q⟩
    have nt : jC (d + 31) 185 [.ref M, .int 1] μ = some (none, μ) := r_needT (by decide)
    rw [b172_127]
    simp only [gI13, gR13, pI13, pR13, rv13, k13, if_true, f1, q, Option.bind_some]
    rw [if_pos (show N 0 = 0 from rfl), if_pos (show N 0 = 0 from rfl), b172_147 (hs0 := ir_ref)]
    simp only [gI13, gR13, pI13, pR13, rv13, k13, if_true, nt, Option.bind_some]
    exact c_150 k13
  · rcases h.1.2.1.2 with ⟨h1, h2⟩ | ⟨h1, h2, -⟩
    · obtain ⟨μ1, c1, W⟩ := c_127W (d := d) (kk := kk) (u2 := u2) k13 h2
      exact ⟨μ1, c1, W.1, fun q => absurd q e0, fun _ => W.to ⟨h2, h8⟩⟩
    · have n19 : ¬ jiv μ M 19 = 0 := by
        show ¬ jiv μ M 19 = N 0
        rcases h2 with ⟨k1, k2⟩ | ⟨k1, k2, k3⟩ | ⟨k1, k2, k3⟩ | ⟨k1, k2, k3⟩ | ⟨k1, k2, k3⟩
        · exact absurd k1 e0
        · rw [k2]; decide
        · rw [k2]; decide
        · rw [k2]; decide
        · rw [k2]; decide
      have W : WR M μ (jsetI μ M 22 (N 1)) := WR.one
      refine ⟨jsetI μ M 22 (N 1), ?_, W.1, fun q => absurd q e0, fun _ => ⟨W.2.1, W.2.2.trans h8⟩⟩
      have k1 : jk (jsetI μ M 22 (N 1)) M = 13 := k13
      have nf : jC (d + 31) 185 [.ref M, .int 0] μ = some (none, jsetI μ M 22 (N 1)) := r_needF k13
      rw [b172_127]
      simp only [gI13, gR13, pI13, pR13, rv13, k13, if_true, h1, Option.bind_some]
      rw [if_pos (show N 0 = 0 from rfl), if_neg n19, b172_146 (hs0 := ir_ref), b172_147 (hs0 := ir_ref)]
      simp only [gI13, gR13, pI13, pR13, rv13, k13, if_true, nf, Option.bind_some]
      exact c_150 k1
theorem rd_nextN (h : RDc μ M B bs ts w T) (hg : GTS ts) (hl : T.length + ts.tail.length ≤ 41) (h1 : hk ts ≠ 1) (h0 : hk ts ≠ 0) : ∃ μ', jC (d + 6) 173 [.ref M] μ = some (none, μ') ∧ NX M μ μ' ∧ RD μ' M B bs ts.tail w T := by
  obtain ⟨f1, -, f3⟩ := h.2.1.fit h1
  obtain ⟨n, A, r, e1, e2, e3, e4⟩ := f3 h0
  subst e1
  obtain ⟨μ', c1, F, t1⟩ := r_next (d := d) h.1 e2 f1 e3
  rw [← e4] at t1
  exact ⟨μ', c1, F, h.nx F t1, (hg.tl h0).1, hl⟩
/-- a number's text -/
theorem c_77 {i2 : Int32} {u1 : Value} (h : RD μ M B bs ts w T) : ∃ μ1, jR (d + 32) 172 77 [.ref M, u1, .int i2] [] μ = some (some (.int 1), jsetI μ1 M 16 (N 0)) ∧ PX M μ μ1 ∧ (hk ts = 48 ∧ hk ts.tail = 0 → jiv μ1 M 22 = N 0 ∧ jiv μ1 M 26 = (if i2 = 0 then N (hf ts) else -(N (hf ts))) ∧ RD μ1 M B bs ts.tail w T) ∧ (hk ts = 48 ∧ hk ts.tail ≠ 0 → RW' μ1 M (hs ts.tail)) ∧ (hk ts ≠ 48 → RW' μ1 M (hs ts)) := by
  have k13 := h.1.1.k13
  have h8 := h.1.2.1.1
  by_cases e1 : hk ts = 48
  · obtain ⟨f1, f2, -⟩ := h.1.2.1.fit (by rw [e1]; decide)
    have q : jiv μ M 19 = N 1 ∧ jiv μ M 20 = N (hf ts) := by
      rcases f2 with ⟨k1, k2⟩ | ⟨k1, k2, k3⟩ | ⟨k1, k2, k3⟩ | ⟨k1, k2, k3⟩ | ⟨k1, k2, k3⟩
      · rw [e1] at k1; exact absurd k1 (by decide)
      · exact ⟨k2, k3⟩
      · rw [e1] at k1; exact absurd k1 (by decide)
      · rw [e1] at k1; exact absurd k1 (by decide)
      · rw [e1] at k1; exact absurd k1 (by decide)
    have nt : jC (d + 31) 185 [.ref M, .int 1] μ = some (none, μ) := r_needT (by decide)
    obtain ⟨h1, F1⟩ := h.num (v := if i2 = 0 then N (hf ts) else -(N (hf ts)))
    have p26 : jpI μ 13 26 0 (.ref M) (if i2 = 0 then N (hf ts) else -(N (hf ts))) = some (jsetI μ M 26 (if i2 = 0 then N (hf ts) else -(N (hf ts)))) := by
      simp only [gI13, gR13, pI13, pR13, rv13, k13, jfit0, if_true, and_true]
    have g26 : jiv (jsetI μ M 26 (if i2 = 0 then N (hf ts) else -(N (hf ts)))) M 26 = (if i2 = 0 then N (hf ts) else -(N (hf ts))) := if_pos ⟨rfl, rfl⟩
    have e118 : jR (d + 32) 172 77 [.ref M, u1, .int i2] [] μ = jR (d + 32) 172 118 [.ref M, u1, .int i2] [.int (if i2 = 0 then N (hf ts) else -(N (hf ts))), .ref M] μ := by
      rw [b172_77]
      simp only [gI13, gR13, pI13, pR13, rv13, k13, if_true, f1, q.1, Option.bind_some]
      rw [if_pos (show N 0 = 0 from rfl), if_pos (show N 1 = 1 from rfl), b172_98 (hs0 := ir_ref)]
      simp only [gI13, gR13, pI13, pR13, rv13, k13, if_true, nt, Option.bind_some]
      show jR (d + 32) 172 101 [.ref M, u1, .int i2] [] μ = _
      rw [b172_101]
      simp only [gI13, gR13, pI13, pR13, rv13, k13, if_true, q.2, Option.bind_some]
      by_cases e2 : i2 = 0
      · rw [if_pos e2, if_pos e2]
      · rw [if_neg e2, if_neg e2]
    generalize jsetI μ M 26 (if i2 = 0 then N (hf ts) else -(N (hf ts))) = μ1 at *
    have tl := h.2.1.tl (show hk ts ≠ 0 by rw [e1]; decide)
    obtain ⟨μ2, c2, F2, r2⟩ := rd_nextN (d := d + 25) h1.1 h.2.1 (by have := h.2.2; omega) (by rw [e1]; decide) (by rw [e1]; decide)
    have c2 : jC (d + 31) 173 [.ref M] μ1 = some (none, μ2) := c2
    obtain ⟨μ3, c3, F3, z1, z2⟩ := c_127 (d := d) (kk := 1) (u2 := .int i2) r2
    have run : jR (d + 32) 172 77 [.ref M, u1, .int i2] [] μ = jR (d + 32) 172 127 [.ref M, .int 1, .int i2] [] μ2 := by
      rw [e118, b172_118 (hs0 := ir_ref), p26]
      simp only [gI13, gR13, pI13, pR13, rv13, h1.1.1.k13, if_true, c2, Option.bind_some]
      show jR (d + 32) 172 125 [.ref M, u1, .int i2] [] μ2 = _
      rw [b172_125]
    rw [run]
    refine ⟨μ3, c3, (F1.trans F2.px).trans F3, fun q => ?_, fun q => z2 q.2, fun q => absurd e1 q⟩
    have := z1 q.2
    subst this
    have e26 : jiv μ3 M 26 = jiv μ1 M 26 := F2.2 26 (by decide) (by decide)
    exact ⟨(r2.1.2.1.fit (by rw [q.2]; decide)).1, by rw [e26, g26], r2⟩
  · have W : WR M μ (jsetI μ M 22 (N 1)) := WR.one
    have nf : jC (d + 31) 185 [.ref M, .int 0] μ = some (none, jsetI μ M 22 (N 1)) := r_needF k13
    have k1 : jk (jsetI μ M 22 (N 1)) M = 13 := k13
    have e97 : jR (d + 32) 172 77 [.ref M, u1, .int i2] [] μ = jR (d + 32) 172 97 [.ref M, u1, .int i2] [.ref M] μ := by
      rw [b172_77]
      rcases h.1.2.1.2 with ⟨h1, h2⟩ | ⟨h1, h2, -⟩
      · simp only [gI13, gR13, pI13, pR13, rv13, k13, if_true, h2, Option.bind_some]
        rw [if_neg (show ¬ N 1 = 0 by decide)]
      · simp only [gI13, gR13, pI13, pR13, rv13, k13, if_true, h1, Option.bind_some]
        rw [if_pos (show N 0 = 0 from rfl)]
        have n19 : ¬ jiv μ M 19 = 1 := by
          show ¬ jiv μ M 19 = N 1
          rcases h2 with ⟨k1, k2⟩ | ⟨k1, k2, k3⟩ | ⟨k1, k2, k3⟩ | ⟨k1, k2, k3⟩ | ⟨k1, k2, k3⟩
          · rw [k2]; decide
          · exact absurd k1 e1
          · rw [k2]; decide
          · rw [k2]; decide
          · rw [k2]; decide
        rw [if_neg n19]
    have e101 : jR (d + 32) 172 97 [.ref M, u1, .int i2] [.ref M] μ = jR (d + 32) 172 101 [.ref M, u1, .int i2] [] (jsetI μ M 22 (N 1)) := by
      rw [b172_97 (hs0 := ir_ref), b172_98 (hs0 := ir_ref)]
      simp only [gI13, gR13, pI13, pR13, rv13, k13, if_true, nf, Option.bind_some]
      rfl
    rw [e97, e101]
    have g22 := W.2.1
    generalize jsetI μ M 22 (N 1) = μ1 at *
    have go : ∀ z : Int32, ∃ μ2, jR (d + 32) 172 118 [.ref M, u1, .int i2] [.int z, .ref M] μ1 = some (some (.int 1), jsetI μ2 M 16 (N 0)) ∧ WR M μ1 μ2 := fun z => by
      have F : PX M μ1 (jsetI μ1 M 26 z) := PX.set (by omega)
      have k2 : jk (jsetI μ1 M 26 z) M = 13 := k1
      have u22 : jiv (jsetI μ1 M 26 z) M 22 = N 1 := (ivj (by decide)).trans g22
      have u18 : jiv (jsetI μ1 M 26 z) M 18 = jiv μ1 M 18 := ivj (by decide)
      have p26 : jpI μ1 13 26 0 (.ref M) z = some (jsetI μ1 M 26 z) := by
        simp only [gI13, gR13, pI13, pR13, rv13, k1, jfit0, if_true, and_true]
      generalize jsetI μ1 M 26 z = μ2 at *
      obtain ⟨μ3, c3, W3⟩ := c_127W (d := d) (kk := 1) (u2 := .int i2) k2 u22
      refine ⟨μ3, ?_, F.trans W3.1, W3.2.1, W3.2.2.trans u18⟩
      rw [b172_118 (hs0 := ir_ref), p26]
      simp only [gI13, gR13, pI13, pR13, rv13, k2, if_true, r_nextW k2 u22, Option.bind_some]
      show jR (d + 32) 172 125 [.ref M, u1, .int i2] [] μ2 = _
      rw [b172_125]
      exact c3
    rw [b172_101]
    simp only [gI13, gR13, pI13, pR13, rv13, k1, if_true, Option.bind_some]
    by_cases e2 : i2 = 0
    · rw [if_pos e2]
      obtain ⟨μ2, c2, W2⟩ := go (jiv μ1 M 20)
      exact ⟨μ2, c2, (W.trans W2).1, fun q => absurd q.1 e1, fun q => absurd q.1 e1, fun _ => ⟨W2.2.1, (W.trans W2).2.2.trans h8⟩⟩
    · rw [if_neg e2]
      obtain ⟨μ2, c2, W2⟩ := go (-(jiv μ1 M 20))
      exact ⟨μ2, c2, (W.trans W2).1, fun q => absurd q.1 e1, fun q => absurd q.1 e1, fun _ => ⟨W2.2.1, (W.trans W2).2.2.trans h8⟩⟩
end LEX
