/-! THE REFERENCE's READER: a ref -/
/-- the keys that refs are read by -/
def RG' (μ : jM) (M : Nat) (G : DG) : Prop := ∃ g, g < 4 ∧ jiv μ M 24 = N g ∧ jiv μ (M + 1) g = N G.length ∧ G.length ≤ 8 ∧ ∀ i, i < G.length → jiv μ (M + 3 + g) i = keyO G i
/-- a ref from its column on -/
def pr1 (ky : Nat → Nat) (s : Nat) (ts : List T3) : Bool × List T3 × Nat := if hk ts = 97 then (if hk ts.tail = 48 ∧ ky (hf ts.tail) ≠ 0 then (true, ts.tail.tail, 8 * ky (hf ts.tail) + 2 * hf ts + s) else (false, ts.tail, 0)) else (false, ts, 0)
section LEX
variable {μ μ' μ'' : jM} {M B d i j k a t c n w b : Nat} {bs r A R s ds ws l : List Nat} {v x y : Int32} {ts ts' : List T3} {T : List (Int32 × Int32)} {ok : Bool} {G : DG}
theorem RG'.px (h : RG' μ M G) (F : PX M μ μ') : RG' μ' M G := by
  obtain ⟨g, h1, h2, h3, h4, h5⟩ := h
  refine ⟨g, h1, by rw [F.2 24 (by decide) (by decide)]; exact h2, by rw [F.1.iv (a := M + 1) (fun q => by omega)]; exact h3, h4, fun i hi => ?_⟩
  rw [F.1.iv (a := M + 3 + g) (fun q => by omega)]
  exact h5 i hi
theorem pRef_pr (ky : Nat → Nat) (ts : List T3) : pRef ky ts = if hk ts = 35 then (true, ts.tail, 0) else if hk ts = 36 then pr1 ky 1 ts.tail else pr1 ky 0 ts := rfl
theorem r_refOf2 {s : Nat} (hk : 1 ≤ k) (hk2 : k < 100) : jC d 188 [.int (N k), .int (N c), .int (N s)] μ = some (some (.int (N (8 * k + 2 * c + s))), μ) := by
  rw [jC_run (by decide)]
  show jR d 188 0 [.int (N k), .int (N c), .int (N s)] [] μ = _
  rw [b188_0, if_neg (show ¬ N k = 0 by show ¬ N k = N 0; rw [N_inj (by omega) (by decide)]; omega), b188_18]
  rw [show (8 : Int32) = N 8 from rfl, show (2 : Int32) = N 2 from rfl, N_mul, N_mul, N_add, N_add]
theorem ref_118W {u1 u2 : Int32} (k13 : jk μ M = 13) : ∃ μ', jR (d + 8) 187 117 [.ref M, .int u1, .int u2] [.ref M] μ = some (none, μ') ∧ WR M μ μ' := by
  have W : WR M μ (jsetI μ M 22 (N 1)) := WR.one
  refine ⟨jsetI μ M 22 (N 1), ?_, W⟩
  have nf : jC (d + 7) 185 [.ref M, .int 0] μ = some (none, jsetI μ M 22 (N 1)) := r_needF k13
  have k1 : jk (jsetI μ M 22 (N 1)) M = 13 := k13
  have g22 := W.2.1
  rw [b187_117 (hs0 := ir_ref), b187_118 (hs0 := ir_ref)]
  simp only [gI13, gR13, pI13, pR13, rv13, k13, if_true, nf, Option.bind_some]
  show jR (d + 8) 187 121 [.ref M, .int u1, .int u2] [] (jsetI μ M 22 (N 1)) = _
  generalize jsetI μ M 22 (N 1) = μ1 at *
  rw [b187_121]
  simp only [gI13, gR13, pI13, pR13, rv13, k1, if_true, g22, Option.bind_some]
  rw [if_neg (show ¬ N 1 = 0 by decide)]
theorem ref_68W {u1 : Int32} {u2 : Value} (k13 : jk μ M = 13) (h : jiv μ M 22 = N 1) : ∃ μ', jR (d + 8) 187 68 [.ref M, .int u1, u2] [] μ = some (none, μ') ∧ WR M μ μ' := by
  obtain ⟨μ', c1, W⟩ := ref_118W (d := d) (u1 := u1) (u2 := jiv μ M 20) k13
  refine ⟨μ', ?_, W⟩
  rw [b187_68]
  simp only [gI13, gR13, pI13, pR13, rv13, k13, if_true, r_nextW k13 h, Option.bind_some]
  show jR (d + 8) 187 77 [.ref M, .int u1, .int (jiv μ M 20)] [] μ = _
  rw [b187_77]
  simp only [gI13, gR13, pI13, pR13, rv13, k13, if_true, h, Option.bind_some]
  rw [if_neg (show ¬ N 1 = 0 by decide)]
  exact c1
theorem ref_44 {s : Nat} {u2 : Value} (h : RD μ M B bs ts w T) (hR : RG' μ M G) (hK : KK G) (hs2 : s < 2) : ∃ μ', jR (d + 8) 187 44 [.ref M, .int (N s), u2] [] μ = some (none, μ') ∧ RE M B bs w μ μ' (pr1 (kyG G) s ts).1 (pr1 (kyG G) s ts).2.1 (T ++ [(N 3, N (pr1 (kyG G) s ts).2.2)]) := by
  have k13 := h.1.1.k13
  unfold pr1
  -- the column is none
  have bad : hk ts ≠ 97 → jR (d + 8) 187 44 [.ref M, .int (N s), u2] [] μ = jR (d + 8) 187 65 [.ref M, .int (N s), u2] [.int 0, .ref M] μ := fun e => by
    rw [b187_44]
    rcases h.1.2.1.2 with ⟨h1, h2⟩ | ⟨h1, h2, -⟩
    · simp only [gI13, gR13, pI13, pR13, rv13, k13, if_true, h2, Option.bind_some]
      rw [if_neg (show ¬ N 1 = 0 by decide), b187_64 (hs0 := ir_ref)]
    · simp only [gI13, gR13, pI13, pR13, rv13, k13, if_true, h1, Option.bind_some]
      rw [if_pos (show N 0 = 0 from rfl)]
      have no : ∀ t, jiv μ M 19 = N t → t < 10 → t ≠ 4 → (if jiv μ M 19 = 4 then jR (d + 8) 187 65 [.ref M, .int (N s), u2] [.int 1, .ref M] μ else jR (d + 8) 187 64 [.ref M, .int (N s), u2] [.ref M] μ) = jR (d + 8) 187 65 [.ref M, .int (N s), u2] [.int 0, .ref M] μ := fun t e1 e2 e3 => by
        rw [e1, if_neg (show ¬ N t = 4 by show ¬ N t = N 4; rw [N_inj (by omega) (by decide)]; exact e3), b187_64 (hs0 := ir_ref)]
      rcases h2 with ⟨k1, k2⟩ | ⟨k1, k2, k3⟩ | ⟨k1, k2, k3⟩ | ⟨k1, k2, k3⟩ | ⟨k1, k2, k3⟩
      · exact no 0 k2 (by decide) (by decide)
      · exact no 1 k2 (by decide) (by decide)
      · exact no 2 k2 (by decide) (by decide)
      · exact no 3 k2 (by decide) (by decide)
      · exact absurd k1 e
  by_cases e : hk ts = 97
  · rw [if_pos e]
    have n1 : hk ts ≠ 1 := by rw [e]; decide
    have n0 : hk ts ≠ 0 := by rw [e]; decide
    obtain ⟨f1, f2, -⟩ := h.1.2.1.fit n1
    have q4 : jiv μ M 19 = N 4 ∧ jiv μ M 20 = N (hf ts) := by
      rcases f2 with ⟨k1, k2⟩ | ⟨k1, k2, k3⟩ | ⟨k1, k2, k3⟩ | ⟨k1, k2, k3⟩ | ⟨k1, k2, k3⟩
      · exact absurd k1 n0
      · rw [e] at k1; exact absurd k1 (by decide)
      · rw [e] at k1; exact absurd k1 (by decide)
      · rw [e] at k1; exact absurd k1 (by decide)
      · exact ⟨k2, k3⟩
    have tl := h.2.1.tl n0
    obtain ⟨μ1, c1, F1, r1⟩ := rd_next (d := d + 1) h.1 h.2.1 (by have := h.2.2; omega) n1 n0
    have hR1 := hR.px F1
    have k1 := r1.1.1.k13
    have st : jR (d + 8) 187 44 [.ref M, .int (N s), u2] [] μ = jR (d + 8) 187 77 [.ref M, .int (N s), .int (N (hf ts))] [] μ1 := by
      rw [b187_44]
      simp only [gI13, gR13, pI13, pR13, rv13, k13, if_true, f1, Option.bind_some]
      rw [if_pos (show N 0 = 0 from rfl), q4.1, if_pos (show N 4 = 4 from rfl), b187_65 (hs0 := ir_ref)]
      have nt : jC (d + 7) 185 [.ref M, .int 1] μ = some (none, μ) := r_needT (by decide)
      simp only [gI13, gR13, pI13, pR13, rv13, k13, if_true, nt, Option.bind_some]
      show jR (d + 8) 187 68 [.ref M, .int (N s), u2] [] μ = _
      rw [b187_68]
      simp only [gI13, gR13, pI13, pR13, rv13, k13, if_true, q4.2, c1, Option.bind_some]
      rfl
    rw [st]
    have hfc : hf ts < 3 := h.2.1.hd.2.2.2.1 e
    have hd2 := r1.2.1.hd
    have b18 := r1.1.2.1.1
    -- what comes is no number of a row
    have bad2 : (¬ (hk ts.tail = 48 ∧ kyG G (hf ts.tail) ≠ 0)) → jR (d + 8) 187 77 [.ref M, .int (N s), .int (N (hf ts))] [] μ1 = jR (d + 8) 187 117 [.ref M, .int (N s), .int (N (hf ts))] [.ref M] μ1 → ∃ μ', jR (d + 8) 187 77 [.ref M, .int (N s), .int (N (hf ts))] [] μ1 = some (none, μ') ∧ RE M B bs w μ μ' false ts.tail (T ++ [(N 3, N 0)]) := fun _ q => by
      obtain ⟨μ', c2, W⟩ := ref_118W (d := d) (u1 := N s) (u2 := N (hf ts)) k1
      refine ⟨μ', by rw [q]; exact c2, F1.trans W.1, (fun q => by cases q), fun _ => ⟨W.2.1, W.2.2.trans b18⟩⟩
    by_cases e2 : hk ts.tail = 48
    · have n12 : hk ts.tail ≠ 1 := by rw [e2]; decide
      have n02 : hk ts.tail ≠ 0 := by rw [e2]; decide
      obtain ⟨p1, p2, -⟩ := r1.1.2.1.fit n12
      have q1 : jiv μ1 M 19 = N 1 ∧ jiv μ1 M 20 = N (hf ts.tail) := by
        rcases p2 with ⟨k1, k2⟩ | ⟨k1, k2, k3⟩ | ⟨k1, k2, k3⟩ | ⟨k1, k2, k3⟩ | ⟨k1, k2, k3⟩
        · exact absurd k1 n02
        · exact ⟨k2, k3⟩
        · rw [e2] at k1; exact absurd k1 (by decide)
        · rw [e2] at k1; exact absurd k1 (by decide)
        · rw [e2] at k1; exact absurd k1 (by decide)
      have hv : hf ts.tail < 1000000 := hd2.2.2.1 e2
      obtain ⟨g, hg, g24, grow, g8, gkey⟩ := id hR1
      have ro := r1.1.1.1.ro hg
      rw [grow] at ro
      have e110 : jR (d + 8) 187 77 [.ref M, .int (N s), .int (N (hf ts))] [] μ1 = jR (d + 8) 187 110 [.ref M, .int (N s), .int (N (hf ts))] [.int (if N (hf ts.tail) < N 1 ∨ N G.length < N (hf ts.tail) then N 0 else N 1), .ref M] μ1 := by
        rw [b187_77]
        simp only [gI13, gR13, pI13, pR13, rv13, k1, if_true, p1, Option.bind_some]
        rw [if_pos (show N 0 = 0 from rfl), q1.1, if_pos (show N 1 = 1 from rfl)]
        simp only [q1.2, r1.1.1.1.f.1, rf_some, g24, ro, Option.bind_some, r_btw]
        rfl
      have kk : (kyG G (hf ts.tail) ≠ 0) = (1 ≤ hf ts.tail ∧ hf ts.tail ≤ G.length) := by
        unfold kyG
        by_cases e0 : hf ts.tail = 0
        · rw [if_pos e0]
          exact propext ⟨fun q => absurd rfl q, fun q => by omega⟩
        · rw [if_neg e0]
          by_cases e3 : hf ts.tail ≤ G.length
          · obtain ⟨x, hx⟩ : ∃ x, G[hf ts.tail - 1]? = some x := ⟨_, List.getElem?_eq_getElem (by omega)⟩
            obtain ⟨k, a1, a2, a3⟩ := hK x (List.mem_of_getElem? hx)
            have ek : keyO G (hf ts.tail - 1) = N k := by
              unfold keyO
              rw [hx]
              exact a3
            rw [ek, N_nat (by omega)]
            exact propext ⟨fun q => by omega, fun q => by omega⟩
          · have ek : keyO G (hf ts.tail - 1) = N 0 := by
              unfold keyO
              rw [List.getElem?_eq_none (by omega)]
              rfl
            rw [ek]
            exact propext ⟨fun q => absurd rfl q, fun q => by omega⟩
      have cond : (N (hf ts.tail) < N 1 ∨ N G.length < N (hf ts.tail)) = ¬ (1 ≤ hf ts.tail ∧ hf ts.tail ≤ G.length) := by
        rw [N_lt (by omega) (by decide), N_lt (by omega) (by omega)]
        exact propext ⟨fun q => by omega, fun q => by omega⟩
      by_cases e3 : 1 ≤ hf ts.tail ∧ hf ts.tail ≤ G.length
      · rw [if_pos ⟨e2, by rw [kk]; exact e3⟩]
        obtain ⟨x, hx⟩ : ∃ x, G[hf ts.tail - 1]? = some x := ⟨_, List.getElem?_eq_getElem (by omega)⟩
        obtain ⟨k, a1, a2, a3⟩ := hK x (List.mem_of_getElem? hx)
        have ek : keyO G (hf ts.tail - 1) = N k := by
          unfold keyO
          rw [hx]
          exact a3
        have eky : kyG G (hf ts.tail) = k := by
          unfold kyG
          rw [if_neg (show ¬ hf ts.tail = 0 by omega), ek, N_nat (by omega)]
        rw [eky]
        obtain ⟨μ2, μ3, c2, k2, c3, F3, r3⟩ := rd_take (d := d + 7) (k := d + 1) (x := N 3) (y := N (8 * k + 2 * hf ts + s)) r1 n12 n02
        have c2 : jC (d + 7) 183 [.ref M, .int 3, .int (N (8 * k + 2 * hf ts + s))] μ1 = some (none, μ2) := c2
        refine ⟨μ3, ?_, F1.trans F3, fun _ => r3, fun q => by cases q⟩
        have nt : jC (d + 7) 185 [.ref M, .int 1] μ1 = some (none, μ1) := r_needT (by decide)
        have gr := r1.1.1.1.gr hg
        have gk := r1.1.1.1.gk hg
        have ekk := ent_get (μ := μ1) (i := hf ts.tail - 1) gk.1.1 gk.1.2 (by omega) (by decide)
        rw [gkey _ (by omega), ek] at ekk
        rw [e110, if_neg (show ¬ (N (hf ts.tail) < N 1 ∨ N G.length < N (hf ts.tail)) by rw [cond]; exact fun q => q e3), b187_110 (hs0 := ir_ref), if_neg (show ¬ N 1 = 0 by decide), b187_118 (hs0 := ir_ref)]
        simp only [gI13, gR13, pI13, pR13, rv13, k1, if_true, nt, Option.bind_some]
        show jR (d + 8) 187 121 [.ref M, .int (N s), .int (N (hf ts))] [] μ1 = _
        rw [b187_121]
        simp only [gI13, gR13, pI13, pR13, rv13, k1, if_true, p1, Option.bind_some]
        rw [if_pos (show N 0 = 0 from rfl)]
        simp only [r1.1.1.1.f.2.1, rf_some, g24, gr.1, q1.2, Option.bind_some, show N (hf ts.tail) - 1 = N (hf ts.tail - 1) from N_sub e3.1, ekk, r_refOf2 a1 a2]
        show jR (d + 8) 187 152 [.ref M, .int (N s), .int (N (hf ts))] [.int (N (8 * k + 2 * hf ts + s)), .int 3, .ref M] μ1 = _
        rw [b187_152 (hs0 := ir_ref)]
        simp only [gI13, gR13, pI13, pR13, rv13, k1, if_true, c2, Option.bind_some]
        show jR (d + 8) 187 155 [.ref M, .int (N s), .int (N (hf ts))] [] μ2 = _
        rw [b187_155]
        simp only [gI13, gR13, pI13, pR13, rv13, k2, if_true, c3, Option.bind_some]
        show jR (d + 8) 187 159 [.ref M, .int (N s), .int (N (hf ts))] [] μ3 = _
        rw [b187_159]
      · rw [if_neg (show ¬ (hk ts.tail = 48 ∧ kyG G (hf ts.tail) ≠ 0) from fun q => e3 (by rw [← kk]; exact q.2))]
        refine bad2 (fun q => e3 (by rw [← kk]; exact q.2)) ?_
        rw [e110, if_pos (show (N (hf ts.tail) < N 1 ∨ N G.length < N (hf ts.tail)) by rw [cond]; exact e3), b187_110 (hs0 := ir_ref), if_pos (show N 0 = 0 from rfl)]
    · rw [if_neg (show ¬ (hk ts.tail = 48 ∧ kyG G (hf ts.tail) ≠ 0) from fun q => e2 q.1)]
      refine bad2 (fun q => e2 q.1) ?_
      rw [b187_77]
      rcases r1.1.2.1.2 with ⟨h1, h2⟩ | ⟨h1, h2, -⟩
      · simp only [gI13, gR13, pI13, pR13, rv13, k1, if_true, h2, Option.bind_some]
        rw [if_neg (show ¬ N 1 = 0 by decide)]
      · simp only [gI13, gR13, pI13, pR13, rv13, k1, if_true, h1, Option.bind_some]
        rw [if_pos (show N 0 = 0 from rfl)]
        rcases h2 with ⟨k1, k2⟩ | ⟨k1, k2, k3⟩ | ⟨k1, k2, k3⟩ | ⟨k1, k2, k3⟩ | ⟨k1, k2, k3⟩
        · rw [k2, if_neg (show ¬ N 0 = 1 by decide)]
        · exact absurd k1 e2
        · rw [k2, if_neg (show ¬ N 2 = 1 by decide)]
        · rw [k2, if_neg (show ¬ N 3 = 1 by decide)]
        · rw [k2, if_neg (show ¬ N 4 = 1 by decide)]
  · rw [if_neg e, bad e, b187_65 (hs0 := ir_ref)]
    have W : WR M μ (jsetI μ M 22 (N 1)) := WR.one
    have nf : jC (d + 7) 185 [.ref M, .int 0] μ = some (none, jsetI μ M 22 (N 1)) := r_needF k13
    have k1 : jk (jsetI μ M 22 (N 1)) M = 13 := k13
    obtain ⟨μ', c2, W2⟩ := ref_68W (d := d) (u1 := N s) (u2 := u2) k1 W.2.1
    refine ⟨μ', ?_, (W.trans W2).re h.1.2.1.1⟩
    simp only [gI13, gR13, pI13, pR13, rv13, k13, if_true, nf, Option.bind_some]
    exact c2
end LEX
