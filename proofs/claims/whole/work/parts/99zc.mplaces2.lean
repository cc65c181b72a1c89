/-! THE REFERENCE, MERGING: all places -/
section LAY
variable {μ μ' μ'' ν : jM} {S S' : Nat → Prop} {T T' : Nat → Nat → Prop} {M g h t s n w d D i j k x y a b c f q : Nat} {A B C : GA} {σ : SG} {G : Nat → DG} {o o' ob ox ot : Option Nat} {R : Nat → Nat × Nat} {l l' : List CL} {V : Nat → DC} {K : List Int32} {W : DG}
/-- keys counted -/
theorem pl_count {u3 u4 u5 : Value} (h : GG μ M G) : ∀ (m j : Nat), j + m = 99 → jR (d + 4) 226 4 [.ref M, .int (N ((List.range' 1 j).countP fun k => keepB (G 0) (G 1) (G 2) (N k))), .int (N (j + 1)), u3, u4, u5] [] μ = jR (d + 4) 226 4 [.ref M, .int (N ((List.range' 1 99).countP fun k => keepB (G 0) (G 1) (G 2) (N k))), .int (N 100), u3, u4, u5] [] μ := by
  intro m
  induction m with
  | zero =>
    intro j hj
    have : j = 99 := by omega
    subst this
    rfl
  | succ m ih =>
    intro j hj
    have is := r_isIn (d := d) h (N (j + 1))
    rw [← ih (j + 1) (by omega), b226_4, if_pos (by show N (j + 1) < N 100; rw [N_lt (by omega) (by decide)]; omega)]
    simp only [gI13, gR13, pI13, pR13, rv13, h.1.k13, is, if_true, Option.bind_some]
    show jR (d + 4) 226 15 _ [.int (pN (keepK (G 0) (G 1) (G 2) (N (j + 1))))] μ = _
    have ec : (List.range' 1 (j + 1)).countP (fun k => keepB (G 0) (G 1) (G 2) (N k)) = (List.range' 1 j).countP (fun k => keepB (G 0) (G 1) (G 2) (N k)) + if keepB (G 0) (G 1) (G 2) (N (j + 1)) = true then 1 else 0 := by
      rw [List.range'_1_concat, List.countP_append, List.countP_cons, List.countP_nil, Nat.zero_add, Nat.add_comm 1 j]
    rw [b226_15, ec]
    by_cases e : keepK (G 0) (G 1) (G 2) (N (j + 1))
    · rw [pN_pos e, if_neg (by decide), if_pos (keepB_iff.mpr e), b226_21]
      simp only [show (1 : Int32) = N 1 from rfl, N_add]
    · rw [pN_neg e, if_pos (by decide), if_neg (fun q => e (keepB_iff.mp q)), b226_21]
      simp only [show (1 : Int32) = N 1 from rfl, N_add, Nat.add_zero]
/-- one's own rows -/
theorem pl_mine {u1 u3 u4 u5 : Value} (h : GG μ M G) : ∀ (m j : Nat) (μ1 : jM), j + m = (G 1).length → FKp M μ μ1 → KS μ1 M (ky1 (mineW (G 0) (G 1) (G 2) ((G 1).take j))) → ∃ μ2, jR (d + 4) 226 44 [.ref M, u1, .int (N j), u3, u4, u5] [] μ1 = jR (d + 4) 226 108 [.ref M, u1, .int (N 0), u3, u4, u5] [] μ2 ∧ FKp M μ μ2 ∧ KS μ2 M (ky1 (mineW (G 0) (G 1) (G 2) (G 1))) := by
  intro m
  induction m with
  | zero =>
    intro j μ1 hj F hk
    have h1 := F.me.gg h
    have e : j = (G 1).length := by omega
    subst e
    rw [List.take_length] at hk
    refine ⟨μ1, ?_, F, hk⟩
    have ro : jaI μ1 (.ref (M + 1)) 1 = some (jiv μ1 (M + 1) 1) := h1.1.ro (g := 1) (by decide)
    have e1 : jiv μ1 (M + 1) 1 = N (G 1).length := by rw [← (h1.gq (g := 1) (by decide)).2.1]; exact (h1.gq (g := 1) (by decide)).1.2.1
    rw [e1] at ro
    rw [b226_44]
    simp only [gI13, gR13, pI13, pR13, rv13, h1.1.k13, h1.1.f.1, ro, if_true, Option.bind_some, rf_some]
    have := (h1.gq (g := 1) (by decide)).2.2
    rw [if_neg (by rw [N_lt (by omega) (by omega)]; omega)]
    rfl
  | succ m ih =>
    intro j μ1 hj F hk
    have h1 := F.me.gg h
    have hq := h1.1
    have k13 := hq.k13
    obtain ⟨G1, g2, g3⟩ := h1.gq (g := 1) (by decide)
    have ro : jaI μ1 (.ref (M + 1)) 1 = some (jiv μ1 (M + 1) 1) := hq.ro (g := 1) (by decide)
    have e1 : jiv μ1 (M + 1) 1 = N (G 1).length := by rw [← g2]; exact G1.2.1
    rw [e1] at ro
    have gg := hq.gk (g := 1) (by decide)
    have gr : jaR μ1 (.ref (M + 2)) 1 = some (.ref (M + 3 + 1)) := (hq.gr (g := 1) (by decide)).1
    have g4 := ent_get (μ := μ1) (i := j) gg.1.1 gg.1.2 (by omega) (by decide)
    have ek : keyO (G 1) j = jiv μ1 (M + 3 + 1) j := by
      obtain ⟨z1, z2⟩ := h1.2 1 (by decide)
      unfold keyO
      rw [← z2]
      unfold dM
      rw [List.getElem?_map, show (rG μ1 (mA M 1))[j]? = some (rowAt μ1 (mA M 1) j) from RWN_get (n := vN μ1 (mA M 1)) (by omega)]
      rfl
    have is := r_isIn (d := d) h1 (jiv μ1 (M + 3 + 1) j)
    have es := mineW_succ (gb := G 0) (gx := G 1) (gt := G 2) (i := j) (by omega)
    rw [ek] at es
    have st : jR (d + 4) 226 44 [.ref M, u1, .int (N j), u3, u4, u5] [] μ1 = jR (d + 4) 226 66 [.ref M, u1, .int (N j), u3, u4, u5] [.int (pN (keepK (G 0) (G 1) (G 2) (jiv μ1 (M + 3 + 1) j)))] μ1 := by
      rw [b226_44]
      simp only [gI13, gR13, pI13, pR13, rv13, k13, hq.f.1, ro, if_true, Option.bind_some, rf_some]
      rw [if_pos (by rw [N_lt (by omega) (by omega)]; omega)]
      simp only [gI13, gR13, pI13, pR13, rv13, k13, hq.f.2.1, gr, g4, is, if_true, Option.bind_some, rf_some]
      rfl
    rw [st, b226_66]
    by_cases e : keepK (G 0) (G 1) (G 2) (jiv μ1 (M + 3 + 1) j)
    · rw [if_pos (keepB_iff.mpr e)] at es
      have l8 : (ky1 (mineW (G 0) (G 1) (G 2) ((G 1).take j))).length < 8 := by
        unfold ky1
        rw [List.length_map]
        have := mineW_len (gb := G 0) (gx := G 1) (gt := G 2) (l := (G 1).take j)
        rw [List.length_take] at this
        omega
      obtain ⟨p1, p2⟩ := hk.push l8 (kk := jiv μ1 (M + 3 + 1) j)
      have ek2 : ky1 (mineW (G 0) (G 1) (G 2) ((G 1).take (j + 1))) = ky1 (mineW (G 0) (G 1) (G 2) ((G 1).take j)) ++ [jiv μ1 (M + 3 + 1) j] := by
        rw [es]
        unfold ky1
        rw [List.map_append]; rfl
      rw [← ek2] at p1
      obtain ⟨μ2, w1, w2, w3⟩ := ih (j + 1) _ (by omega) (F.trans p2) p1
      refine ⟨μ2, ?_, w2, w3⟩
      rw [← w1, pN_pos e, if_neg (by decide)]
      have gk3 := hq.gk (g := 3) (by decide)
      have gr3 : jaR μ1 (.ref (M + 2)) 3 = some (.ref (M + 3 + 3)) := (hq.gr (g := 3) (by decide)).1
      have r3 : jaI μ1 (.ref (M + 1)) 3 = some (jiv μ1 (M + 1) 3) := hq.ro (g := 3) (by decide)
      rw [hk.2.1] at r3
      have s1 := ent_set (μ := μ1) (v := jiv μ1 (M + 3 + 1) j) gk3.1.1 gk3.1.2 l8 (by decide)
      have F1 : FKp M μ1 (jsetI μ1 (M + 3 + 3) (ky1 (mineW (G 0) (G 1) (G 2) ((G 1).take j))).length (jiv μ1 (M + 3 + 1) j)) := ⟨Fx.setI Fx.refl (Or.inr rfl), fun j _ => congrFun (iv_setIn (by omega)) j⟩
      have q3 := F1.me.qs hq
      have r4 : jaI (jsetI μ1 (M + 3 + 3) (ky1 (mineW (G 0) (G 1) (G 2) ((G 1).take j))).length (jiv μ1 (M + 3 + 1) j)) (.ref (M + 1)) 3 = some (jiv (jsetI μ1 (M + 3 + 3) (ky1 (mineW (G 0) (G 1) (G 2) ((G 1).take j))).length (jiv μ1 (M + 3 + 1) j)) (M + 1) 3) := q3.ro (g := 3) (by decide)
      rw [show jiv (jsetI μ1 (M + 3 + 3) (ky1 (mineW (G 0) (G 1) (G 2) ((G 1).take j))).length (jiv μ1 (M + 3 + 1) j)) (M + 1) = jiv μ1 (M + 1) from iv_setIn (by omega), hk.2.1] at r4
      have s2 : ∀ v, jsI (jsetI μ1 (M + 3 + 3) (ky1 (mineW (G 0) (G 1) (G 2) ((G 1).take j))).length (jiv μ1 (M + 3 + 1) j)) (.ref (M + 1)) 3 v = some (jsetI (jsetI μ1 (M + 3 + 3) (ky1 (mineW (G 0) (G 1) (G 2) ((G 1).take j))).length (jiv μ1 (M + 3 + 1) j)) (M + 1) 3 v) := fun v => q3.rs (g := 3) (by decide)
      simp only [gI13, gR13, pI13, pR13, rv13, k13, hq.f.1, hq.f.2.1, gr, gr3, g4, r3, s1, q3.k13, q3.f.1, r4, s2, if_true, Option.bind_some, rf_some]
      rw [b226_100]
      simp only [show (1 : Int32) = N 1 from rfl, N_add]
    · rw [if_neg (fun q => e (keepB_iff.mp q))] at es
      rw [← es] at hk
      obtain ⟨μ2, w1, w2, w3⟩ := ih (j + 1) _ (by omega) F hk
      refine ⟨μ2, ?_, w2, w3⟩
      rw [← w1, pN_neg e, if_pos (by decide), b226_100]
      simp only [show (1 : Int32) = N 1 from rfl, N_add]
/-- the other one's rows -/
theorem pl_theirs {u1 : Value} {Wf : DG} (h : GG μ M G) : ∀ (m j : Nat) (μ1 : jM) (W : DG) (u3 u4 u5 : Value), j + m = (G 2).length → FKp M μ μ1 → KS μ1 M (ky1 W) → bhd W (ky1 (G 2)) j ≤ W.length → thW (G 0) (G 1) (G 2) ((ky1 (G 2)).drop j) W (bhd W (ky1 (G 2)) j) = some Wf → ∃ μ2, jR (d + 4) 226 108 [.ref M, u1, .int (N j), u3, u4, u5] [] μ1 = some (some (.int (N 1)), μ2) ∧ FKp M μ μ2 ∧ KS μ2 M (ky1 Wf) := by
  intro m
  have lk : (ky1 (G 2)).length = (G 2).length := List.length_map ..
  induction m with
  | zero =>
    intro j μ1 W u3 u4 u5 hj F hk hb ht
    have h1 := F.me.gg h
    have e : j = (G 2).length := by omega
    subst e
    rw [List.drop_eq_nil_of_le (by omega)] at ht
    have ht : some W = some Wf := ht
    cases ht
    refine ⟨μ1, ?_, F, hk⟩
    have ro : jaI μ1 (.ref (M + 1)) 2 = some (jiv μ1 (M + 1) 2) := h1.1.ro (g := 2) (by decide)
    have e1 : jiv μ1 (M + 1) 2 = N (G 2).length := by rw [← (h1.gq (g := 2) (by decide)).2.1]; exact (h1.gq (g := 2) (by decide)).1.2.1
    rw [e1] at ro
    rw [b226_108]
    simp only [gI13, gR13, pI13, pR13, rv13, h1.1.k13, h1.1.f.1, ro, if_true, Option.bind_some, rf_some]
    have := (h1.gq (g := 2) (by decide)).2.2
    rw [if_neg (by rw [N_lt (by omega) (by omega)]; omega)]
    rfl
  | succ m ih =>
    intro j μ1 W u3 u4 u5 hj F hk hb ht
    have h1 := F.me.gg h
    have hq := h1.1
    have k13 := hq.k13
    obtain ⟨G1, g2, g3⟩ := h1.gq (g := 2) (by decide)
    have ro : jaI μ1 (.ref (M + 1)) 2 = some (jiv μ1 (M + 1) 2) := hq.ro (g := 2) (by decide)
    have e1 : jiv μ1 (M + 1) 2 = N (G 2).length := by rw [← g2]; exact G1.2.1
    rw [e1] at ro
    have gg := hq.gk (g := 2) (by decide)
    have gr : jaR μ1 (.ref (M + 2)) 2 = some (.ref (M + 3 + 2)) := (hq.gr (g := 2) (by decide)).1
    have g4 := ent_get (μ := μ1) (i := j) gg.1.1 gg.1.2 (by omega) (by decide)
    have ek : (ky1 (G 2))[j]? = some (jiv μ1 (M + 3 + 2) j) := by
      obtain ⟨z1, z2⟩ := h1.2 2 (by decide)
      rw [ky1_get, ← z2]
      unfold dM
      rw [List.getElem?_map, show (rG μ1 (mA M 2))[j]? = some (rowAt μ1 (mA M 2) j) from RWN_get (n := vN μ1 (mA M 2)) (by omega)]
      rfl
    generalize hkey : jiv μ1 (M + 3 + 2) j = kk at *
    have dj : (ky1 (G 2)).drop j = kk :: (ky1 (G 2)).drop (j + 1) := by
      rw [List.drop_eq_getElem_cons (by omega)]
      congr 1
      rw [List.getElem?_eq_getElem (by omega)] at ek
      exact Option.some.inj ek
    have nb : bhd W (ky1 (G 2)) (j + 1) = nextB W kk (bhd W (ky1 (G 2)) j) := by
      show nextB W (((ky1 (G 2))[j]?).getD (N 0)) _ = _
      rw [ek]; rfl
    have is := r_isIn (d := d) h1 kk
    have lW : W.length ≤ 8 := by
      have := hk.1
      unfold ky1 at this
      rwa [List.length_map] at this
    rw [dj, thW_cons] at ht
    have st : jR (d + 4) 226 108 [.ref M, u1, .int (N j), u3, u4, u5] [] μ1 = jR (d + 4) 226 132 [.ref M, u1, .int (N j), .int kk, u4, u5] [.int (pN (keepK (G 0) (G 1) (G 2) kk))] μ1 := by
      rw [b226_108]
      simp only [gI13, gR13, pI13, pR13, rv13, k13, hq.f.1, ro, if_true, Option.bind_some, rf_some]
      rw [if_pos (by rw [N_lt (by omega) (by omega)]; omega)]
      simp only [gI13, gR13, pI13, pR13, rv13, k13, hq.f.2.1, gr, g4, is, if_true, Option.bind_some, rf_some]
      rfl
    -- not in: on
    have skip : ∀ v4 v5 : Value, inB (G 0) (G 1) (G 2) kk ≠ true → ∃ μ2, jR (d + 4) 226 216 [.ref M, u1, .int (N j), .int kk, v4, v5] [] μ1 = some (some (.int (N 1)), μ2) ∧ FKp M μ μ2 ∧ KS μ2 M (ky1 Wf) := by
      intro v4 v5 hn
      rw [if_neg hn] at ht
      obtain ⟨μ2, w1, w2⟩ := ih (j + 1) μ1 W (.int kk) v4 v5 (by omega) F hk (by rw [nb]; exact nextB_leq hb) (by rw [nb]; exact ht)
      refine ⟨μ2, ?_, w2⟩
      rw [← w1, b226_216]
      simp only [show (1 : Int32) = N 1 from rfl, N_add]
    rw [st, b226_132]
    by_cases e : keepK (G 0) (G 1) (G 2) kk
    · rw [pN_pos e, if_neg (by decide)]
      have p1 := h1.place (d := d + 3) (g := 1) (by decide) kk
      have p1 : jC (d + 3) 194 [.ref M, .int 1, .int kk] μ1 = _ := p1
      have n1 := plo_ne (kk := kk) (h1.gq (g := 1) (by decide)).2.2
      simp only [gI13, gR13, pI13, pR13, rv13, k13, p1, if_true, Option.bind_some]
      show ∃ μ2, jR (d + 4) 226 141 [.ref M, u1, .int (N j), .int kk, u4, u5] [.int (pl (lfind kk (G 1)))] μ1 = _ ∧ _
      rw [b226_141]
      by_cases e1 : lfind kk (G 1) = none
      · have hin : inB (G 0) (G 1) (G 2) kk = true := by
          unfold inB
          rw [e1, keepB_iff.mpr e]; rfl
        rw [if_pos hin] at ht
        have bh := r_behind (d := d + 2) (j := j) h1 hk (by omega)
        rw [if_pos (by rw [n1]; exact e1)]
        simp only [gI13, gR13, pI13, pR13, rv13, k13, bh, if_true, Option.bind_some]
        by_cases e8 : W.length < 8
        · rw [if_pos e8] at ht
          have lkW : (ky1 W).length = W.length := List.length_map ..
          obtain ⟨μ2, b1, b2, b3⟩ := r_between (d := d + 3) (b := bhd W (ky1 (G 2)) j) (kk := kk) (u1 := u1) (u2 := u4) (u4 := u5) (i2 := N j) h1 hk (by omega) (by omega)
          rw [← ky1_ins] at b3
          have lW' : (W.insertIdx (bhd W (ky1 (G 2)) j) (zr kk)).length = W.length + 1 := List.length_insertIdx_of_le_length hb _
          have hmem : lfind kk (W.insertIdx (bhd W (ky1 (G 2)) j) (zr kk)) ≠ none := by
            intro q
            refine lfind_nin.mp q ?_
            rw [ky1_ins]
            exact (List.mem_insertIdx (by omega)).mpr (Or.inl rfl)
          have nx : ∀ z z', nextB (W.insertIdx (bhd W (ky1 (G 2)) j) (zr kk)) kk z = nextB (W.insertIdx (bhd W (ky1 (G 2)) j) (zr kk)) kk z' := by
            intro z z'
            unfold nextB
            cases e : lfind kk (W.insertIdx (bhd W (ky1 (G 2)) j) (zr kk)) with
            | none => exact absurd e hmem
            | some p => rfl
          have nb2 : bhd (W.insertIdx (bhd W (ky1 (G 2)) j) (zr kk)) (ky1 (G 2)) (j + 1) = nextB (W.insertIdx (bhd W (ky1 (G 2)) j) (zr kk)) kk (bhd W (ky1 (G 2)) j) := by
            show nextB (W.insertIdx (bhd W (ky1 (G 2)) j) (zr kk)) (((ky1 (G 2))[j]?).getD (N 0)) _ = _
            rw [ek]
            exact nx _ _
          obtain ⟨μ3, w1, w2⟩ := ih (j + 1) μ2 _ (.int kk) (.int (N (bhd W (ky1 (G 2)) j))) (.int (N (bhd W (ky1 (G 2)) j))) (by omega) (F.trans b2) b3 (by rw [nb2]; exact nextB_leq (by omega)) (by rw [nb2]; exact ht)
          refine ⟨μ3, ?_, w2⟩
          show jR (d + 4) 226 153 [.ref M, u1, .int (N j), .int kk, u4, u5] [.int (N (bhd W (ky1 (G 2)) j))] μ1 = _
          rw [b1, ← w1, b226_216]
          simp only [show (1 : Int32) = N 1 from rfl, N_add]
        · rw [if_neg e8] at ht; cases ht
      · rw [if_neg (by rw [n1]; exact e1)]
        refine skip _ _ (fun q => e1 ?_)
        unfold inB at q
        exact Option.isNone_iff_eq_none.mp ((Bool.and_eq_true _ _).mp q).1
    · rw [pN_neg e, if_pos (by decide)]
      refine skip _ _ (fun q => e ?_)
      unfold inB at q
      exact keepB_iff.mp ((Bool.and_eq_true _ _).mp q).2
theorem r_places (h : GG μ M G) (k3 : K3 μ M) (kx : KK (G 1)) (kt : KK (G 2)) (nx : (ky1 (G 1)).Nodup) (nt : (ky1 (G 2)).Nodup) : (thW (G 0) (G 1) (G 2) ((G 2).map fun w => w.1) (mineW (G 0) (G 1) (G 2) (G 1)) 0 = none ∧ jC (d + 4) 226 [.ref M] μ = some (some (.int (N 0)), μ)) ∨ ∃ Wf μ', thW (G 0) (G 1) (G 2) ((G 2).map fun w => w.1) (mineW (G 0) (G 1) (G 2) (G 1)) 0 = some Wf ∧ jC (d + 4) 226 [.ref M] μ = some (some (.int (N 1)), μ') ∧ FKp M μ μ' ∧ KS μ' M (ky1 Wf) := by
  have hq := h.1
  have l1 := (h.gq (g := 1) (by decide)).2.2
  have ml : (mineW (G 0) (G 1) (G 2) (G 1)).length ≤ 8 := Nat.le_trans mineW_len l1
  have ct := cnt_in (gb := G 0) kx kt nx nt
  have tn := thW_none (gb := G 0) (gx := G 1) (gt := G 2) (ky1 (G 2)) (mineW (G 0) (G 1) (G 2) (G 1)) 0 (Nat.zero_le _) ml
  rw [← ct] at tn
  have st : jC (d + 4) 226 [.ref M] μ = jR (d + 4) 226 4 [.ref M, .int (N ((List.range' 1 99).countP fun k => keepB (G 0) (G 1) (G 2) (N k))), .int (N 100), .retAddr 0, .retAddr 0, .retAddr 0] [] μ := by
    rw [jC_run (by decide)]
    show jR (d + 4) 226 0 [.ref M, .retAddr 0, .retAddr 0, .retAddr 0, .retAddr 0, .retAddr 0] [] μ = _
    rw [b226_0]
    exact pl_count h 99 0 (by decide)
  have cl : (List.range' 1 99).countP (fun k => keepB (G 0) (G 1) (G 2) (N k)) ≤ 99 := by
    refine Nat.le_trans List.countP_le_length ?_
    rw [List.length_range']; exact Nat.le_refl _
  by_cases e : 8 < (List.range' 1 99).countP (fun k => keepB (G 0) (G 1) (G 2) (N k))
  · refine Or.inl ⟨tn.mpr e, ?_⟩
    rw [st, b226_4, if_neg (by decide), if_pos (by show N 8 < N _; rw [N_lt (by decide) (by omega)]; exact e)]
    rfl
  · cases ew : thW (G 0) (G 1) (G 2) (ky1 (G 2)) (mineW (G 0) (G 1) (G 2) (G 1)) 0 with
    | none => exact absurd (tn.mp ew) e
    | some Wf =>
      refine Or.inr ?_
      have s0 : jsI μ (.ref (M + 1)) 3 0 = some (jsetI μ (M + 1) 3 (N 0)) := hq.rs (g := 3) (by decide)
      have F0 : FKp M μ (jsetI μ (M + 1) 3 (N 0)) := ⟨Fx.setI Fx.refl (Or.inl rfl), fun j hj => ivj hj⟩
      have k0 : KS (jsetI μ (M + 1) 3 (N 0)) M (ky1 (mineW (G 0) (G 1) (G 2) ((G 1).take 0))) := ⟨Nat.zero_le _, if_pos ⟨rfl, rfl⟩, (fun i k hi => by cases hi), k3⟩
      obtain ⟨μ1, a1, a2, a3⟩ := pl_mine (d := d) (u1 := .int (N ((List.range' 1 99).countP fun k => keepB (G 0) (G 1) (G 2) (N k)))) (u3 := .retAddr 0) (u4 := .retAddr 0) (u5 := .retAddr 0) h (G 1).length 0 _ (by omega) F0 k0
      obtain ⟨μ2, b1, b2, b3⟩ := pl_theirs (d := d) (Wf := Wf) (u1 := .int (N ((List.range' 1 99).countP fun k => keepB (G 0) (G 1) (G 2) (N k)))) h (G 2).length 0 μ1 _ (.retAddr 0) (.retAddr 0) (.retAddr 0) (by omega) a2 a3 (Nat.zero_le _) ew
      refine ⟨Wf, μ2, ew, ?_, b2, b3⟩
      rw [st, b226_4, if_neg (by decide), if_neg (by show ¬ N 8 < N _; rw [N_lt (by decide) (by omega)]; exact e)]
      simp only [gI13, gR13, pI13, pR13, rv13, hq.k13, hq.f.1, s0, if_true, Option.bind_some, rf_some]
      have a1 : jR (d + 4) 226 44 [.ref M, .int (N ((List.range' 1 99).countP fun k => keepB (G 0) (G 1) (G 2) (N k))), .int 0, .retAddr 0, .retAddr 0, .retAddr 0] [] (jsetI μ (M + 1) 3 (N 0)) = _ := a1
      rw [a1, b1]
end LAY
