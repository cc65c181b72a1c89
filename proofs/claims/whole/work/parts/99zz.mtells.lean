/-! THE REFERENCE's CALLS: tells -/
/-- as it is while rules are tried -/
def tS (σ : SG) (c k : Nat) (W : DG) (l : List CL) (m : Bool) : SG := ((updf σ.1.1 3 W, updf σ.1.2.1 c (k, (σ.1.2.1 c).2), σ.1.2.2), σ.2.1, σ.2.2.1, l, m, σ.2.2.2.2.2)
section LAY
variable {μ μ' μ'' ν : jM} {S S' : Nat → Prop} {T T' : Nat → Nat → Prop} {M g h t s n w d D i j k x y a b c f q p H rt : Nat} {G : DG} {v : Int32} {r : VT} {σ τ : SG} {W : DG} {l : List CL} {m : Bool}
theorem updf_same {α : Type} {f : Nat → α} {i : Nat} {v : α} (h : f i = v) : updf f i v = f := by
  funext j
  unfold updf
  by_cases e : j = i
  · rw [if_pos e, e, h]
  · rw [if_neg e]
theorem updf_twice {α : Type} {f : Nat → α} {i : Nat} {v w : α} : updf (updf f i v) i w = updf f i w := by
  funext j
  unfold updf
  by_cases e : j = i
  · rw [if_pos e, if_pos e]
  · rw [if_neg e, if_neg e, if_neg e]
theorem updf_at {α : Type} {f : Nat → α} {i : Nat} {v : α} : updf f i v i = v := if_pos rfl
theorem tS_0 : tS σ c (σ.1.2.1 c).1 (σ.1.1 3) σ.2.2.2.1 σ.2.2.2.2.1 = σ := by
  unfold tS
  rw [updf_same (f := σ.1.1) rfl, updf_same (f := σ.1.2.1) (i := c) rfl]
/-- one rule's kind set -/
theorem MR.kind (h : MR μ M σ) (hc : c < 3) : jsI μ (.ref (M + 27)) (N c) (N k) = some (jsetI μ (M + 27) c (N k)) ∧ FR M μ (jsetI μ (M + 27) c (N k)) ∧ MR (jsetI μ (M + 27) c (N k)) M ((σ.1.1, updf σ.1.2.1 c (k, (σ.1.2.1 c).2), σ.1.2.2), σ.2) ∧ (∀ τ, TH μ M τ → TH (jsetI μ (M + 27) c (N k)) M τ) := by
  have hq := h.1
  obtain ⟨q6, q7, k27, k28⟩ := hq.fr
  have e3 := ent_set (μ := μ) (v := N k) k27.1 k27.2 hc (by decide)
  have F : Fx (fun a => a = M + 27) (fun _ _ => False) μ (jsetI μ (M + 27) c (N k)) := Fx.setI Fx.refl rfl
  have iv : ∀ a, a ≠ M + 27 → jiv (jsetI μ (M + 27) c (N k)) a = jiv μ a := fun a h1 => F.iv h1
  have iM := iv M (by omega)
  obtain ⟨l1, l2, l3, l4, l5⟩ := h.low F (fun a k => by omega) (by rw [iM]) (by rw [iM]) (by rw [iM])
  obtain ⟨-, -, -, hr, -, -, ht, hcl, hm, hs⟩ := h
  refine ⟨e3, F.mono (fun a k => by omega) (fun a j k => k.elim), ⟨l1, l2, l3, fun x hx => ?_, l4, l5, ?_, ?_, ?_, fun i hi => ?_⟩, fun τ hT => hT.keep F (F.fd (fun a k => by omega) (fun a j k => k.elim)) (fun a k => by omega) (fun a j k => k.elim)⟩
  · obtain ⟨r1, r2⟩ := hr x hx
    rw [ivs, iv (M + 28) (by omega)]
    show (if x = c then N k else jiv μ (M + 27) x) = N (if x = c then (k, (σ.1.2.1 c).2) else σ.1.2.1 x).1 ∧ jiv μ (M + 28) x = N (if x = c then (k, (σ.1.2.1 c).2) else σ.1.2.1 x).2
    by_cases e : x = c
    · rw [if_pos e, if_pos e]
      subst e
      exact ⟨rfl, r2⟩
    · rw [if_neg e, if_neg e]; exact ⟨r1, r2⟩
  · obtain ⟨b1, b2, b3⟩ := ht
    exact ⟨b1, by rw [iM]; exact b2, by rw [iv (M + 399) (by omega)]; exact b3⟩
  · obtain ⟨b1, b2, b3⟩ := hcl
    exact ⟨b1, by rw [iM]; exact b2, by rw [iv (M + 405) (by omega), iv (M + 406) (by omega), iv (M + 407) (by omega), iv (M + 408) (by omega)]; exact b3⟩
  · show jiv _ M 36 = _
    rw [iM]; exact hm
  · rw [iv (M + 416) (by omega), iv (M + 417) (by omega), iv (M + 419 + i) (by omega)]
    exact hs i hi
theorem tS_kind : (((tS σ c j W l m).1.1, updf (tS σ c j W l m).1.2.1 c (k, ((tS σ c j W l m).1.2.1 c).2), (tS σ c j W l m).1.2.2), (tS σ c j W l m).2) = tS σ c k W l m := by
  unfold tS
  show ((updf σ.1.1 3 W, updf (updf σ.1.2.1 c (j, (σ.1.2.1 c).2)) c (k, (updf σ.1.2.1 c (j, (σ.1.2.1 c).2) c).2), σ.1.2.2), _) = _
  rw [updf_at, updf_twice]
theorem tS_merge {V : DG} {l' : List CL} {m' : Bool} : scl (stg (tS σ c k W l m) 3 V) l' m' = tS σ c k V l' m' := by
  unfold tS scl stg
  show ((updf (updf σ.1.1 3 W) 3 V, _), _) = _
  rw [updf_twice]
/-- rules tried, kind after kind -/
theorem tl_loop {u2 u4 : Value} {i5 : Int32} (hw : WM σ) (hs : s < 4) (hc : c < 3) (h8 : (σ.2.2.2.2.2 s).2.length ≤ 8) : ∀ (n i b j : Nat) (W : DG) (l : List CL) (m : Bool) (ν : jM), i + n = 6 → j < 6 → pRt σ (σ.2.2.2.2.2 s).2 c i = some b → MR ν M (tS σ c j W l m) → TH ν M σ → ∃ ν' j' W' l' m' i7, jR (d + 452) 255 96 [.ref M, .int (N s), u2, .int (N c), u4, .int i5, .int (N b), .int (N i)] [] ν = jR (d + 452) 255 158 [.ref M, .int (N s), u2, .int (N c), u4, .int i5, .int (((pRt σ (σ.2.2.2.2.2 s).2 c 6).map N).getD aFULL), .int i7] [] ν' ∧ FR M ν ν' ∧ j' < 6 ∧ MR ν' M (tS σ c j' W' l' m') ∧ TH ν' M σ := by
  intro n
  induction n with
  | zero =>
    intro i b j W l m ν hi hj hp hm hT
    have hi : i = 6 := by omega
    subst hi
    refine ⟨ν, j, W, l, m, N 6, ?_, FR.refl, hj, hm, hT⟩
    rw [b255_96, if_neg (by decide), hp]
    rfl
  | succ n ih =>
    intro i b j W l m ν hi hj hp hm hT
    have hi6 : i < 6 := by omega
    have hb := pRt_lt i b hp
    have hb64 : b < 64 := by
      rcases (show i = 0 ∨ i = 1 ∨ i = 2 ∨ i = 3 ∨ i = 4 ∨ i = 5 by omega) with rfl | rfl | rfl | rfl | rfl | rfl <;> omega
    obtain ⟨s1, F1, m1, t1⟩ := hm.kind (k := i) hc
    rw [tS_kind] at m1
    have t1 := t1 σ hT
    generalize jsetI ν (M + 27) c (N i) = ν1 at *
    have k13 := hm.1.k13
    have q6 := hm.1.fr.1
    have nf : ¬ N b = -4 := by
      show ¬ N b = -(N 4)
      intro q
      have := congrArg Int32.toInt q
      rw [N_toInt (by omega)] at this
      have e4 : (-(N 4) : Int32).toInt = -4 := by decide
      omega
    have rg : RG ν1 M (tS σ c i W l m).1.2.1 := ⟨m1.2.2.2.1, fun c' hc' => by
      show (updf σ.1.2.1 c (i, (σ.1.2.1 c).2) c').1 < 6 ∧ (updf σ.1.2.1 c (i, (σ.1.2.1 c).2) c').2 < 100
      unfold updf
      by_cases e : c' = c
      · rw [if_pos e]; exact ⟨hi6, (hw.1 c hc).2⟩
      · rw [if_neg e]; exact hw.1 c' hc'⟩
    have mg := r_merges (d := d + 446) m1.gg rg m1.k3 (hw.2 1 (by decide)).1 (hw.2 2 (by decide)).1 (hw.2 1 (by decide)).2 (hw.2 2 (by decide)).2
    have g0 : (tS σ c i W l m).1.1 0 = σ.1.1 0 := rfl
    have g1 : (tS σ c i W l m).1.1 1 = σ.1.1 1 := rfl
    have g2 : (tS σ c i W l m).1.1 2 = σ.1.1 2 := rfl
    have gR : (tS σ c i W l m).1.2.1 = updf σ.1.2.1 c (i, (σ.1.2.1 c).2) := rfl
    rw [g0, g1, g2, gR] at mg
    have fs : pRt σ (σ.2.2.2.2.2 s).2 c (i + 1) = (pMerge (updf σ.1.2.1 c (i, (σ.1.2.1 c).2)) (σ.1.1 0) (σ.1.1 1) (σ.1.1 2)).map fun W => if fstO W.1 c (σ.2.2.2.2.2 s).2 0 = NEG then b + 2 ^ i else b := by
      show (pRt σ _ c i).bind _ = _
      rw [hp]; rfl
    have st : ∀ Z, (jC (d + 451) 225 [.ref M] ν1).bind (fun p3 => jR (d + 452) 255 122 [.ref M, .int (N s), u2, .int (N c), u4, .int i5, .int (N b), .int (N i)] (p3.1.toList ++ []) p3.2) = Z → jR (d + 452) 255 96 [.ref M, .int (N s), u2, .int (N c), u4, .int i5, .int (N b), .int (N i)] [] ν = Z := by
      intro Z hZ
      rw [← hZ, b255_96, if_pos (show N i < 6 by show N i < N 6; rw [N_lt (by omega) (by decide)]; exact hi6), if_neg nf]
      simp only [gI13, gR13, pI13, pR13, rv13, k13, q6, s1, m1.1.k13, if_true, decide_true, Option.bind_some, rf_some]
    have e152 : ∀ (x : Int32) ν2, jR (d + 452) 255 152 [.ref M, .int (N s), u2, .int (N c), u4, .int i5, .int x, .int (N i)] [] ν2 = jR (d + 452) 255 96 [.ref M, .int (N s), u2, .int (N c), u4, .int i5, .int x, .int (N (i + 1))] [] ν2 := fun x ν2 => by
      rw [b255_152, show (1 : Int32) = N 1 from rfl, N_add]
    rcases mg with ⟨e1, e2⟩ | ⟨V, ν2, e1, e2, e3, e4, e5, e6, e7⟩
    · rw [e1] at fs
      have hn := pRt_none (c := c) (σ := σ) (5 - i) (show pRt σ (σ.2.2.2.2.2 s).2 c (i + 1) = none from fs)
      rw [show i + 1 + (5 - i) = 6 by omega] at hn
      refine ⟨ν1, i, W, l, m, N (i + 1), ?_, F1, hi6, m1, t1⟩
      refine st _ ?_
      have e2 : jC (d + 451) 225 [.ref M] ν1 = _ := e2
      rw [e2, hn]
      show jR (d + 452) 255 122 [.ref M, .int (N s), u2, .int (N c), u4, .int i5, .int (N b), .int (N i)] [.int (N 0)] ν1 = _
      rw [b255_122, if_pos (show N 0 = 0 from rfl), e152, b255_96]
      by_cases e6 : N (i + 1) < 6
      · rw [if_pos e6, if_pos rfl]; rfl
      · rw [if_neg e6]; rfl
    · rw [e1] at fs
      have m2 := m1.me e3 e4 e5 e6
      rw [tS_merge] at m2
      have t2 := t1.me e3
      obtain ⟨ν3, o1, o2, o3⟩ := r_other (d := d) (s := s) (g := 3) (c := c) m2 hs (by decide) hc h8
      have t3 := o2.th t2
      have ef : fstO ((tS σ c i V.1 V.2 (tS σ c i W l m).2.2.2.2.1).1.1 3) c ((tS σ c i V.1 V.2 (tS σ c i W l m).2.2.2.2.1).2.2.2.2.2 s).2 0 = fstO V.1 c (σ.2.2.2.2.2 s).2 0 := rfl
      rw [ef] at o1
      have o1 : jC (d + 451) 257 [.ref M, .int (N s), .int 3, .int (N c)] ν2 = _ := o1
      have e2 : jC (d + 451) 225 [.ref M] ν1 = _ := e2
      have up : ∀ Z, jR (d + 452) 255 139 [.ref M, .int (N s), u2, .int (N c), u4, .int i5, .int (N b), .int (N i)] [.int (fstO V.1 c (σ.2.2.2.2.2 s).2 0)] ν3 = Z → jR (d + 452) 255 96 [.ref M, .int (N s), u2, .int (N c), u4, .int i5, .int (N b), .int (N i)] [] ν = Z := by
        intro Z hZ
        refine st _ ?_
        rw [e2]
        show jR (d + 452) 255 122 [.ref M, .int (N s), u2, .int (N c), u4, .int i5, .int (N b), .int (N i)] [.int (N 1)] ν2 = _
        rw [b255_122, if_neg (show ¬ N 1 = 0 by decide)]
        simp only [gI13, gR13, pI13, pR13, rv13, m2.1.k13, o1, if_true, Option.bind_some]
        exact hZ
      have nxt : ∀ b' : Nat, pRt σ (σ.2.2.2.2.2 s).2 c (i + 1) = some b' → (∀ Z, jR (d + 452) 255 96 [.ref M, .int (N s), u2, .int (N c), u4, .int i5, .int (N b'), .int (N (i + 1))] [] ν3 = Z → jR (d + 452) 255 96 [.ref M, .int (N s), u2, .int (N c), u4, .int i5, .int (N b), .int (N i)] [] ν = Z) → ∃ ν' j' W' l' m' i7, jR (d + 452) 255 96 [.ref M, .int (N s), u2, .int (N c), u4, .int i5, .int (N b), .int (N i)] [] ν = jR (d + 452) 255 158 [.ref M, .int (N s), u2, .int (N c), u4, .int i5, .int (((pRt σ (σ.2.2.2.2.2 s).2 c 6).map N).getD aFULL), .int i7] [] ν' ∧ FR M ν ν' ∧ j' < 6 ∧ MR ν' M (tS σ c j' W' l' m') ∧ TH ν' M σ := by
        intro b' hb' hst
        obtain ⟨ν', j', W', l', m', i7, y1, y2, y3, y4, y5⟩ := ih (i + 1) b' i V.1 V.2 _ ν3 (by omega) hi6 hb' o3 t3
        exact ⟨ν', j', W', l', m', i7, hst _ y1, ((F1.trans e3.fr).trans o2.fn.fr).trans y2, y3, y4, y5⟩
      by_cases ez : fstO V.1 c (σ.2.2.2.2.2 s).2 0 = NEG
      · refine nxt (b + 2 ^ i) (by rw [fs]; show some (if _ then _ else _) = _; rw [if_pos ez]) (fun Z hZ => up _ ?_)
        have ob : N b ||| (N 1 <<< (N i &&& N 31)) = N (b + 2 ^ i) := or_bit ⟨i, hi6⟩ ⟨b, hb64⟩ hb
        have ob : N b ||| (1 <<< (N i &&& 31)) = N (b + 2 ^ i) := ob
        rw [b255_139, if_pos (show fstO V.1 c (σ.2.2.2.2.2 s).2 0 = -1 from ez), ob, e152]
        exact hZ
      · refine nxt b (by rw [fs]; show some (if _ then _ else _) = _; rw [if_neg ez]) (fun Z hZ => up _ ?_)
        rw [b255_139, if_neg (show ¬ fstO V.1 c (σ.2.2.2.2.2 s).2 0 = -1 from ez), e152]
        exact hZ
end LAY
