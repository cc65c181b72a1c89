/-! What the grammar reads is a good tree; the tokens of a tape are a good row -/
theorem lv_mono {e : Ex} {u v : Nat} (h : u ≤ v) (hl : lv u e) : lv v e := by
  cases e with
  | natCast k => exact hl
  | intCast k => exact hl
  | var i => exact hl
  | neg a => exact hl
  | pow a k => exact hl
  | num k => exact hl
  | add a b => exact ⟨Nat.le_trans hl.1 h, hl.2⟩
  | sub a b => exact ⟨Nat.le_trans hl.1 h, hl.2⟩
  | mul a b => exact ⟨Nat.le_trans hl.1 h, hl.2⟩
def lvl (u : Nat) : Nat := if u < 3 then u else u - 2
/-- what was read ahead -/
def pt (u : Nat) (e : Ex) : List Tk := if u < 3 then [] else tks e
theorem wsum_app {A B : List Tk} : wsum (A ++ B) = wsum A + wsum B := by unfold wsum; rw [List.map_append, List.sum_append]
theorem wsum_cons {t : Tk} {A : List Tk} : wsum (t :: A) = tw t + wsum A := by unfold wsum; rw [List.map_cons, List.sum_cons]
theorem wsum_nil : wsum [] = 0 := rfl
def PO (u w : Nat) (e : Ex) (ts : List T3) (r : Bool × List T3 × Ex) : Prop := GTS r.2.1 ∧ r.2.1 <:+ ts ∧ (r.1 = true → lv (lvl u) r.2.2 ∧ nst r.2.2 + w ≤ 4 ∧ hs ts + wsum (tks r.2.2) ≤ hs r.2.1 + wsum (pt u e) ∧ (tks r.2.2).length + r.2.1.length ≤ ts.length + (pt u e).length)
theorem tlen_le {ts : List T3} (h : GTS ts) (h0 : hk ts ≠ 0) : GTS ts.tail ∧ ts.tail.length + 1 = ts.length ∧ hs ts + tlen (ts.headD (0, 0, 0)) ≤ hs ts.tail ∧ hs ts + 1 ≤ hs ts.tail ∧ ts.tail <:+ ts := by
  obtain ⟨a, b, c⟩ := h.tl h0
  have := tlen_1 (ts := ts)
  exact ⟨a, b, c, by omega, List.tail_suffix ts⟩
section PARSE
variable {ky : Nat → Nat} {ts : List T3} {n u w : Nat} {e : Ex}
theorem po_fail {r : List T3} {e' : Ex} (hg : GTS r) (hs : r <:+ ts) : PO u w e ts (false, r, e') := ⟨hg, hs, fun h => by cases h⟩
theorem rK_lt {i : Nat} (h : rK i) : i < 1000 := by have := h.1; omega
theorem pRng_ok (hky : ∀ v, ky v < 100) (h : GTS ts) (hw : w ≤ 4) (h1 : hk ts = 116 ∨ hk ts = 109 ∨ hk ts = 108 ∨ hk ts = 110) : PO 0 w e ts (pRng ky e ts) := by
  obtain ⟨a1, a2, a3, a4, a5⟩ := tlen_le h (by omega)
  have hr1 := pRef_ok hky (ts := ts.tail.tail)
  unfold pRng
  by_cases c1 : hk ts.tail = 40
  · rw [if_pos c1]
    obtain ⟨b1, b2, b3, b4, b5⟩ := tlen_le a1 (by omega)
    obtain ⟨r1, r2, r3⟩ := hr1 b1
    generalize pRef ky ts.tail.tail = R1 at *
    have sf1 : R1.2.1 <:+ ts := (show R1.2.1 <:+ ts.tail.tail from ⟨_, r3.choose_spec.symm⟩).trans (b5.trans a5)
    by_cases c2 : R1.1 = true
    · rw [if_pos c2]
      obtain ⟨d1, d2, d3⟩ := r2 c2
      by_cases c3 : hk R1.2.1 = 58
      · rw [if_pos c3]
        obtain ⟨e1, e2, e3, e4, e5⟩ := tlen_le r1 (by omega)
        obtain ⟨s1, s2, s3⟩ := pRef_ok hky (ts := R1.2.1.tail) e1
        generalize pRef ky R1.2.1.tail = R2 at *
        have sf2 : R2.2.1 <:+ ts := (show R2.2.1 <:+ R1.2.1.tail from ⟨_, s3.choose_spec.symm⟩).trans (e5.trans sf1)
        by_cases c4 : R2.1 = true
        · rw [if_pos c4]
          obtain ⟨f1, f2, f3⟩ := s2 c4
          by_cases c5 : hk R2.2.1 = 41
          · rw [if_pos c5]
            obtain ⟨g1, g2, g3, g4, g5⟩ := tlen_le s1 (by omega)
            have hwc : wcode (hk ts) < 4 := by unfold wcode; split; · decide
                                               split; · decide
                                               split <;> decide
            obtain ⟨k1, k2, k3⟩ := rcode (w := wcode (hk ts)) (rK_lt d1) (rK_lt f1)
            have htk : tks (.num ((wcode (hk ts) * 1000000 + R1.2.2 * 1000 + R2.2.2 : Nat) : Int)) = [(wT (wcode (hk ts)), N 0, N 0), (N 40, N 0, N 0), rT R1.2.2, (N 58, N 0, N 0), rT R2.2.2, (N 41, N 0, N 0)] := by
              simp only [tks, Int.toNat_natCast, k1, k2, k3]
            have htw : tw (wT (wcode (hk ts)), N 0, N 0) = tlen (ts.headD (0, 0, 0)) := by
              rw [tlen_hd]
              rcases h1 with h1 | h1 | h1 | h1 <;> rw [h1] <;> rfl
            refine ⟨g1, g5.trans sf2, fun _ => ⟨⟨Int.natCast_nonneg _, ?_⟩, ?_, ?_, ?_⟩⟩
            · rw [Int.toNat_natCast, k1, k2, k3]; exact ⟨hwc, d1, f1⟩
            · show 0 + w ≤ 4; omega
            · show hs ts + wsum (tks (.num ((wcode (hk ts) * 1000000 + R1.2.2 * 1000 + R2.2.2 : Nat) : Int))) ≤ hs R2.2.1.tail + wsum []
              rw [htk]
              simp only [wsum_cons, wsum_nil, htw, show tw (N 40, N 0, N 0) = 1 from rfl, show tw (N 58, N 0, N 0) = 1 from rfl, show tw (N 41, N 0, N 0) = 1 from rfl]
              omega
            · show (tks (.num ((wcode (hk ts) * 1000000 + R1.2.2 * 1000 + R2.2.2 : Nat) : Int))).length + R2.2.1.tail.length ≤ ts.length + 0
              rw [htk]
              simp only [List.length_cons, List.length_nil]
              omega
          · rw [if_neg c5]; exact po_fail s1 sf2
        · rw [if_neg c4]; exact po_fail s1 sf2
      · rw [if_neg c3]; exact po_fail r1 sf1
    · rw [if_neg c2]; exact po_fail r1 sf1
  · rw [if_neg c1]; exact po_fail a1 a5
theorem pP_ok (hky : ∀ v, ky v < 100) : ∀ (n u w : Nat) (e : Ex) (ts : List T3), GTS ts → w ≤ 4 → (3 ≤ u → lv (u - 2) e ∧ nst e + w ≤ 4) → PO u w e ts (pP ky n u w e ts) := by
  intro n
  induction n with
  | zero => intro u w e ts h _ _; exact po_fail h (List.suffix_refl _)
  | succ n ih =>
    intro u w e ts h hw hu
    match u with
    | 0 =>
      rw [pP]
      by_cases c1 : hk ts = 48
      · rw [if_pos c1]
        obtain ⟨a1, a2, a3, a4, a5⟩ := tlen_le h (by omega)
        have hv := h.hd.2.2.1 c1
        have htl := tlen_hd (ts := ts)
        rw [if_pos c1] at htl
        refine ⟨a1, a5, fun _ => ⟨hv, by show 0 + w ≤ 4; omega, ?_, ?_⟩⟩
        · show hs ts + wsum [(N 48, N (hf ts), N 0)] ≤ hs ts.tail + 0
          have : tw (N 48, N (hf ts), N 0) = nd (hf ts) := by
            unfold tw
            rw [if_pos rfl, N_nat (by omega)]
          rw [wsum_cons, wsum_nil, this]; omega
        · show 1 + ts.tail.length ≤ ts.length + 0; omega
      · rw [if_neg c1]
        by_cases c2 : hk ts = 45
        · rw [if_pos c2]
          by_cases c3 : w < 4
          · rw [if_pos c3]
            obtain ⟨a1, a2, a3, a4, a5⟩ := tlen_le h (by omega)
            obtain ⟨i1, i2, i3⟩ := ih 0 (w + 1) e ts.tail a1 (by omega) (fun g => by omega)
            generalize pP ky n 0 (w + 1) e ts.tail = R at *
            refine ⟨i1, i2.trans a5, fun g => ?_⟩
            obtain ⟨j1, j2, j3, j4⟩ := i3 g
            have j3 : hs ts.tail + wsum (tks R.2.2) ≤ hs R.2.1 + 0 := j3
            have j4 : (tks R.2.2).length + R.2.1.length ≤ ts.tail.length + 0 := j4
            refine ⟨j1, by show nst R.2.2 + 1 + w ≤ 4; omega, ?_, ?_⟩
            · show hs ts + wsum ((N 103, N 0, N 0) :: tks R.2.2) ≤ hs R.2.1 + 0
              rw [wsum_cons, show tw (N 103, N 0, N 0) = 1 from rfl]; omega
            · show (tks R.2.2).length + 1 + R.2.1.length ≤ ts.length + 0; omega
          · rw [if_neg c3]; exact po_fail h (List.suffix_refl _)
        · rw [if_neg c2]
          by_cases c3 : hk ts = 40
          · rw [if_pos c3]
            by_cases c4 : w < 4
            · rw [if_pos c4]
              obtain ⟨a1, a2, a3, a4, a5⟩ := tlen_le h (by omega)
              obtain ⟨i1, i2, i3⟩ := ih 2 (w + 1) e ts.tail a1 (by omega) (fun g => by omega)
              generalize pP ky n 2 (w + 1) e ts.tail = R at *
              by_cases c5 : R.1 = true
              · rw [if_pos c5]
                by_cases c6 : hk R.2.1 = 41
                · rw [if_pos c6]
                  obtain ⟨b1, b2, b3, b4, b5⟩ := tlen_le i1 (by omega)
                  obtain ⟨j1, j2, j3, j4⟩ := i3 c5
                  have j3 : hs ts.tail + wsum (tks R.2.2) ≤ hs R.2.1 + 0 := j3
                  have j4 : (tks R.2.2).length + R.2.1.length ≤ ts.tail.length + 0 := j4
                  refine ⟨b1, b5.trans (i2.trans a5), fun _ => ⟨⟨rfl, j1⟩, by show nst R.2.2 + 1 + w ≤ 4; omega, ?_, ?_⟩⟩
                  · show hs ts + wsum ((N 40, N 0, N 0) :: (tks R.2.2 ++ [(N 41, N 0, N 0)])) ≤ hs R.2.1.tail + 0
                    rw [wsum_cons, wsum_app, wsum_cons, wsum_nil, show tw (N 40, N 0, N 0) = 1 from rfl, show tw (N 41, N 0, N 0) = 1 from rfl]; omega
                  · show ((N 40, N 0, N 0) :: (tks R.2.2 ++ [(N 41, N 0, N 0)])).length + R.2.1.tail.length ≤ ts.length + 0
                    simp only [List.length_cons, List.length_append, List.length_nil]; omega
                · rw [if_neg c6]; exact po_fail i1 (i2.trans a5)
              · rw [if_neg c5]; exact po_fail i1 (i2.trans a5)
            · rw [if_neg c4]; exact po_fail h (List.suffix_refl _)
          · rw [if_neg c3]
            by_cases c4 : hk ts = 116 ∨ hk ts = 109 ∨ hk ts = 108 ∨ hk ts = 110
            · rw [if_pos c4]; exact pRng_ok hky h hw c4
            · rw [if_neg c4]
              obtain ⟨r1, r2, r3⟩ := pRef_ok hky h
              generalize pRef ky ts = R at *
              refine ⟨r1, ⟨_, r3.choose_spec.symm⟩, fun g => ?_⟩
              obtain ⟨k1, k2, k3⟩ := r2 g
              refine ⟨k1, by show 0 + w ≤ 4; omega, ?_, ?_⟩
              · show hs ts + wsum [rT R.2.2] ≤ hs R.2.1 + 0
                rw [wsum_cons, wsum_nil]; omega
              · show 1 + R.2.1.length ≤ ts.length + 0; omega
    | 1 =>
      rw [pP]
      obtain ⟨i1, i2, i3⟩ := ih 0 w e ts h hw (fun g => by omega)
      generalize pP ky n 0 w e ts = R at *
      by_cases c5 : R.1 = true
      · rw [if_pos c5]
        obtain ⟨j1, j2, j3, j4⟩ := i3 c5
        obtain ⟨k1, k2, k3⟩ := ih 3 w R.2.2 R.2.1 i1 hw (fun _ => ⟨lv_mono (by decide) j1, j2⟩)
        generalize pP ky n 3 w R.2.2 R.2.1 = Q at *
        refine ⟨k1, k2.trans i2, fun g => ?_⟩
        obtain ⟨l1, l2, l3, l4⟩ := k3 g
        have j3 : hs ts + wsum (tks R.2.2) ≤ hs R.2.1 + 0 := j3
        have j4 : (tks R.2.2).length + R.2.1.length ≤ ts.length + 0 := j4
        have l3 : hs R.2.1 + wsum (tks Q.2.2) ≤ hs Q.2.1 + wsum (tks R.2.2) := l3
        have l4 : (tks Q.2.2).length + Q.2.1.length ≤ R.2.1.length + (tks R.2.2).length := l4
        exact ⟨l1, l2, by show _ ≤ _ + 0; omega, by show _ ≤ _ + 0; omega⟩
      · rw [if_neg c5]; exact po_fail i1 i2
    | 2 =>
      rw [pP]
      obtain ⟨i1, i2, i3⟩ := ih 1 w e ts h hw (fun g => by omega)
      generalize pP ky n 1 w e ts = R at *
      by_cases c5 : R.1 = true
      · rw [if_pos c5]
        obtain ⟨j1, j2, j3, j4⟩ := i3 c5
        obtain ⟨k1, k2, k3⟩ := ih 4 w R.2.2 R.2.1 i1 hw (fun _ => ⟨lv_mono (by decide) j1, j2⟩)
        generalize pP ky n 4 w R.2.2 R.2.1 = Q at *
        refine ⟨k1, k2.trans i2, fun g => ?_⟩
        obtain ⟨l1, l2, l3, l4⟩ := k3 g
        have j3 : hs ts + wsum (tks R.2.2) ≤ hs R.2.1 + 0 := j3
        have j4 : (tks R.2.2).length + R.2.1.length ≤ ts.length + 0 := j4
        have l3 : hs R.2.1 + wsum (tks Q.2.2) ≤ hs Q.2.1 + wsum (tks R.2.2) := l3
        have l4 : (tks Q.2.2).length + Q.2.1.length ≤ R.2.1.length + (tks R.2.2).length := l4
        exact ⟨l1, l2, by show _ ≤ _ + 0; omega, by show _ ≤ _ + 0; omega⟩
      · rw [if_neg c5]; exact po_fail i1 i2
    | 3 =>
      obtain ⟨u1, u2⟩ := hu (by omega)
      rw [pP]
      by_cases c1 : hk ts = 42
      · rw [if_pos c1]
        obtain ⟨a1, a2, a3, a4, a5⟩ := tlen_le h (by omega)
        obtain ⟨i1, i2, i3⟩ := ih 0 w e ts.tail a1 hw (fun g => by omega)
        generalize pP ky n 0 w e ts.tail = R at *
        by_cases c5 : R.1 = true
        · rw [if_pos c5]
          obtain ⟨j1, j2, j3, j4⟩ := i3 c5
          have j3 : hs ts.tail + wsum (tks R.2.2) ≤ hs R.2.1 + 0 := j3
          have j4 : (tks R.2.2).length + R.2.1.length ≤ ts.tail.length + 0 := j4
          obtain ⟨k1, k2, k3⟩ := ih 3 w (.mul e R.2.2) R.2.1 i1 hw (fun _ => ⟨⟨Nat.le_refl _, u1, j1⟩, by show max (nst e) (nst R.2.2) + w ≤ 4; omega⟩)
          generalize pP ky n 3 w (.mul e R.2.2) R.2.1 = Q at *
          refine ⟨k1, k2.trans (i2.trans a5), fun g => ?_⟩
          obtain ⟨l1, l2, l3, l4⟩ := k3 g
          have l3 : hs R.2.1 + wsum (tks Q.2.2) ≤ hs Q.2.1 + wsum (tks e ++ (N 42, N 0, N 0) :: tks R.2.2) := l3
          have l4 : (tks Q.2.2).length + Q.2.1.length ≤ R.2.1.length + (tks e ++ (N 42, N 0, N 0) :: tks R.2.2).length := l4
          rw [wsum_app, wsum_cons, show tw (N 42, N 0, N 0) = 1 from rfl] at l3
          simp only [List.length_append, List.length_cons] at l4
          exact ⟨l1, l2, by show _ ≤ _ + wsum (tks e); omega, by show _ ≤ _ + (tks e).length; omega⟩
        · rw [if_neg c5]; exact po_fail i1 (i2.trans a5)
      · rw [if_neg c1]
        exact ⟨h, List.suffix_refl _, fun _ => ⟨u1, u2, Nat.le_refl _, by show (tks e).length + ts.length ≤ ts.length + (tks e).length; omega⟩⟩
    | 4 =>
      obtain ⟨u1, u2⟩ := hu (by omega)
      rw [pP]
      by_cases c1 : hk ts = 43
      · rw [if_pos c1]
        obtain ⟨a1, a2, a3, a4, a5⟩ := tlen_le h (by omega)
        obtain ⟨i1, i2, i3⟩ := ih 1 w e ts.tail a1 hw (fun g => by omega)
        generalize pP ky n 1 w e ts.tail = R at *
        by_cases c5 : R.1 = true
        · rw [if_pos c5]
          obtain ⟨j1, j2, j3, j4⟩ := i3 c5
          have j3 : hs ts.tail + wsum (tks R.2.2) ≤ hs R.2.1 + 0 := j3
          have j4 : (tks R.2.2).length + R.2.1.length ≤ ts.tail.length + 0 := j4
          obtain ⟨k1, k2, k3⟩ := ih 4 w (.add e R.2.2) R.2.1 i1 hw (fun _ => ⟨⟨Nat.le_refl _, u1, j1⟩, by show max (nst e) (nst R.2.2) + w ≤ 4; omega⟩)
          generalize pP ky n 4 w (.add e R.2.2) R.2.1 = Q at *
          refine ⟨k1, k2.trans (i2.trans a5), fun g => ?_⟩
          obtain ⟨l1, l2, l3, l4⟩ := k3 g
          have l3 : hs R.2.1 + wsum (tks Q.2.2) ≤ hs Q.2.1 + wsum (tks e ++ (N 43, N 0, N 0) :: tks R.2.2) := l3
          have l4 : (tks Q.2.2).length + Q.2.1.length ≤ R.2.1.length + (tks e ++ (N 43, N 0, N 0) :: tks R.2.2).length := l4
          rw [wsum_app, wsum_cons, show tw (N 43, N 0, N 0) = 1 from rfl] at l3
          simp only [List.length_append, List.length_cons] at l4
          exact ⟨l1, l2, by show _ ≤ _ + wsum (tks e); omega, by show _ ≤ _ + (tks e).length; omega⟩
        · rw [if_neg c5]; exact po_fail i1 (i2.trans a5)
      · rw [if_neg c1]
        by_cases c2 : hk ts = 45
        · rw [if_pos c2]
          obtain ⟨a1, a2, a3, a4, a5⟩ := tlen_le h (by omega)
          obtain ⟨i1, i2, i3⟩ := ih 1 w e ts.tail a1 hw (fun g => by omega)
          generalize pP ky n 1 w e ts.tail = R at *
          by_cases c5 : R.1 = true
          · rw [if_pos c5]
            obtain ⟨j1, j2, j3, j4⟩ := i3 c5
            have j3 : hs ts.tail + wsum (tks R.2.2) ≤ hs R.2.1 + 0 := j3
            have j4 : (tks R.2.2).length + R.2.1.length ≤ ts.tail.length + 0 := j4
            obtain ⟨k1, k2, k3⟩ := ih 4 w (.sub e R.2.2) R.2.1 i1 hw (fun _ => ⟨⟨Nat.le_refl _, u1, j1⟩, by show max (nst e) (nst R.2.2) + w ≤ 4; omega⟩)
            generalize pP ky n 4 w (.sub e R.2.2) R.2.1 = Q at *
            refine ⟨k1, k2.trans (i2.trans a5), fun g => ?_⟩
            obtain ⟨l1, l2, l3, l4⟩ := k3 g
            have l3 : hs R.2.1 + wsum (tks Q.2.2) ≤ hs Q.2.1 + wsum (tks e ++ (N 45, N 0, N 0) :: tks R.2.2) := l3
            have l4 : (tks Q.2.2).length + Q.2.1.length ≤ R.2.1.length + (tks e ++ (N 45, N 0, N 0) :: tks R.2.2).length := l4
            rw [wsum_app, wsum_cons, show tw (N 45, N 0, N 0) = 1 from rfl] at l3
            simp only [List.length_append, List.length_cons] at l4
            exact ⟨l1, l2, by show _ ≤ _ + wsum (tks e); omega, by show _ ≤ _ + (tks e).length; omega⟩
          · rw [if_neg c5]; exact po_fail i1 (i2.trans a5)
        · rw [if_neg c2]
          exact ⟨h, List.suffix_refl _, fun _ => ⟨u1, u2, Nat.le_refl _, by show (tks e).length + ts.length ≤ ts.length + (tks e).length; omega⟩⟩
    | u + 5 => rw [pP]; exact po_fail h (List.suffix_refl _)
end PARSE
-- the tokens of a tape
theorem mem_tw {f : Nat → Bool} : ∀ {l : List Nat} {x : Nat}, x ∈ l.takeWhile f → f x = true
  | [], x, h => by cases h
  | a :: l, x, h => by
    rw [List.takeWhile_cons] at h
    split at h
    · rename_i e
      rcases List.mem_cons.mp h with rfl | h
      · exact e
      · exact mem_tw h
    · cases h
theorem dval_lt : ∀ (r : List Nat) (ds : List Nat), (∀ c, c ∈ ds → c < 58 ∧ 48 ≤ c) → r = ds.reverse → dval ds < 10 ^ ds.length
  | [], ds, _, e => by
    have : ds = [] := by simpa using e.symm
    subst this; decide
  | c :: r, ds, h, e => by
    have e2 : ds = r.reverse ++ [c] := by rw [← List.reverse_cons, e, List.reverse_reverse]
    have h1 := dval_lt r r.reverse (fun x hx => h x (by rw [e2]; exact List.mem_append_left _ hx)) (by simp)
    have h2 := h c (by rw [e2]; simp)
    rw [e2, dval_snoc, List.length_append, List.length_singleton, Nat.pow_succ]
    omega
theorem nd_le {v k : Nat} (hk : 1 ≤ k) (h : v < 10 ^ k) (h6 : k ≤ 6) : nd v ≤ k := by
  unfold nd
  rcases (show k = 1 ∨ k = 2 ∨ k = 3 ∨ k = 4 ∨ k = 5 ∨ k = 6 by omega) with rfl | rfl | rfl | rfl | rfl | rfl <;> repeat' split
  all_goals omega
theorem tok1_ok {c : Nat} {t : List Nat} : (tok1 c t).1 < 256 ∧ ((tok1 c t).1 = 48 → (tok1 c t).2.1 < 1000000) ∧ ((tok1 c t).1 = 97 → (tok1 c t).2.1 < 3) ∧ ∀ p, tlen ((tok1 c t).1, p, (tok1 c t).2.1) ≤ (tok1 c t).2.2 := by
  have hp := tok1_pos (c := c) (t := t)
  unfold tok1 at hp ⊢
  by_cases h1 : isDg c = true
  · rw [if_pos h1] at hp ⊢
    have hl := dval_lt _ ((c :: t).takeWhile isDg) (fun x hx => by
      have := mem_tw hx
      unfold isDg at this
      rw [Bool.and_eq_true] at this
      have a1 := Nat.le_of_ble_eq_true this.1
      have a2 := Nat.le_of_ble_eq_true this.2
      omega) rfl
    generalize (c :: t).takeWhile isDg = ds at *
    have hp1 : 1 ≤ ds.length := hp.1
    by_cases h6 : 6 < ds.length
    · simp only [if_pos h6]
      exact ⟨by decide, fun g => absurd g (by decide), fun g => absurd g (by decide), fun p => by unfold tlen; exact hp1⟩
    · simp only [if_neg h6]
      have h7 : dval ds < 10 ^ 6 := Nat.lt_of_lt_of_le hl (Nat.pow_le_pow_right (by decide) (by omega))
      exact ⟨by decide, fun _ => h7, fun g => absurd g (by decide), fun p => by unfold tlen; exact nd_le hp1 hl (by omega)⟩
  · rw [if_neg h1] at hp ⊢
    by_cases h2 : isLt c = true
    · rw [if_pos h2] at hp ⊢
      have hc : 97 ≤ c := by
        unfold isLt at h2
        rw [Bool.and_eq_true] at h2
        exact Nat.le_of_ble_eq_true h2.1
      by_cases h3 : ((c :: t).takeWhile isLt).length = 1 ∧ c < 100
      · simp only [if_pos h3]
        exact ⟨by decide, fun g => absurd g (by decide), fun _ => by omega, fun p => Nat.le_refl 1⟩
      · simp only [if_neg h3] at hp ⊢
        generalize (c :: t).takeWhile isLt = ws at *
        have hp1 : 1 ≤ ws.length := hp.1
        unfold wkind
        by_cases w1 : ws = [116, 111, 116, 97, 108]
        · rw [if_pos w1]; subst w1; exact ⟨by decide, fun g => absurd g (by decide), fun g => absurd g (by decide), fun p => Nat.le_refl 5⟩
        · rw [if_neg w1]
          by_cases w2 : ws = [109, 111, 115, 116]
          · rw [if_pos w2]; subst w2; exact ⟨by decide, fun g => absurd g (by decide), fun g => absurd g (by decide), fun p => Nat.le_refl 4⟩
          · rw [if_neg w2]
            by_cases w3 : ws = [108, 101, 97, 115, 116]
            · rw [if_pos w3]; subst w3; exact ⟨by decide, fun g => absurd g (by decide), fun g => absurd g (by decide), fun p => Nat.le_refl 5⟩
            · rw [if_neg w3]
              by_cases w4 : ws = [109, 97, 110, 121]
              · rw [if_pos w4]; subst w4; exact ⟨by decide, fun g => absurd g (by decide), fun g => absurd g (by decide), fun p => Nat.le_refl 4⟩
              · rw [if_neg w4]; exact ⟨by decide, fun g => absurd g (by decide), fun g => absurd g (by decide), fun p => by unfold tlen; exact hp1⟩
    · rw [if_neg h2]
      unfold skind
      by_cases h3 : c = 61 ∨ c = 43 ∨ c = 45 ∨ c = 42 ∨ c = 40 ∨ c = 41 ∨ c = 58 ∨ c = 36 ∨ c = 35
      · simp only [if_pos h3]
        refine ⟨by omega, fun g => by omega, fun g => by omega, fun p => ?_⟩
        unfold tlen
        rw [if_neg (by show ¬ c = 48; omega), if_neg (by show ¬ (c = 116 ∨ c = 108); omega), if_neg (by show ¬ (c = 109 ∨ c = 110); omega)]
        exact Nat.le_refl _
      · simp only [if_neg h3]
        exact ⟨by decide, fun g => absurd g (by decide), fun g => absurd g (by decide), fun p => Nat.le_refl 1⟩
theorem gts_lexx : ∀ (n p : Nat) (r : List Nat), p + r.length ≤ 40 → GTS (lexx n p r) ∧ p ≤ hs (lexx n p r)
  | 0, p, r, h => by
    refine ⟨⟨by simp [lexx], fun i x hx => ?_, fun i x y hx hy => ?_⟩, Nat.le_refl _⟩
    · cases i with
      | zero => cases hx; exact ⟨⟨fun _ => rfl, fun _ => rfl⟩, by show p ≤ 40; omega, (show (0 : Nat) < 256 by decide), fun g => absurd (show (0 : Nat) = 48 from g) (by decide), fun g => absurd (show (0 : Nat) = 97 from g) (by decide)⟩
      | succ i => cases hx
    · cases hy
  | n + 1, p, r, h => by
    have hn : nbl r ≤ r.length := (List.takeWhile_prefix isBl).length_le
    have hdl : (r.drop (nbl r)).length = r.length - nbl r := List.length_drop
    cases hd : r.drop (nbl r) with
    | nil =>
      simp only [lexx, hd]
      refine ⟨⟨by simp, fun i x hx => ?_, fun i x y hx hy => ?_⟩, by show p ≤ p + nbl r; omega⟩
      · cases i with
        | zero => cases hx; exact ⟨⟨fun _ => rfl, fun _ => rfl⟩, by show p + nbl r ≤ 40; omega, (show (0 : Nat) < 256 by decide), fun g => absurd (show (0 : Nat) = 48 from g) (by decide), fun g => absurd (show (0 : Nat) = 97 from g) (by decide)⟩
        | succ i => cases hx
      · cases hy
    | cons c t =>
      simp only [lexx, hd]
      rw [hd] at hdl
      obtain ⟨p1, p2, p3⟩ := tok1_pos (c := c) (t := t)
      obtain ⟨o1, o2, o3, o4⟩ := tok1_ok (c := c) (t := t)
      have hl2 : ((c :: t).drop (tok1 c t).2.2).length = (c :: t).length - (tok1 c t).2.2 := List.length_drop
      obtain ⟨⟨g1, g2, g3⟩, g4⟩ := gts_lexx n (p + nbl r + (tok1 c t).2.2) ((c :: t).drop (tok1 c t).2.2) (by omega)
      generalize lexx n (p + nbl r + (tok1 c t).2.2) ((c :: t).drop (tok1 c t).2.2) = R at *
      have hR : 0 < R.length := List.length_pos_iff.mpr g1
      refine ⟨⟨by simp, fun i x hx => ?_, fun i x y hx hy => ?_⟩, by show p ≤ p + nbl r; omega⟩
      · cases i with
        | zero =>
          cases hx
          exact ⟨⟨fun g => absurd g p3, fun g => by simp only [List.length_cons] at g; omega⟩, by show p + nbl r ≤ 40; omega, o1, o2, o3⟩
        | succ i =>
          have := g2 i x hx
          refine ⟨this.1.trans ⟨fun g => ?_, fun g => ?_⟩, this.2⟩
          · rw [List.length_cons]; omega
          · rw [List.length_cons] at g; omega
      · cases i with
        | zero =>
          cases hx
          have hy : R[0]? = some y := hy
          have e : hs R = y.2.1 := by
            cases R with
            | nil => cases hy
            | cons a b => cases hy; rfl
          have := o4 (p + nbl r)
          show p + nbl r + tlen ((tok1 c t).1, p + nbl r, (tok1 c t).2.1) ≤ y.2.1
          omega
        | succ i => exact g3 i x y hx hy
