/-! A TEXT's grammar, on tokens -/
def hk : List T3 → Nat
  | [] => 0
  | x :: _ => x.1
def hs : List T3 → Nat
  | [] => 0
  | x :: _ => x.2.1
def hf : List T3 → Nat
  | [] => 0
  | x :: _ => x.2.2
/-- how long a token is, at least -/
def tlen (x : T3) : Nat := if x.1 = 48 then nd x.2.2 else if x.1 = 116 ∨ x.1 = 108 then 5 else if x.1 = 109 ∨ x.1 = 110 then 4 else 1
/-- a good row of tokens: END is the last one -/
def GTS (ts : List T3) : Prop := ts ≠ [] ∧ (∀ i x, ts[i]? = some x → (x.1 = 0 ↔ i + 1 = ts.length) ∧ x.2.1 ≤ 40 ∧ x.1 < 256 ∧ (x.1 = 48 → x.2.2 < 1000000) ∧ (x.1 = 97 → x.2.2 < 3)) ∧ ∀ i x y, ts[i]? = some x → ts[i + 1]? = some y → x.2.1 + tlen x ≤ y.2.1
def pRef (ky : Nat → Nat) (ts : List T3) : Bool × List T3 × Nat :=
  if hk ts = 35 then (true, ts.tail, 0)
  else if hk ts = 36 then
    (if hk ts.tail = 97 then (if hk ts.tail.tail = 48 ∧ ky (hf ts.tail.tail) ≠ 0 then (true, ts.tail.tail.tail, 8 * ky (hf ts.tail.tail) + 2 * hf ts.tail + 1) else (false, ts.tail.tail, 0)) else (false, ts.tail, 0))
  else
    (if hk ts = 97 then (if hk ts.tail = 48 ∧ ky (hf ts.tail) ≠ 0 then (true, ts.tail.tail, 8 * ky (hf ts.tail) + 2 * hf ts) else (false, ts.tail, 0)) else (false, ts, 0))
def wcode (k : Nat) : Nat := if k = 116 then 0 else if k = 109 then 1 else if k = 108 then 2 else 3
def pRng (ky : Nat → Nat) (e : Ex) (ts : List T3) : Bool × List T3 × Ex :=
  if hk ts.tail = 40 then
    (if (pRef ky ts.tail.tail).1 = true then
      (if hk (pRef ky ts.tail.tail).2.1 = 58 then
        (if (pRef ky (pRef ky ts.tail.tail).2.1.tail).1 = true then
          (if hk (pRef ky (pRef ky ts.tail.tail).2.1.tail).2.1 = 41 then (true, (pRef ky (pRef ky ts.tail.tail).2.1.tail).2.1.tail, .num ((wcode (hk ts) * 1000000 + (pRef ky ts.tail.tail).2.2 * 1000 + (pRef ky (pRef ky ts.tail.tail).2.1.tail).2.2 : Nat) : Int))
          else (false, (pRef ky (pRef ky ts.tail.tail).2.1.tail).2.1, e))
        else (false, (pRef ky (pRef ky ts.tail.tail).2.1.tail).2.1, e))
      else (false, (pRef ky ts.tail.tail).2.1, e))
    else (false, (pRef ky ts.tail.tail).2.1, e))
  else (false, ts.tail, e)
/-- ONE 0, PART 1, SUM 2, and on from a left side: PART 3, SUM 4 -/
def pP (ky : Nat → Nat) : Nat → Nat → Nat → Ex → List T3 → Bool × List T3 × Ex
  | 0, _, _, e, ts => (false, ts, e)
  | n + 1, 0, w, e, ts =>
    if hk ts = 48 then (true, ts.tail, .natCast (hf ts))
    else if hk ts = 45 then (if w < 4 then ((pP ky n 0 (w + 1) e ts.tail).1, (pP ky n 0 (w + 1) e ts.tail).2.1, .neg (pP ky n 0 (w + 1) e ts.tail).2.2) else (false, ts, e))
    else if hk ts = 40 then (if w < 4 then
        (if (pP ky n 2 (w + 1) e ts.tail).1 = true then (if hk (pP ky n 2 (w + 1) e ts.tail).2.1 = 41 then (true, (pP ky n 2 (w + 1) e ts.tail).2.1.tail, .pow (pP ky n 2 (w + 1) e ts.tail).2.2 0) else (false, (pP ky n 2 (w + 1) e ts.tail).2.1, e)) else (false, (pP ky n 2 (w + 1) e ts.tail).2.1, e))
      else (false, ts, e))
    else if hk ts = 116 ∨ hk ts = 109 ∨ hk ts = 108 ∨ hk ts = 110 then pRng ky e ts
    else ((pRef ky ts).1, (pRef ky ts).2.1, .var (pRef ky ts).2.2)
  | n + 1, 1, w, e, ts => if (pP ky n 0 w e ts).1 = true then pP ky n 3 w (pP ky n 0 w e ts).2.2 (pP ky n 0 w e ts).2.1 else (false, (pP ky n 0 w e ts).2.1, e)
  | n + 1, 2, w, e, ts => if (pP ky n 1 w e ts).1 = true then pP ky n 4 w (pP ky n 1 w e ts).2.2 (pP ky n 1 w e ts).2.1 else (false, (pP ky n 1 w e ts).2.1, e)
  | n + 1, 3, w, e, ts => if hk ts = 42 then (if (pP ky n 0 w e ts.tail).1 = true then pP ky n 3 w (.mul e (pP ky n 0 w e ts.tail).2.2) (pP ky n 0 w e ts.tail).2.1 else (false, (pP ky n 0 w e ts.tail).2.1, e)) else (true, ts, e)
  | n + 1, 4, w, e, ts => if hk ts = 43 then (if (pP ky n 1 w e ts.tail).1 = true then pP ky n 4 w (.add e (pP ky n 1 w e ts.tail).2.2) (pP ky n 1 w e ts.tail).2.1 else (false, (pP ky n 1 w e ts.tail).2.1, e))
    else if hk ts = 45 then (if (pP ky n 1 w e ts.tail).1 = true then pP ky n 4 w (.sub e (pP ky n 1 w e ts.tail).2.2) (pP ky n 1 w e ts.tail).2.1 else (false, (pP ky n 1 w e ts.tail).2.1, e))
    else (true, ts, e)
  | _ + 1, _ + 5, _, e, ts => (false, ts, e)
def wsum (T : List Tk) : Nat := (T.map tw).sum
section PARSE
variable {ky : Nat → Nat} {ts : List T3} {n u w : Nat} {e : Ex}
theorem GTS.tl (h : GTS ts) (h0 : hk ts ≠ 0) : GTS ts.tail ∧ ts.tail.length + 1 = ts.length ∧ hs ts + tlen (ts.headD (0, 0, 0)) ≤ hs ts.tail := by
  obtain ⟨h1, h2, h3⟩ := h
  cases ts with
  | nil => exact absurd rfl h1
  | cons x t =>
    have hx := h2 0 x rfl
    have hne : t ≠ [] := by
      intro g
      subst g
      exact h0 (hx.1.mpr rfl)
    refine ⟨⟨hne, fun i y hy => ?_, fun i y z hy hz => h3 (i + 1) y z hy hz⟩, rfl, ?_⟩
    · have := h2 (i + 1) y hy
      rw [List.length_cons] at this
      refine ⟨this.1.trans ⟨fun g => ?_, fun g => ?_⟩, this.2⟩
      · show i + 1 = t.length; omega
      · have g : i + 1 = t.length := g; omega
    · cases t with
      | nil => exact absurd rfl hne
      | cons y t => exact h3 0 x y rfl rfl
theorem GTS.hd (h : GTS ts) : hs ts ≤ 40 ∧ hk ts < 256 ∧ (hk ts = 48 → hf ts < 1000000) ∧ (hk ts = 97 → hf ts < 3) ∧ 1 ≤ ts.length := by
  obtain ⟨h1, h2, h3⟩ := h
  cases ts with
  | nil => exact absurd rfl h1
  | cons x t =>
    have hx := (h2 0 x rfl).2
    exact ⟨hx.1, hx.2.1, hx.2.2.1, hx.2.2.2, by simp⟩
theorem tlen_hd : tlen (ts.headD (0, 0, 0)) = if hk ts = 48 then nd (hf ts) else if hk ts = 116 ∨ hk ts = 108 then 5 else if hk ts = 109 ∨ hk ts = 110 then 4 else 1 := by
  cases ts with
  | nil => rfl
  | cons x t => rfl
theorem tlen_1 : 1 ≤ tlen (ts.headD (0, 0, 0)) := by
  rw [tlen_hd]
  split
  · exact nd_pos _
  · split
    · decide
    · split <;> decide
/-- what a read ref is -/
theorem pRef_ok (hky : ∀ v, ky v < 100) (h : GTS ts) : GTS (pRef ky ts).2.1 ∧ ((pRef ky ts).1 = true → rK (pRef ky ts).2.2 ∧ (pRef ky ts).2.1.length < ts.length ∧ hs ts + tw (rT (pRef ky ts).2.2) ≤ hs (pRef ky ts).2.1) ∧ (∃ pre, ts = pre ++ (pRef ky ts).2.1) := by
  have suf : ∀ l : List T3, ∃ pre, l = pre ++ l.tail := fun l => by
    cases l with
    | nil => exact ⟨[], rfl⟩
    | cons x t => exact ⟨[x], rfl⟩
  have suf2 : ∀ l : List T3, ∃ pre, l = pre ++ l.tail.tail := fun l => by
    obtain ⟨a, ha⟩ := suf l
    obtain ⟨b, hb⟩ := suf l.tail
    exact ⟨a ++ b, by rw [List.append_assoc, ← hb]; exact ha⟩
  have suf3 : ∀ l : List T3, ∃ pre, l = pre ++ l.tail.tail.tail := fun l => by
    obtain ⟨a, ha⟩ := suf2 l
    obtain ⟨b, hb⟩ := suf l.tail.tail
    exact ⟨a ++ b, by rw [List.append_assoc, ← hb]; exact ha⟩
  have nof : ∀ {P : Prop}, (false = true) → P := fun h => by cases h
  unfold pRef
  by_cases h35 : hk ts = 35
  · rw [if_pos h35]
    obtain ⟨g1, g2, g3⟩ := h.tl (by omega)
    have := tlen_1 (ts := ts)
    exact ⟨g1, fun _ => ⟨(show rK 0 from ⟨by decide, by decide, fun g => absurd g (by decide)⟩), by show ts.tail.length < _; omega, by show hs ts + tw (rT 0) ≤ hs ts.tail; have e : tw (rT 0) = 1 := rfl; omega⟩, suf ts⟩
  · rw [if_neg h35]
    by_cases h36 : hk ts = 36
    · rw [if_pos h36]
      obtain ⟨g1, g2, g3⟩ := h.tl (by omega)
      have t1 := tlen_1 (ts := ts)
      by_cases h97 : hk ts.tail = 97
      · rw [if_pos h97]
        obtain ⟨k1, k2, k3⟩ := g1.tl (by omega)
        have t2 := tlen_1 (ts := ts.tail)
        have hc := g1.hd.2.2.2.1 h97
        by_cases h48 : hk ts.tail.tail = 48 ∧ ky (hf ts.tail.tail) ≠ 0
        · rw [if_pos h48]
          obtain ⟨m1, m2, m3⟩ := k1.tl (by omega)
          have t3 := tlen_1 (ts := ts.tail.tail)
          have hk1 := hky (hf ts.tail.tail)
          have hk0 := h48.2
          refine ⟨m1, fun _ => ⟨⟨?_, ?_, fun _ => ?_⟩, by show ts.tail.tail.tail.length < _; omega, ?_⟩, suf3 ts⟩
          · show (8 * ky (hf ts.tail.tail) + 2 * hf ts.tail + 1) / 8 < 100; omega
          · show (8 * ky (hf ts.tail.tail) + 2 * hf ts.tail + 1) / 2 % 4 < 3; omega
          · show 1 ≤ (8 * ky (hf ts.tail.tail) + 2 * hf ts.tail + 1) / 8; omega
          · show hs ts + tw (rT (8 * ky (hf ts.tail.tail) + 2 * hf ts.tail + 1)) ≤ hs ts.tail.tail.tail
            have e1 : (rT (8 * ky (hf ts.tail.tail) + 2 * hf ts.tail + 1)).1 = N 115 := if_pos (by omega)
            have e : tw (rT (8 * ky (hf ts.tail.tail) + 2 * hf ts.tail + 1)) = 3 := by
              unfold tw
              rw [if_neg (by rw [e1]; decide), if_neg (by rw [e1]; decide), if_pos e1]
            omega
        · rw [if_neg h48]
          exact ⟨k1, nof, suf2 ts⟩
      · rw [if_neg h97]
        exact ⟨g1, nof, suf ts⟩
    · rw [if_neg h36]
      by_cases h97 : hk ts = 97
      · rw [if_pos h97]
        obtain ⟨k1, k2, k3⟩ := h.tl (by omega)
        have t2 := tlen_1 (ts := ts)
        have hc := h.hd.2.2.2.1 h97
        by_cases h48 : hk ts.tail = 48 ∧ ky (hf ts.tail) ≠ 0
        · rw [if_pos h48]
          obtain ⟨m1, m2, m3⟩ := k1.tl (by omega)
          have t3 := tlen_1 (ts := ts.tail)
          have hk1 := hky (hf ts.tail)
          have hk0 := h48.2
          refine ⟨m1, fun _ => ⟨⟨?_, ?_, fun g => ?_⟩, by show ts.tail.tail.length < _; omega, ?_⟩, suf2 ts⟩
          · show (8 * ky (hf ts.tail) + 2 * hf ts) / 8 < 100; omega
          · show (8 * ky (hf ts.tail) + 2 * hf ts) / 2 % 4 < 3; omega
          · have g : (8 * ky (hf ts.tail) + 2 * hf ts) % 2 = 1 := g; omega
          · show hs ts + tw (rT (8 * ky (hf ts.tail) + 2 * hf ts)) ≤ hs ts.tail.tail
            have e1 : (rT (8 * ky (hf ts.tail) + 2 * hf ts)).1 = N 114 := if_neg (by omega)
            have e2 : (rT (8 * ky (hf ts.tail) + 2 * hf ts)).2.2 = N ((8 * ky (hf ts.tail) + 2 * hf ts) / 8) := rfl
            have e : tw (rT (8 * ky (hf ts.tail) + 2 * hf ts)) = 2 := by
              unfold tw
              rw [if_neg (by rw [e1]; decide), if_pos e1, e2, if_neg]
              rw [N_inj (by omega) (by decide)]; omega
            omega
        · rw [if_neg h48]
          exact ⟨k1, nof, suf ts⟩
      · rw [if_neg h97]
        exact ⟨h, nof, ⟨[], rfl⟩⟩
end PARSE
