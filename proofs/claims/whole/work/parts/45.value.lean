/-! VALUES: what a tree, what a cell is worth -/
abbrev LO : Int32 := -(N 5)
abbrev RI : Int32 := -(N 6)
abbrev VT : Type := Int32 × Int32
abbrev VR : Type := Option (Int32 × Int32)
def sq (x : VR) (f : Int32 → VR) : VR := x.bind fun p => if p.1 = N 0 then f p.2 else some (p.1, N 0)
def evE (L R : Nat → VR) : Ex → VR
  | .natCast v => some (N 0, N v)
  | .var i => L i
  | .num k => R k.toNat
  | .neg a => sq (evE L R a) fun x => some (N 0, -x)
  | .pow a _ => evE L R a
  | .add a b => sq (evE L R a) fun x => sq (evE L R b) fun y => some (N 0, x + y)
  | .sub a b => sq (evE L R a) fun x => sq (evE L R b) fun y => some (N 0, x - y)
  | .mul a b => sq (evE L R a) fun x => sq (evE L R b) fun y => some (N 0, x * y)
  | .intCast _ => none
/-- where a ref leads -/
def refC (G : List (RW (List Tk))) (i : Nat) : Option (Nat × Nat) := if i / 8 = 0 then none else (lfind (N (i / 8)) G).map fun p => (p, i / 2 % 4)
def evL (G : List (RW (List Tk))) (C : Nat → Nat → VR) (i : Nat) : VR := match refC G i with
  | none => some (LO, N 0)
  | some q => C q.1 q.2
def jn (w : Nat) (a : Option Int32) (v : Int32) : Int32 := match a with
  | none => v
  | some x => if w = 0 then x + v else if w = 1 then imax x v else imin x v
def rfd (w : Nat) (C : Nat → Nat → VR) : List (Nat × Nat) → Option Int32 → VR
  | [], a => some (N 0, a.getD (N 0))
  | q :: l, a => sq (C q.1 q.2) fun v => rfd w C l (some (jn w a v))
def rrow (q r : Nat × Nat) (p : Nat) : List (Nat × Nat) := (List.range' (min q.2 r.2) (max q.2 r.2 + 1 - min q.2 r.2)).map fun c => (p, c)
def rcells (q r : Nat × Nat) : List (Nat × Nat) := (List.range' (min q.1 r.1) (max q.1 r.1 + 1 - min q.1 r.1)).flatMap (rrow q r)
def isFull (G : List (RW (List Tk))) (x : Nat × Nat) : Bool := !((cO [] G (some x.1) x.2).1 == N 0)
def evR (G : List (RW (List Tk))) (C : Nat → Nat → VR) (k : Nat) : VR := match refC G (k / 1000 % 1000), refC G (k % 1000) with
  | some q, some r => if k / 1000000 = 3 then some (N 0, N ((rcells q r).countP (isFull G))) else rfd (k / 1000000) C (rcells q r) none
  | _, _ => some (LO, N 0)
noncomputable def evC (G : List (RW (List Tk))) : Nat → Nat → Nat → VR
  | 0, _, _ => none
  | n + 1, p, c => if (cO [] G (some p) c).1 = N 2 then evE (evL G (evC G n)) (evR G (evC G n)) (tree (cO [] G (some p) c).2.2.1) else some (N 0, (cO [] G (some p) c).2.1)
noncomputable def evN (G : List (RW (List Tk))) (n : Nat) (e : Ex) : VR := evE (evL G (evC G n)) (evR G (evC G n)) e
noncomputable def vlC (G : List (RW (List Tk))) (p c : Nat) : VT :=
  haveI := Classical.propDecidable (∃ (n : Nat) (r : VT), evC G n p c = some r)
  if h : ∃ (n : Nat) (r : VT), evC G n p c = some r then Classical.choose (Classical.choose_spec h) else (RI, N 0)
-- the same, with every value known
def sqt (x : VT) (f : Int32 → VT) : VT := if x.1 = N 0 then f x.2 else (x.1, N 0)
noncomputable def tL (G : List (RW (List Tk))) (i : Nat) : VT := match refC G i with
  | none => (LO, N 0)
  | some q => vlC G q.1 q.2
noncomputable def tfd (G : List (RW (List Tk))) (w : Nat) : List (Nat × Nat) → Option Int32 → VT
  | [], a => (N 0, a.getD (N 0))
  | q :: l, a => sqt (vlC G q.1 q.2) fun v => tfd G w l (some (jn w a v))
noncomputable def tR (G : List (RW (List Tk))) (k : Nat) : VT := match refC G (k / 1000 % 1000), refC G (k % 1000) with
  | some q, some r => if k / 1000000 = 3 then (N 0, N ((rcells q r).countP (isFull G))) else tfd G (k / 1000000) (rcells q r) none
  | _, _ => (LO, N 0)
noncomputable def tvE (G : List (RW (List Tk))) : Ex → VT
  | .natCast v => (N 0, N v)
  | .var i => tL G i
  | .num k => tR G k.toNat
  | .neg a => sqt (tvE G a) fun x => (N 0, -x)
  | .pow a _ => tvE G a
  | .add a b => sqt (tvE G a) fun x => sqt (tvE G b) fun y => (N 0, x + y)
  | .sub a b => sqt (tvE G a) fun x => sqt (tvE G b) fun y => (N 0, x - y)
  | .mul a b => sqt (tvE G a) fun x => sqt (tvE G b) fun y => (N 0, x * y)
  | .intCast _ => (RI, N 0)
section VAL
variable {G : List (RW (List Tk))} {n m p c : Nat} {r s : VT}
theorem sq_up {x y : VR} {f g : Int32 → VR} (h1 : ∀ a, x = some a → y = some a) (h2 : ∀ v, f v = some r → g v = some r) (h : sq x f = some r) : sq y g = some r :=
  obind_up h1 (fun a ha => by
    split at ha
    · rename_i c; rw [if_pos c]; exact h2 _ ha
    · rename_i c; rw [if_neg c]; exact ha) h
theorem rfd_up {w : Nat} {C C' : Nat → Nat → VR} (h : ∀ p c r, C p c = some r → C' p c = some r) : ∀ (l : List (Nat × Nat)) (a : Option Int32) (r : VT), rfd w C l a = some r → rfd w C' l a = some r
  | [], _, _, e => e
  | q :: l, a, r, e => sq_up (h q.1 q.2) (fun v => rfd_up h l _ r) e
theorem evL_up {C C' : Nat → Nat → VR} (h : ∀ p c r, C p c = some r → C' p c = some r) {i : Nat} (e : evL G C i = some r) : evL G C' i = some r := by
  unfold evL at e ⊢
  split
  · rename_i q; rw [q] at e; exact e
  · rename_i q; rw [q] at e; exact h _ _ _ e
theorem evR_up {C C' : Nat → Nat → VR} (h : ∀ p c r, C p c = some r → C' p c = some r) {i : Nat} (e : evR G C i = some r) : evR G C' i = some r := by
  unfold evR at e ⊢
  split
  · rename_i q1 q2
    rw [q1, q2] at e
    simp only at e
    split
    · rename_i c; rw [if_pos c] at e; exact e
    · rename_i c; rw [if_neg c] at e; exact rfd_up h _ _ _ e
  · rename_i hn
    split at e
    · rename_i q1 q2; exact absurd q2 (hn _ _ q1)
    · exact e
theorem evE_up {L L' R R' : Nat → VR} (hL : ∀ i r, L i = some r → L' i = some r) (hR : ∀ i r, R i = some r → R' i = some r) : ∀ (e : Ex) (r : VT), evE L R e = some r → evE L' R' e = some r := by
  intro e
  induction e with
  | natCast v => exact fun r h => h
  | var i => exact fun r h => hL i r h
  | num k => exact fun r h => hR _ r h
  | neg a ih => exact fun r h => sq_up ih (fun v g => g) h
  | pow a k ih => exact ih
  | add a b iha ihb => exact fun r h => sq_up iha (fun v => sq_up ihb (fun w g => g)) h
  | sub a b iha ihb => exact fun r h => sq_up iha (fun v => sq_up ihb (fun w g => g)) h
  | mul a b iha ihb => exact fun r h => sq_up iha (fun v => sq_up ihb (fun w g => g)) h
  | intCast k => exact fun r h => h
theorem evC_up : ∀ {n : Nat} {p c : Nat} {r : VT}, evC G n p c = some r → evC G (n + 1) p c = some r
  | 0, _, _, _, h => by simp [evC] at h
  | n + 1, p, c, r, h => by
    rw [evC] at h ⊢
    split
    · rename_i c1
      rw [if_pos c1] at h
      exact evE_up (fun i r => evL_up (fun _ _ _ => evC_up)) (fun i r => evR_up (fun _ _ _ => evC_up)) _ _ h
    · rename_i c1; rw [if_neg c1] at h; exact h
theorem evC_le (h : evC G n p c = some r) (hm : n ≤ m) : evC G m p c = some r := by
  obtain ⟨k, rfl⟩ := Nat.exists_eq_add_of_le hm
  clear hm
  induction k with
  | zero => exact h
  | succ k ih => exact evC_up ih
theorem evN_up {e : Ex} (h : evN G n e = some r) : evN G (n + 1) e = some r := evE_up (fun i r => evL_up (fun _ _ _ => evC_up)) (fun i r => evR_up (fun _ _ _ => evC_up)) _ _ h
/-- what a row of answers, fuller and fuller, comes to -/
def Lim (x : Nat → VR) (r : VT) : Prop := (∀ n, x n = none ∨ x n = some r) ∧ ((∃ n, ∀ m, n ≤ m → x m = some r) ∨ (r = (RI, N 0) ∧ ∀ n, x n = none))
theorem Lim.uniq {x : Nat → VR} (h : Lim x r) (h' : Lim x s) : r = s := by
  rcases h with ⟨-, ⟨n, h⟩ | ⟨h, hn⟩⟩
  · rcases h' with ⟨-, ⟨m, h'⟩ | ⟨h', hn⟩⟩
    · exact Option.some.inj ((h _ (Nat.le_max_left n m)).symm.trans (h' _ (Nat.le_max_right n m)))
    · have := h n (Nat.le_refl n); rw [hn] at this; cases this
  · rcases h' with ⟨-, ⟨m, h'⟩ | ⟨h', -⟩⟩
    · have := h' m (Nat.le_refl m); rw [hn] at this; cases this
    · rw [h, h']
theorem lim_some : Lim (fun _ => some r) r := ⟨fun _ => Or.inr rfl, Or.inl ⟨0, fun _ _ => rfl⟩⟩
theorem lim_none : Lim (fun _ => none) (RI, N 0) := ⟨fun _ => Or.inl rfl, Or.inr ⟨rfl, fun _ => rfl⟩⟩
theorem ri_ne : ¬ RI = N 0 := by decide
theorem lo_ne : ¬ LO = N 0 := by decide
theorem lim_sq {x : Nat → VR} {f : Nat → Int32 → VR} {g : Int32 → VT} (h : Lim x r) (hf : r.1 = N 0 → Lim (fun n => f n r.2) (g r.2)) : Lim (fun n => sq (x n) (f n)) (sqt r g) := by
  have e1 : ∀ k, x k = none → sq (x k) (f k) = none := fun k hk => by rw [hk]; rfl
  have e2 : ∀ k, x k = some r → sq (x k) (f k) = if r.1 = N 0 then f k r.2 else some (r.1, N 0) := fun k hk => by rw [hk]; rfl
  obtain ⟨h0, h⟩ := h
  by_cases e : r.1 = N 0
  · obtain ⟨f0, hf⟩ := hf e
    have e3 : sqt r g = g r.2 := if_pos e
    rw [e3]
    refine ⟨fun k => ?_, ?_⟩
    · rcases h0 k with hk | hk
      · exact Or.inl (e1 k hk)
      · show sq (x k) (f k) = none ∨ sq (x k) (f k) = some (g r.2)
        rw [e2 k hk, if_pos e]; exact f0 k
    · rcases h with ⟨n, h⟩ | ⟨h, hn⟩
      · rcases hf with ⟨m, hm⟩ | ⟨h2, hm⟩
        · refine Or.inl ⟨max n m, fun k hk => ?_⟩
          show sq (x k) (f k) = some (g r.2)
          rw [e2 k (h k (by omega)), if_pos e]; exact hm k (by omega)
        · refine Or.inr ⟨h2, fun k => ?_⟩
          rcases h0 k with hk | hk
          · exact e1 k hk
          · show sq (x k) (f k) = none
            rw [e2 k hk, if_pos e]; exact hm k
      · rw [h] at e; exact absurd e ri_ne
  · have e3 : sqt r g = (r.1, N 0) := if_neg e
    rw [e3]
    refine ⟨fun k => ?_, ?_⟩
    · rcases h0 k with hk | hk
      · exact Or.inl (e1 k hk)
      · exact Or.inr ((e2 k hk).trans (if_neg e))
    · rcases h with ⟨n, h⟩ | ⟨h, hn⟩
      · exact Or.inl ⟨n, fun k hk => (e2 k (h k hk)).trans (if_neg e)⟩
      · exact Or.inr ⟨by rw [h], fun k => e1 k (hn k)⟩
theorem vlC_lim : Lim (fun n => evC G n p c) (vlC G p c) := by
  by_cases h : ∃ (n : Nat) (r : VT), evC G n p c = some r
  · have e : vlC G p c = Classical.choose (Classical.choose_spec h) := by unfold vlC; rw [dif_pos h]
    have e2 := Classical.choose_spec (Classical.choose_spec h)
    rw [← e] at e2
    generalize Classical.choose h = n at e2
    refine ⟨fun m => ?_, Or.inl ⟨n, fun m hm => evC_le e2 hm⟩⟩
    cases e3 : evC G m p c with
    | none => exact Or.inl e3
    | some r => exact Or.inr (e3.trans <| (evC_le e3 (Nat.le_max_right n m)).symm.trans (evC_le e2 (Nat.le_max_left n m)))
  · have e : vlC G p c = (RI, N 0) := by unfold vlC; rw [dif_neg h]
    have hn : ∀ n, evC G n p c = none := fun n => by
      cases e3 : evC G n p c with
      | none => rfl
      | some r => exact absurd ⟨n, r, e3⟩ h
    exact ⟨fun n => Or.inl (hn n), Or.inr ⟨e, hn⟩⟩
theorem lim_fd {w : Nat} : ∀ (l : List (Nat × Nat)) (a : Option Int32), Lim (fun n => rfd w (evC G n) l a) (tfd G w l a)
  | [], _ => lim_some
  | q :: l, a => lim_sq (f := fun n v => rfd w (evC G n) l (some (jn w a v))) vlC_lim (fun _ => lim_fd l _)
theorem lim_L {i : Nat} : Lim (fun n => evL G (evC G n) i) (tL G i) := by
  unfold evL tL
  cases refC G i with
  | none => exact lim_some
  | some q => exact vlC_lim
theorem lim_R {k : Nat} : Lim (fun n => evR G (evC G n) k) (tR G k) := by
  unfold evR tR
  cases refC G (k / 1000 % 1000) with
  | none => exact lim_some
  | some q =>
    cases refC G (k % 1000) with
    | none => exact lim_some
    | some r =>
      simp only
      by_cases e : k / 1000000 = 3
      · simp only [if_pos e]; exact lim_some
      · simp only [if_neg e]; exact lim_fd _ _
theorem lim_E (e : Ex) : Lim (fun n => evN G n e) (tvE G e) := by
  induction e with
  | natCast v => exact lim_some
  | var i => exact lim_L
  | num k => exact lim_R
  | neg a ih => exact lim_sq (f := fun _ x => some (N 0, -x)) ih (fun _ => lim_some)
  | pow a k ih => exact ih
  | add a b iha ihb => exact lim_sq (f := fun n x => sq (evN G n b) fun y => some (N 0, x + y)) iha (fun _ => lim_sq (f := fun _ y => some (N 0, _ + y)) ihb (fun _ => lim_some))
  | sub a b iha ihb => exact lim_sq (f := fun n x => sq (evN G n b) fun y => some (N 0, x - y)) iha (fun _ => lim_sq (f := fun _ y => some (N 0, _ - y)) ihb (fun _ => lim_some))
  | mul a b iha ihb => exact lim_sq (f := fun n x => sq (evN G n b) fun y => some (N 0, x * y)) iha (fun _ => lim_sq (f := fun _ y => some (N 0, _ * y)) ihb (fun _ => lim_some))
  | intCast k => exact lim_none
theorem Lim.pred {x : Nat → VR} (h : Lim x r) : Lim (fun n => x (n + 1)) r := by
  refine ⟨fun n => h.1 (n + 1), ?_⟩
  rcases h.2 with ⟨n, h⟩ | ⟨h, hn⟩
  · exact Or.inl ⟨n, fun m hm => h _ (by omega)⟩
  · exact Or.inr ⟨h, fun n => hn _⟩
/-- what a cell is worth -/
theorem vlC_eq : vlC G p c = if (cO [] G (some p) c).1 = N 2 then tvE G (tree (cO [] G (some p) c).2.2.1) else (N 0, (cO [] G (some p) c).2.1) := by
  refine (vlC_lim (G := G) (p := p) (c := c)).pred.uniq ?_
  simp only [evC]
  split
  · exact lim_E _
  · exact lim_some
-- who is needed
/-- t is needed ahead of s -/
def Dp (G : List (RW (List Tk))) (s t : Nat × Nat) : Prop := ∀ n, evC G (n + 1) s.1 s.2 ≠ none → evC G n t.1 t.2 ≠ none
theorem Dp.ring {t : Nat × Nat} (h : Dp G t t) : vlC G t.1 t.2 = (RI, N 0) := by
  have hn : ∀ n, evC G n t.1 t.2 = none := by
    intro n
    induction n with
    | zero => rfl
    | succ n ih =>
      cases e : evC G (n + 1) t.1 t.2 with
      | none => rfl
      | some r => exact absurd ih (h n (by rw [e]; exact fun g => by cases g))
  exact (vlC_lim (G := G)).uniq ⟨fun n => Or.inl (hn n), Or.inr ⟨rfl, hn⟩⟩
theorem Dp.trans {s t u : Nat × Nat} (h : Dp G s t) (h' : Dp G t u) : Dp G s u := by
  intro n hs
  cases n with
  | zero => exact absurd rfl (h 0 hs)
  | succ n =>
    have h2 := h' n (h _ hs)
    cases e : evC G n u.1 u.2 with
    | none => exact absurd e h2
    | some r => rw [evC_up e]; exact fun g => by cases g
/-- whoever asks for s needs what n tells of -/
def Nd (G : List (RW (List Tk))) (s : Nat × Nat) (x : Nat → VR) : Prop := ∀ n, evC G (n + 1) s.1 s.2 ≠ none → x n ≠ none
theorem sq_ne {x : VR} {f : Int32 → VR} (h : sq x f ≠ none) : x ≠ none := fun e => h (by rw [e]; rfl)
theorem nd_l {s : Nat × Nat} {x : Nat → VR} {f : Nat → Int32 → VR} (h : Nd G s (fun n => sq (x n) (f n))) : Nd G s x := fun n hn => sq_ne (h n hn)
theorem nd_r {s : Nat × Nat} {x : Nat → VR} {f : Nat → Int32 → VR} (h : Nd G s (fun n => sq (x n) (f n))) (hx : Lim x r) (hr : r.1 = N 0) : Nd G s (fun n => f n r.2) := by
  intro n hn
  have h1 := h n hn
  have h2 := sq_ne h1
  rcases hx.1 n with e | e
  · exact absurd e h2
  · intro g
    refine h1 ?_
    simp only [e, sq, Option.bind_some, if_pos hr]
    exact g
theorem nd_E {q : Nat × Nat} (h : (cO [] G (some q.1) q.2).1 = N 2) : Nd G q (fun n => evN G n (tree (cO [] G (some q.1) q.2).2.2.1)) := by
  intro n hn
  rw [evC, if_pos h] at hn
  exact hn
theorem sqt_z {x : VT} {f : Int32 → VT} (h : ∀ v, (f v).1 ≠ N 0 → (f v).2 = N 0) : (sqt x f).1 ≠ N 0 → (sqt x f).2 = N 0 := by
  unfold sqt
  split
  · exact h _
  · exact fun _ => rfl
theorem sqt_0 {v : Int32} {f : Int32 → VT} : sqt (N 0, v) f = f v := if_pos rfl
theorem sqt_w {x : VT} {f : Int32 → VT} (h : x.1 ≠ N 0) : sqt x f = (x.1, N 0) := if_neg h
end VAL
