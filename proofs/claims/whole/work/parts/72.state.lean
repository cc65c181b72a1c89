/-! THE CLASS's OBJECT holds what is held -/
/-- a piece of the memory stays -/
def AgR (lo hi : Nat) (μ μ' : jM) : Prop := ∀ a, lo ≤ a → a < hi → jk μ' a = jk μ a ∧ jl μ' a = jl μ a ∧ jiv μ' a = jiv μ a ∧ jrv μ' a = jrv μ a
section AGREE
variable {μ μ' μ'' : jM} {S S' : Nat → Prop} {T T' : Nat → Nat → Prop} {n w m v lo hi a b r q s D d X : Nat} {σ σ' : SG}
theorem Fa.ag (F : Fa S T n w μ μ') (hz : hi ≤ jsz μ) (hS : ∀ a, lo ≤ a → a < hi → ¬ S a) (hT : ∀ a j, lo ≤ a → a < hi → ¬ T a j) : AgR lo hi μ μ' := fun a h1 h2 =>
  ⟨F.kk (by omega), F.ll (by omega), F.iv (by omega) (hS a h1 h2), by funext j; exact F.rv (by omega) (hT a j h1 h2)⟩
theorem CV.ag (h : CV μ a) (A : AgR lo hi μ μ') (h1 : lo ≤ a) (h2 : a + 5 ≤ hi) : CV μ' a ∧ cL μ' a = cL μ a := by
  have e0 := A (a) (by omega) (by omega); have e1 := A (a + 1) (by omega) (by omega); have e2 := A (a + 2) (by omega) (by omega); have e3 := A (a + 3) (by omega) (by omega); have e4 := A (a + 4) (by omega) (by omega)
  unfold CV cL cN at *
  simp only [e0.1, e0.2.1, e0.2.2.1, e0.2.2.2, e1.1, e1.2.1, e1.2.2.1, e1.2.2.2, e2.1, e2.2.1, e2.2.2.1, e2.2.2.2, e3.1, e3.2.1, e3.2.2.1, e3.2.2.2, e4.1, e4.2.1, e4.2.2.1, e4.2.2.2]
  exact ⟨h, trivial⟩
theorem RV.ag (h : RV μ a) (A : AgR lo hi μ μ') (h1 : lo ≤ a) (h2 : a + 3 ≤ hi) : RV μ' a ∧ rL μ' a = rL μ a := by
  have e0 := A (a) (by omega) (by omega); have e1 := A (a + 1) (by omega) (by omega); have e2 := A (a + 2) (by omega) (by omega)
  unfold RV rL at *
  simp only [e0.1, e0.2.1, e0.2.2.1, e0.2.2.2, e1.1, e1.2.1, e1.2.2.1, e1.2.2.2, e2.1, e2.2.1, e2.2.2.1, e2.2.2.2]
  exact ⟨h, trivial⟩
theorem AQ.ag (h : AQ μ a) (A : AgR lo hi μ μ') (h1 : lo ≤ a) (h2 : a + 4 ≤ hi) : AQ μ' a := by
  have e0 := A (a) (by omega) (by omega); have e1 := A (a + 1) (by omega) (by omega); have e2 := A (a + 2) (by omega) (by omega); have e3 := A (a + 3) (by omega) (by omega)
  unfold AQ at *
  simp only [e0.1, e0.2.1, e0.2.2.1, e0.2.2.2, e1.1, e1.2.1, e1.2.2.1, e1.2.2.2, e2.1, e2.2.1, e2.2.2.1, e2.2.2.2, e3.1, e3.2.1, e3.2.2.1, e3.2.2.2]
  exact h
theorem TQ.ag (h : TQ μ a) (A : AgR lo hi μ μ') (h1 : lo ≤ a) (h2 : a + 5 ≤ hi) : TQ μ' a := by
  have e0 := A (a) (by omega) (by omega); have e1 := A (a + 1) (by omega) (by omega); have e2 := A (a + 2) (by omega) (by omega); have e3 := A (a + 3) (by omega) (by omega); have e4 := A (a + 4) (by omega) (by omega)
  unfold TQ at *
  simp only [e0.1, e0.2.1, e0.2.2.1, e0.2.2.2, e1.1, e1.2.1, e1.2.2.1, e1.2.2.2, e2.1, e2.2.1, e2.2.2.1, e2.2.2.2, e3.1, e3.2.1, e3.2.2.1, e3.2.2.2, e4.1, e4.2.1, e4.2.2.1, e4.2.2.2]
  exact h
theorem RQ.ag (h : RQ μ a) (A : AgR lo hi μ μ') (h1 : lo ≤ a) (h2 : a + 10 ≤ hi) : RQ μ' a := by
  have e0 := A (a) (by omega) (by omega); have e1 := A (a + 1) (by omega) (by omega); have e2 := A (a + 2) (by omega) (by omega); have e3 := A (a + 3) (by omega) (by omega); have e4 := A (a + 4) (by omega) (by omega); have e5 := A (a + 5) (by omega) (by omega); have e6 := A (a + 6) (by omega) (by omega); have e7 := A (a + 7) (by omega) (by omega); have e8 := A (a + 8) (by omega) (by omega); have e9 := A (a + 9) (by omega) (by omega)
  unfold RQ at *
  simp only [e0.1, e0.2.1, e0.2.2.1, e0.2.2.2, e1.1, e1.2.1, e1.2.2.1, e1.2.2.2, e2.1, e2.2.1, e2.2.2.1, e2.2.2.2, e3.1, e3.2.1, e3.2.2.1, e3.2.2.2, e4.1, e4.2.1, e4.2.2.1, e4.2.2.2, e5.1, e5.2.1, e5.2.2.1, e5.2.2.2, e6.1, e6.2.1, e6.2.2.1, e6.2.2.2, e7.1, e7.2.1, e7.2.2.1, e7.2.2.2, e8.1, e8.2.1, e8.2.2.1, e8.2.2.2, e9.1, e9.2.1, e9.2.2.1, e9.2.2.2]
  exact h
theorem TB.ag {bs : List Nat} (h : TB μ a bs) (A : AgR lo hi μ μ') (h1 : lo ≤ a) (h2 : a + 2 ≤ hi) : TB μ' a bs := by
  have e0 := A (a) (by omega) (by omega); have e1 := A (a + 1) (by omega) (by omega)
  exact h.fr (by rw [e0.2.2.1]) e1.2.2.1
theorem Gs.ag (h : Gs μ a) (hj : JW μ) (F : Fa S T n w μ μ') (A : AgR lo hi μ μ') (h1 : lo ≤ a) (h2 : a + 6 ≤ hi) : Gs μ' a := by
  have e0 := A (a) (by omega) (by omega); have e1 := A (a + 1) (by omega) (by omega); have e2 := A (a + 2) (by omega) (by omega); have e3 := A (a + 3) (by omega) (by omega); have e4 := A (a + 4) (by omega) (by omega); have e5 := A (a + 5) (by omega) (by omega)
  have hf := h.2.2
  unfold Gs at *
  simp only [e0.1, e0.2.1, e0.2.2.1, e0.2.2.2, e1.1, e1.2.1, e1.2.2.1, e1.2.2.2, e2.1, e2.2.1, e2.2.2.1, e2.2.2.2, e3.1, e3.2.1, e3.2.2.1, e3.2.2.2, e4.1, e4.2.1, e4.2.2.1, e4.2.2.2, e5.1, e5.2.1, e5.2.2.1, e5.2.2.2]
  exact ⟨h.1, h.2.1, fun j b hb => by rw [F.kk (hj.lt (ne99 (hf j b hb) (by decide)))]; exact hf j b hb⟩
theorem MV.ag (h : MV μ D a) (hj : JW μ) (F : Fa S T n w μ μ') (A : AgR lo hi μ μ') (h1 : lo ≤ a) (h2 : a + 12 ≤ hi) : MV μ' D a := by
  obtain ⟨g1, g2, g3, g4, g5, g6⟩ := h
  have e0 := A a (by omega) (by omega)
  exact ⟨g1, by rw [e0.1]; exact g2, by rw [e0.2.2.2]; exact g3, by rw [e0.2.2.2]; exact g4, (g5.ag A (by omega) (by omega)).1, g6.ag hj F A (by omega) (by omega)⟩
theorem SV.ag (h : SV μ a) (A : AgR lo hi μ μ') (h1 : lo ≤ a) (h2 : a + 2 ≤ hi) : SV μ' a ∧ shL μ' a = shL μ a ∧ jiv μ' a 0 = jiv μ a 0 := by
  have e0 := A (a) (by omega) (by omega); have e1 := A (a + 1) (by omega) (by omega)
  unfold SV shL vS at *
  simp only [e0.1, e0.2.1, e0.2.2.1, e0.2.2.2, e1.1, e1.2.1, e1.2.2.1, e1.2.2.2]
  exact ⟨h, trivial, trivial⟩
theorem BS.ag (h : BS μ b) (A : AgR lo hi μ μ') (h1 : lo ≤ b) (h2 : b + 137 ≤ hi) : BS μ' b := by
  have e0 := A b (by omega) (by omega)
  have e1 := A (b + 28) (by omega) (by omega)
  unfold BS at *
  simp only [e0.1, e0.2.2.2, e1.1, e1.2.1, e1.2.2.2]
  exact h
theorem GV.oua {h : Nat} (hg : GV μ D h) (hj : JW μ) (F : Fa S T n w μ μ') (hD : ∀ a, S a → a < D) (hD' : ∀ a j, T a j → a < D) (hS : ∀ a, S a → a < lo ∨ hi ≤ a) (hT : ∀ a j, T a j → a < lo ∨ hi ≤ a) (h1 : lo ≤ h) (h2 : h + 6 ≤ hi) : GV μ' D h ∧ dG μ' (xA h) = dG μ (xA h) :=
  hg.outa hj F (fun a _ g => ⟨hD a g, by have := hS a g; omega⟩) (fun a j _ g => ⟨hD' a j g, by have := hT a j g; omega⟩)
theorem BR.oua {s : PB} (h : BR μ D b s) (hj : JW μ) (F : Fa S T n w μ μ') (hz : b + 137 ≤ jsz μ) (hD : ∀ a, S a → a < D) (hD' : ∀ a j, T a j → a < D) (hS : ∀ a, S a → a < b ∨ b + 137 ≤ a) (hT : ∀ a j, T a j → a < b ∨ b + 137 ≤ a) : BR μ' D b s := by
  have A : AgR b (b + 137) μ μ' := F.ag hz (fun a h1 h2 g => by have := hS a g; omega) (fun a j h1 h2 g => by have := hT a j g; omega)
  have GO : ∀ g, GV μ D g → b ≤ g → g + 6 ≤ b + 137 → GV μ' D g ∧ dG μ' (xA g) = dG μ (xA g) := fun g hg h1 h2 => hg.oua hj F hD hD' hS hT h1 h2
  obtain ⟨h0, h1, h2, h3, h4, nc, h5, h6, h7, h8, h9⟩ := h
  have e0 := A b (by omega) (by omega)
  obtain ⟨r1, r2⟩ := h3.1.ag A (by omega) (by omega)
  have bb : ∀ i, i < 18 → b ≤ bG b i ∧ bG b i + 6 ≤ b + 137 := fun i hi => by unfold bG; omega
  refine ⟨h0, h1.ag A (Nat.le_refl _) (Nat.le_refl _), fun g hg => ?_, ⟨r1, fun c hc => ?_⟩, fun i hi => (GO _ (h4 i hi) (bb i hi).1 (bb i hi).2).1, nc, h5, ?_, ?_, h8, fun j hh hjh g hg => ?_⟩
  · obtain ⟨a1, a2⟩ := GO _ (h2 g hg).1 (by omega) (by omega)
    exact ⟨a1, a2.trans (h2 g hg).2⟩
  · rw [r2]; exact h3.2 c hc
  · rw [e0.2.2.1]; exact h6
  · rw [e0.2.2.1]; exact h7
  · have hi : ((nc + 6 - 1 - j) % 6) * 3 + g < 18 := by
      have := Nat.mod_lt (nc + 6 - 1 - j) (show 0 < 6 by decide)
      omega
    rw [(GO _ (h4 _ hi) (bb _ hi).1 (bb _ hi).2).2]
    exact h9 j hh hjh g hg
end AGREE
def xlo : Nat → Nat
  | 0 => 0 | 1 => 1 | 2 => 138 | 3 => 275 | 4 => 285 | 5 => 289 | 6 => 294 | 7 => 306 | 8 => 318 | 9 => 324 | 10 => 330 | 11 => 333 | _ => 334
def xhi : Nat → Nat
  | 0 => 1 | 1 => 138 | 2 => 275 | 3 => 285 | 4 => 289 | 5 => 294 | 6 => 306 | 7 => 318 | 8 => 324 | 9 => 330 | 10 => 333 | 11 => 334 | _ => 342
/-- the object's parts -/
def XC (μ : jM) (X : Nat) (σ : SG) : Nat → Prop
  | 0 => (jk μ X = 12 ∧ jrv μ X 0 = some (X + 1) ∧ jrv μ X 1 = some (X + 138) ∧ jrv μ X 3 = some (X + 275) ∧ jrv μ X 4 = some (X + 280) ∧ jrv μ X 5 = some (X + 285) ∧ jrv μ X 6 = some (X + 289) ∧ jrv μ X 8 = some (X + 294) ∧ jrv μ X 9 = some (X + 306) ∧ jrv μ X 10 = some (X + 318) ∧ jrv μ X 11 = some (X + 324) ∧ jrv μ X 12 = some (X + 330) ∧ jrv μ X 14 = some (X + 333)) ∧ jiv μ X 2 = bN σ.2.1.isSome ∧ jiv μ X 7 = bN σ.2.2.2.2.1
  | 1 => BR μ (X + 766) (X + 1) σ.1
  | 2 => ∃ s, BR μ (X + 766) (X + 138) s ∧ ∀ b, σ.2.1 = some b → s = b
  | 3 => TQ μ (X + 275) ∧ TB μ (X + 275) σ.2.2.1 ∧ RQ μ (X + 275)
  | 4 => AQ μ (X + 285)
  | 5 => CV μ (X + 289) ∧ cL μ (X + 289) = σ.2.2.2.1
  | 6 => MV μ (X + 766) (X + 294)
  | 7 => MV μ (X + 766) (X + 306)
  | 8 => Gs μ (X + 318)
  | 9 => Gs μ (X + 324)
  | 10 => RV μ (X + 330)
  | 11 => jk μ (X + 333) = 32 ∧ jl μ (X + 333) = 4 ∧ ∀ i, i < 4 → jrv μ (X + 333) i = some (X + 334 + 2 * i)
  | _ => ∀ i, i < 4 → SV μ (X + 334 + 2 * i) ∧ jiv μ (X + 334 + 2 * i) 0 = (σ.2.2.2.2.2 i).1 ∧ shL μ (X + 334 + 2 * i) = (σ.2.2.2.2.2 i).2
def XR (μ : jM) (X : Nat) (σ : SG) : Prop := ∀ i, i < 13 → XC μ X σ i
/-- what all rests on -/
def BI (μ : jM) (X : Nat) : Prop := JW μ ∧ (∃ B, B ≤ X ∧ KX μ B ∧ JA μ B) ∧ X + 766 ≤ jsz μ
def SI (X i : Nat) (a : Nat) : Prop := X + xlo i ≤ a ∧ a < X + xhi i
def SX (X : Nat) (a : Nat) : Prop := X ≤ a ∧ a < X + 342
/-- the class's object changed, with new cells -/
def XF (X n w : Nat) (μ μ' : jM) : Prop := Fa (SX X) (fun a _ => SX X a) n w μ μ'
section STATE
variable {μ μ' μ'' : jM} {S S' : Nat → Prop} {T T' : Nat → Nat → Prop} {n w m v lo hi a b r q s D d X i : Nat} {σ σ' : SG}
theorem xlo_hi (hi : i < 13) : xlo i < xhi i ∧ xhi i ≤ 342 := by
  rcases (show i = 0 ∨ i = 1 ∨ i = 2 ∨ i = 3 ∨ i = 4 ∨ i = 5 ∨ i = 6 ∨ i = 7 ∨ i = 8 ∨ i = 9 ∨ i = 10 ∨ i = 11 ∨ i = 12 by omega) with rfl | rfl | rfl | rfl | rfl | rfl | rfl | rfl | rfl | rfl | rfl | rfl | rfl <;> decide
theorem BI.out (h : BI μ X) (F : Fa S T n w μ μ') (hS : ∀ a, S a → X ≤ a) (hT : ∀ a j, T a j → X ≤ a) : BI μ' X := by
  obtain ⟨h1, ⟨B, h2, h3, h4⟩, h5⟩ := h
  refine ⟨F.jw, ⟨B, h2, h3.fa h1 F (fun b hb g => by have := hS b g; omega) (fun b j hb g => by have := hT b j g; omega), ?_⟩, by have := F.2.1.1; omega⟩
  obtain ⟨g1, t, g2, g3, g4, g5, g6⟩ := h4
  have ht := h1.lt (ne99 g4 (by decide))
  have hst : ¬ S t := fun g => by have := hS t g; omega
  refine ⟨g1.of F.1, t, by rw [F.1]; exact g2, g3, by rw [F.kk ht]; exact g4, by rw [F.ll ht]; exact g5, ?_⟩
  rw [F.iv ht hst]; exact g6
theorem XC.out (h : XC μ X σ i) (hb : BI μ X) (F : Fa S T n w μ μ') (hD : ∀ a, S a → a < X + 766) (hD' : ∀ a j, T a j → a < X + 766) (hS : ∀ a, S a → a < X + xlo i ∨ X + xhi i ≤ a) (hT : ∀ a j, T a j → a < X + xlo i ∨ X + xhi i ≤ a) (hi : i < 13) : XC μ' X σ i := by
  obtain ⟨hj, -, hz⟩ := hb
  have hlh := xlo_hi hi
  have A : AgR (X + xlo i) (X + xhi i) μ μ' := F.ag (by omega) (fun a h1 h2 g => by have := hS a g; omega) (fun a j h1 h2 g => by have := hT a j g; omega)
  match i, h, hi with
  | 0, h, _ =>
    have e0 := A X (by show X + 0 ≤ X; omega) (by show X < X + 1; omega)
    unfold XC at *
    simp only [e0.1, e0.2.2.1, e0.2.2.2]
    exact h
  | 1, h, _ => exact BR.oua h hj F (by omega) hD hD' (fun a g => hS a g) (fun a j g => hT a j g)
  | 2, h, _ =>
    obtain ⟨s, h1, h2⟩ := h
    exact ⟨s, h1.oua hj F (by omega) hD hD' (fun a g => hS a g) (fun a j g => hT a j g), h2⟩
  | 3, h, _ => exact ⟨h.1.ag A (Nat.le_refl _) (by show X + 275 + 5 ≤ X + 285; omega), h.2.1.ag A (Nat.le_refl _) (by show X + 275 + 2 ≤ X + 285; omega), h.2.2.ag A (Nat.le_refl _) (Nat.le_refl _)⟩
  | 4, h, _ => exact AQ.ag h A (Nat.le_refl _) (Nat.le_refl _)
  | 5, h, _ =>
    obtain ⟨a1, a2⟩ := h.1.ag A (Nat.le_refl _) (Nat.le_refl _)
    exact ⟨a1, a2.trans h.2⟩
  | 6, h, _ => exact MV.ag h hj F A (Nat.le_refl _) (Nat.le_refl _)
  | 7, h, _ => exact MV.ag h hj F A (Nat.le_refl _) (Nat.le_refl _)
  | 8, h, _ => exact Gs.ag h hj F A (Nat.le_refl _) (Nat.le_refl _)
  | 9, h, _ => exact Gs.ag h hj F A (Nat.le_refl _) (Nat.le_refl _)
  | 10, h, _ => exact (RV.ag h A (Nat.le_refl _) (Nat.le_refl _)).1
  | 11, h, _ =>
    have e0 := A (X + 333) (Nat.le_refl _) (by show X + 333 < X + 334; omega)
    unfold XC at *
    simp only [e0.1, e0.2.1, e0.2.2.2]
    exact h
  | 12, h, _ =>
    intro k hk
    have h := h k hk
    obtain ⟨a1, a2, a3⟩ := h.1.ag A (by show X + 334 ≤ X + 334 + 2 * k; omega) (by show X + 334 + 2 * k + 2 ≤ X + 342; omega)
    exact ⟨a1, a3.trans h.2.1, a2.trans h.2.2⟩
  | k + 13, h, hi => omega
theorem XR.out (h : XR μ X σ) (hb : BI μ X) (F : Fa S T n w μ μ') (hS : ∀ a, S a → X + 342 ≤ a ∧ a < X + 766) (hT : ∀ a j, T a j → X + 342 ≤ a ∧ a < X + 766) : XR μ' X σ := fun i hi => (h i hi).out hb F (fun a g => (hS a g).2) (fun a j g => (hT a j g).2) (fun a g => Or.inr (by have := (hS a g).1; have := xlo_hi hi; omega)) (fun a j g => Or.inr (by have := (hT a j g).1; have := xlo_hi hi; omega)) hi
theorem XF.refl (h : JW μ) : XF X n w μ μ := Fa.refl h
theorem XF.trans (a : XF X n w μ μ') (b : XF X m v μ' μ'') : XF X (n + m) (w + v) μ μ'' := Fa.trans a b (fun _ _ g => g) (fun _ _ _ g => g)
theorem XF.up (a : XF X n w μ μ') (hn : n ≤ m) (hw : w ≤ v) : XF X m v μ μ' := Fa.mono a (fun _ _ g => g) (fun _ _ _ g => g) hn hw
/-- what a call leaves -/
def XT (μ : jM) (X : Nat) (μ' : jM) (σ' : SG) (n w : Nat) : Prop := XF X n w μ μ' ∧ BI μ' X ∧ XR μ' X σ'
theorem XT.refl (hb : BI μ X) (h : XR μ X σ) : XT μ X μ σ n w := ⟨XF.refl hb.1, hb, h⟩
theorem XT.trans (a : XT μ X μ' σ n w) (b : XT μ' X μ'' σ' m v) : XT μ X μ'' σ' (n + m) (w + v) := ⟨a.1.trans b.1, b.2⟩
theorem XT.up (a : XT μ X μ' σ n w) (hn : n ≤ m) (hw : w ≤ v) : XT μ X μ' σ m v := ⟨a.1.up hn hw, a.2⟩
/-- two parts are apart -/
theorem x_apart {k : Nat} (hi : i < 13) (hk : k < 13) (hne : i ≠ k) : xhi i ≤ xlo k ∨ xhi k ≤ xlo i := by
  rcases (show i = 0 ∨ i = 1 ∨ i = 2 ∨ i = 3 ∨ i = 4 ∨ i = 5 ∨ i = 6 ∨ i = 7 ∨ i = 8 ∨ i = 9 ∨ i = 10 ∨ i = 11 ∨ i = 12 by omega) with rfl | rfl | rfl | rfl | rfl | rfl | rfl | rfl | rfl | rfl | rfl | rfl | rfl <;>
  rcases (show k = 0 ∨ k = 1 ∨ k = 2 ∨ k = 3 ∨ k = 4 ∨ k = 5 ∨ k = 6 ∨ k = 7 ∨ k = 8 ∨ k = 9 ∨ k = 10 ∨ k = 11 ∨ k = 12 by omega) with rfl | rfl | rfl | rfl | rfl | rfl | rfl | rfl | rfl | rfl | rfl | rfl | rfl <;> first | exact absurd rfl hne | (unfold xlo xhi; decide)
/-- one part changed -/
theorem XR.one {k : Nat} (hb : BI μ X) (h : XR μ X σ) (hk : k < 13) (F : Fa S T n w μ μ') (hS : ∀ a, S a → SI X k a) (hT : ∀ a j, T a j → SI X k a) (hn : XC μ' X σ' k) (he : ∀ i, i < 13 → i ≠ k → XC μ' X σ i → XC μ' X σ' i) : XT μ X μ' σ' n w := by
  have hlh := xlo_hi hk
  have sx : ∀ a, SI X k a → SX X a := fun a g => by
    obtain ⟨g1, g2⟩ := g
    exact ⟨by omega, by omega⟩
  refine ⟨F.mono (fun a _ g => sx a (hS a g)) (fun a j _ g => sx a (hT a j g)) (Nat.le_refl _) (Nat.le_refl _), hb.out F (fun a g => (sx a (hS a g)).1) (fun a j g => (sx a (hT a j g)).1), fun i hi => ?_⟩
  by_cases e : i = k
  · subst e; exact hn
  · refine he i hi e ((h i hi).out hb F (fun a g => ?_) (fun a j g => ?_) (fun a g => ?_) (fun a j g => ?_) hi)
    · have := (sx a (hS a g)).2; omega
    · have := (sx a (hT a j g)).2; omega
    · have := x_apart hi hk e
      obtain ⟨g1, g2⟩ := hS a g
      omega
    · have := x_apart hi hk e
      obtain ⟨g1, g2⟩ := hT a j g
      omega
end STATE
