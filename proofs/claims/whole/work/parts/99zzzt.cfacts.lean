/-! CONSTRUCTORS: what the class's object holds at the start -/
/-- references stand in the first places alone -/
def JB (R : Nat → Nat → Option Nat) : Prop := ∀ o j, 42 ≤ j → R o j = none
section JBS
variable {R R' : Nat → Nat → Option Nat} {p s t o : Nat}
theorem jb_0 : JB (fun _ _ => none) := fun _ _ _ => rfl
theorem jb_s (hs : s < 42) (h : JB R) : JB (zS s t R) := fun o j hj => by
  unfold zS
  rw [if_neg (by omega), h o j hj]
theorem jb_a (hs : s < 42) (h : JB R) : JB (zAt o s t R) := fun o' j hj => by
  unfold zAt
  rw [if_neg (by omega), h o' j hj]
theorem jb_r (h : JB R) : JB (zR p R) := fun o j hj => by
  unfold zR
  split
  · rfl
  · exact h o j hj
theorem jb_k (h : JB R) (h' : JB R') : JB (kR p R R') := fun o j hj => by
  unfold kR
  split
  · exact h o j hj
  · rw [h' _ j hj]
    rfl
theorem jb_G : JB RG1 := by
  unfold RG1
  repeat (first | exact jb_0 | refine jb_s (by decide) ?_ | refine jb_r ?_)
theorem jb_A : JB RA1 := by
  unfold RA1
  repeat (first | exact jb_0 | refine jb_s (by decide) ?_ | refine jb_r ?_)
theorem jb_C : JB RC1 := by
  unfold RC1
  repeat (first | exact jb_0 | refine jb_s (by decide) ?_ | refine jb_r ?_)
theorem jb_U : JB RU1 := by
  unfold RU1
  repeat (first | exact jb_0 | refine jb_s (by decide) ?_ | refine jb_r ?_)
theorem jb_T : JB RT1 := by
  unfold RT1
  repeat (first | exact jb_0 | refine jb_s (by decide) ?_ | refine jb_r ?_)
theorem jb_S : JB RS1 := by
  unfold RS1
  repeat (first | exact jb_0 | refine jb_s (by decide) ?_ | refine jb_r ?_)
theorem jb_Q : JB RQ1 := by
  unfold RQ1
  repeat (first | exact jb_0 | refine jb_s (by decide) ?_ | refine jb_r ?_)
theorem jb_M : JB RM1 := by
  unfold RM1
  repeat (first | exact jb_0 | exact jb_G | exact jb_C | refine jb_s (by decide) ?_ | refine jb_k ?_ ?_)
theorem jb_b0 : ∀ i, i ≤ 18 → JB (bR0 i)
  | 0, _ => by
    show JB (zS 5 28 _)
    repeat (first | exact jb_0 | exact jb_G | exact jb_U | refine jb_s (by decide) ?_ | refine jb_r ?_ | refine jb_k ?_ ?_)
  | i + 1, h => jb_a (by omega) (jb_k (jb_b0 i (by omega)) jb_G)
theorem jb_B : JB RB1 := jb_b0 18 (by decide)
theorem jb_x0 : ∀ i, i ≤ 4 → JB (xR0 i)
  | 0, _ => by
    show JB (zS 14 333 _)
    repeat (first | exact jb_0 | exact jb_G | exact jb_A | exact jb_C | exact jb_U | exact jb_T | exact jb_Q | exact jb_M | exact jb_B | refine jb_s (by decide) ?_ | refine jb_a (by decide) ?_ | refine jb_r ?_ | refine jb_k ?_ ?_)
  | i + 1, h => jb_a (by omega) (jb_k (jb_x0 i (by omega)) jb_S)
theorem jb_X : JB RZ1 := jb_x0 4 (by decide)
end JBS
/-- a grid stands there, empty -/
abbrev gck (o : Nat) : Prop := (LZ1 o = (6, 0) ∧ LZ1 (o + 1) = (20, 8) ∧ LZ1 (o + 2) = (20, 24) ∧ LZ1 (o + 3) = (20, 24) ∧ LZ1 (o + 4) = (30, 24) ∧ LZ1 (o + 5) = (20, 24)) ∧ (∀ j, j < 5 → RZ1 o (j + 1) = some (o + 1 + j)) ∧ IZ1 o 0 = N 0 ∧ ∀ j, j < 42 → RZ1 (o + 4) j = none
abbrev cck (o : Nat) : Prop := (LZ1 o = (4, 0) ∧ ∀ i, i < 4 → LZ1 (o + 1 + i) = (20, 48)) ∧ (∀ j, j < 4 → RZ1 o (j + 1) = some (o + 1 + j)) ∧ IZ1 o 0 = N 0
abbrev rck (o : Nat) : Prop := (LZ1 o = (8, 0) ∧ LZ1 (o + 1) = (20, 3) ∧ LZ1 (o + 2) = (20, 3)) ∧ (RZ1 o 0 = some (o + 1) ∧ RZ1 o 1 = some (o + 2)) ∧ ∀ c, c < 3 → IZ1 (o + 1) c = N 0 ∧ IZ1 (o + 2) c = N 0
abbrev bck (b : Nat) : Prop := (LZ1 b = (3, 0) ∧ LZ1 (b + 28) = (31, 18)) ∧ (RZ1 b 0 = some (b + 1) ∧ RZ1 b 1 = some (b + 7) ∧ RZ1 b 2 = some (b + 13) ∧ RZ1 b 3 = some (b + 19) ∧ RZ1 b 4 = some (b + 25) ∧ RZ1 b 5 = some (b + 28)) ∧ (∀ i, i < 18 → RZ1 (b + 28) i = some (b + 29 + 6 * i)) ∧ IZ1 b 6 = N 0 ∧ IZ1 b 7 = N 0
theorem gck_1 : ∀ g, g < 4 → gck (1 + 1 + 6 * g) := by decide +kernel
theorem gck_2 : ∀ g, g < 4 → gck (138 + 1 + 6 * g) := by decide +kernel
theorem gck_3 : ∀ g, g < 18 → gck (1 + 29 + 6 * g) := by decide +kernel
theorem gck_4 : ∀ g, g < 18 → gck (138 + 29 + 6 * g) := by decide +kernel
theorem gck_6 : gck 295 := by decide +kernel
theorem gck_7 : gck 307 := by decide +kernel
theorem gck_8 : gck 318 := by decide +kernel
theorem gck_9 : gck 324 := by decide +kernel
theorem gck_5 : gck 295 ∧ gck 307 ∧ gck 318 ∧ gck 324 := ⟨gck_6, gck_7, gck_8, gck_9⟩
theorem cck_1 : cck 289 ∧ cck 301 ∧ cck 313 := by decide +kernel
theorem rck_1 : rck (1 + 25) ∧ rck (138 + 25) ∧ rck 330 := by decide +kernel
theorem bck_1 : bck 1 ∧ bck 138 := by decide +kernel
/-- so the class's object lies in the memory -/
def AtX (μ : jM) (X : Nat) : Prop := ∀ o, o < 342 → jk μ (X + o) = (LZ1 o).1 ∧ jl μ (X + o) = (LZ1 o).2 ∧ (∀ j, jiv μ (X + o) j = IZ1 o j) ∧ ∀ j, jrv μ (X + o) j = (RZ1 o j).map (fun t => X + t)
section ATX
variable {μ : jM} {X o k n j t b : Nat} {v : Int32}
theorem ak {Y : Nat} (h : AtX μ X) (ho : o < 342) (e : LZ1 o = (k, n)) (hY : Y = X + o := by omega) : jk μ Y = k := by
  subst hY
  rw [(h o ho).1, e]
theorem al {Y : Nat} (h : AtX μ X) (ho : o < 342) (e : LZ1 o = (k, n)) (hY : Y = X + o := by omega) : jl μ Y = n := by
  subst hY
  rw [(h o ho).2.1, e]
theorem ai {Y : Nat} (h : AtX μ X) (ho : o < 342) (e : IZ1 o j = v) (hY : Y = X + o := by omega) : jiv μ Y j = v := by
  subst hY
  rw [(h o ho).2.2.1, e]
theorem ar {Y Z : Nat} (h : AtX μ X) (ho : o < 342) (e : RZ1 o j = some t) (hY : Y = X + o := by omega) (hZ : Z = X + t := by omega) : jrv μ Y j = some Z := by
  subst hY
  subst hZ
  rw [(h o ho).2.2.2, e]
  rfl
theorem ax_gs (h : AtX μ X) (ho : o + 6 ≤ 342) (c : gck o) : GV μ (X + 766) (X + o) ∧ dG μ (xA (X + o)) = [] := by
  obtain ⟨⟨c0, c1, c2, c3, c4, c5⟩, r, i0, hn⟩ := c
  have e : jiv μ ((xA (X + o)).1 0) (xA (X + o)).2 = N 0 := by
    show jiv μ (X + o + 0) 0 = N 0
    exact ai (o := o) h (by omega) i0
  have er := rg_0 e
  have hz : vN μ (xA (X + o)) = 0 := vn_0 e
  refine ⟨⟨by omega, ⟨⟨ak (o := o) h (by omega) c0, ?_, ?_, ?_, ?_, ?_, ?_, ?_, ?_, ?_, ?_⟩, ⟨ar (o := o) h (by omega) (r 0 (by decide)), ar (o := o) h (by omega) (r 1 (by decide)), ar (o := o) h (by omega) (r 2 (by decide)), ar (o := o) h (by omega) (r 3 (by decide)), ar (o := o) h (by omega) (r 4 (by decide))⟩, fun j b hb => ?_⟩, ⟨by rw [hz]; exact e, by rw [hz]; decide⟩, fun w hw => ?_⟩, ?_⟩
  · exact ak (o := o + 1) h (by omega) c1
  · exact al (o := o + 1) h (by omega) c1
  · exact ak (o := o + 2) h (by omega) c2
  · exact al (o := o + 2) h (by omega) c2
  · exact ak (o := o + 3) h (by omega) c3
  · exact al (o := o + 3) h (by omega) c3
  · exact ak (o := o + 4) h (by omega) c4
  · exact al (o := o + 4) h (by omega) c4
  · exact ak (o := o + 5) h (by omega) c5
  · exact al (o := o + 5) h (by omega) c5
  · have hb : jrv μ (X + (o + 4)) j = some b := hb
    rw [(h (o + 4) (by omega)).2.2.2] at hb
    have : RZ1 (o + 4) j = none := by
      by_cases hj : j < 42
      · exact hn j hj
      · exact jb_X _ _ (by omega)
    rw [this] at hb
    cases hb
  · rw [er] at hw
    exact absurd hw List.not_mem_nil
  · unfold dG
    rw [er]
    rfl
theorem ax_cv (h : AtX μ X) (ho : o + 5 ≤ 342) (c : cck o) : CV μ (X + o) ∧ cL μ (X + o) = [] := by
  obtain ⟨⟨c0, c1⟩, r, i0⟩ := c
  have e : jiv μ (X + o) 0 = N 0 := ai (o := o) h (by omega) i0
  have hz : cN μ (X + o) = 0 := by
    unfold cN
    rw [e]
    rfl
  refine ⟨⟨⟨ak (o := o) h (by omega) c0, ?_, ?_, ?_, ?_, ?_, ?_, ?_, ?_⟩, ⟨ar (o := o) h (by omega) (r 0 (by decide)), ar (o := o) h (by omega) (r 1 (by decide)), ar (o := o) h (by omega) (r 2 (by decide)), ar (o := o) h (by omega) (r 3 (by decide))⟩, by rw [hz]; exact e, by rw [hz]; decide⟩, ?_⟩
  · exact ak (o := o + 1) h (by omega) (c1 0 (by decide))
  · exact al (o := o + 1) h (by omega) (c1 0 (by decide))
  · exact ak (o := o + 2) h (by omega) (c1 1 (by decide))
  · exact al (o := o + 2) h (by omega) (c1 1 (by decide))
  · exact ak (o := o + 3) h (by omega) (c1 2 (by decide))
  · exact al (o := o + 3) h (by omega) (c1 2 (by decide))
  · exact ak (o := o + 4) h (by omega) (c1 3 (by decide))
  · exact al (o := o + 4) h (by omega) (c1 3 (by decide))
  · unfold cL
    rw [hz]
    rfl
theorem ax_rv (h : AtX μ X) (ho : o + 3 ≤ 342) (c : rck o) : RV μ (X + o) ∧ ∀ c, c < 3 → rL μ (X + o) c = (0, 0) := by
  obtain ⟨⟨c0, c1, c2⟩, ⟨r0, r1⟩, i0⟩ := c
  have e1 : ∀ c, c < 3 → jiv μ (X + o + 1) c = N 0 := fun c hc => ai (o := o + 1) h (by omega) (i0 c hc).1
  have e2 : ∀ c, c < 3 → jiv μ (X + o + 2) c = N 0 := fun c hc => ai (o := o + 2) h (by omega) (i0 c hc).2
  refine ⟨⟨⟨ak (o := o) h (by omega) c0, ak (o := o + 1) h (by omega) c1, al (o := o + 1) h (by omega) c1, ak (o := o + 2) h (by omega) c2, al (o := o + 2) h (by omega) c2⟩, ⟨ar (o := o) h (by omega) r0, ar (o := o) h (by omega) r1⟩, fun c hc => ⟨0, 0, by decide, by decide, e1 c hc, e2 c hc⟩⟩, fun c hc => ?_⟩
  unfold rL
  rw [e1 c hc, e2 c hc]
  rfl
theorem ax_br (h : AtX μ X) (hb : b + 137 ≤ 342) (c : bck b) (c1 : ∀ g, g < 4 → gck (b + 1 + 6 * g)) (c2 : ∀ g, g < 18 → gck (b + 29 + 6 * g)) (c3 : rck (b + 25)) : BR μ (X + 766) (X + b) sg0.1 := by
  obtain ⟨⟨k0, k1⟩, ⟨r0, r1, r2, r3, r4, r5⟩, ra, i6, i7⟩ := c
  have G1 : ∀ g, g < 4 → GV μ (X + 766) (X + b + 1 + 6 * g) ∧ dG μ (xA (X + b + 1 + 6 * g)) = [] := fun g hg => by
    rw [show X + b + 1 + 6 * g = X + (b + 1 + 6 * g) by omega]
    exact ax_gs h (by omega) (c1 g hg)
  have G2 : ∀ g, g < 18 → GV μ (X + 766) (bG (X + b) g) := fun g hg => by
    unfold bG
    rw [show X + b + 29 + 6 * g = X + (b + 29 + 6 * g) by omega]
    exact (ax_gs h (by omega) (c2 g hg)).1
  have R1 := ax_rv h (by omega) c3
  refine ⟨by omega, ⟨⟨ak (o := b) h (by omega) k0, ak (o := b + 28) h (by omega) k1, al (o := b + 28) h (by omega) k1⟩, ⟨ar (o := b) h (by omega) r0, ar (o := b) h (by omega) r1, ar (o := b) h (by omega) r2, ar (o := b) h (by omega) r3, ar (o := b) h (by omega) r4, ar (o := b) h (by omega) r5⟩, fun i hi => ?_⟩, G1, ⟨R1.1, fun c hc => R1.2 c hc⟩, G2, 0, by decide, ai (o := b) h (by omega) i6, ai (o := b) h (by omega) i7, by decide, fun j u hu => ?_⟩
  · exact ar (o := b + 28) h (by omega) (ra i hi) (by omega) (by unfold bG; omega)
  · have hu : ([] : List (Nat → DG))[j]? = some u := hu
    simp at hu
theorem ax_mv (h : AtX μ X) (ho : o + 12 ≤ 342) (e : LZ1 o = (7, 0) ∧ RZ1 o 0 = some (o + 1) ∧ RZ1 o 1 = some (o + 7)) (c : gck (o + 1)) (c2 : cck (o + 7)) : MV μ (X + 766) (X + o) :=
  ⟨by omega, ak (o := o) h (by omega) e.1, ar (o := o) h (by omega) e.2.1, ar (o := o) h (by omega) e.2.2, (ax_cv (o := o + 7) h (by omega) c2).1, (ax_gs (o := o + 1) h (by omega) c).1.2.1⟩
theorem ax_sv (h : AtX μ X) (ho : o + 2 ≤ 342) (e : LZ1 o = (9, 0) ∧ RZ1 o 2 = some (o + 1) ∧ LZ1 (o + 1) = (20, 40)) (e0 : IZ1 o 0 = NEG) (e1 : IZ1 o 1 = N 0) : SV μ (X + o) ∧ jiv μ (X + o) 0 = NEG ∧ shL μ (X + o) = [] := by
  have a0 : jiv μ (X + o) 0 = NEG := ai (o := o) h (by omega) e0
  have a1 : jiv μ (X + o) 1 = N 0 := ai (o := o) h (by omega) e1
  have hz : vS μ (X + o) = 0 := by
    unfold vS
    rw [a1]
    rfl
  refine ⟨⟨⟨ak (o := o) h (by omega) e.1, ar (o := o) h (by omega) e.2.1, ak (o := o + 1) h (by omega) e.2.2, al (o := o + 1) h (by omega) e.2.2⟩, by rw [hz]; exact a1, by rw [hz]; decide, Or.inl a0⟩, a0, ?_⟩
  unfold shL
  rw [hz]
  rfl
theorem xk_0 : LZ1 0 = (12, 0) ∧ RZ1 0 0 = some 1 ∧ RZ1 0 1 = some 138 ∧ RZ1 0 3 = some 275 ∧ RZ1 0 4 = some 280 ∧ RZ1 0 5 = some 285 ∧ RZ1 0 6 = some 289 ∧ RZ1 0 8 = some 294 ∧ RZ1 0 9 = some 306 ∧ RZ1 0 10 = some 318 ∧ RZ1 0 11 = some 324 ∧ RZ1 0 12 = some 330 ∧ RZ1 0 14 = some 333 ∧ IZ1 0 2 = N 0 ∧ IZ1 0 7 = N 0 := by decide +kernel
theorem xk_3 : (LZ1 275 = (10, 0) ∧ LZ1 276 = (20, 40) ∧ LZ1 277 = (20, 41) ∧ LZ1 278 = (20, 41) ∧ LZ1 279 = (20, 41)) ∧ (RZ1 275 0 = some 276 ∧ RZ1 275 3 = some 277 ∧ RZ1 275 4 = some 278 ∧ RZ1 275 5 = some 279) ∧ IZ1 275 1 = N 0 := by decide +kernel
theorem xk_4 : (LZ1 280 = (11, 0) ∧ LZ1 281 = (20, 40) ∧ LZ1 282 = (20, 40) ∧ LZ1 283 = (20, 40) ∧ LZ1 284 = (20, 40)) ∧ RZ1 280 0 = some 275 ∧ RZ1 280 4 = some 281 ∧ RZ1 280 5 = some 282 ∧ RZ1 280 6 = some 283 ∧ RZ1 280 8 = some 284 := by decide +kernel
theorem xk_5 : (LZ1 285 = (2, 0) ∧ LZ1 286 = (20, 24) ∧ LZ1 287 = (20, 24) ∧ LZ1 288 = (20, 960)) ∧ RZ1 285 2 = some 286 ∧ RZ1 285 3 = some 287 ∧ RZ1 285 4 = some 288 := by decide +kernel
theorem xk_6 : (LZ1 294 = (7, 0) ∧ RZ1 294 0 = some (294 + 1) ∧ RZ1 294 1 = some (294 + 7)) ∧ LZ1 306 = (7, 0) ∧ RZ1 306 0 = some (306 + 1) ∧ RZ1 306 1 = some (306 + 7) := by decide +kernel
theorem xk_7 : LZ1 333 = (32, 4) ∧ ∀ i, i < 4 → RZ1 333 i = some (334 + 2 * i) := by decide +kernel
theorem xk_8 : ∀ i, i < 4 → (LZ1 (334 + 2 * i) = (9, 0) ∧ RZ1 (334 + 2 * i) 2 = some (334 + 2 * i + 1) ∧ LZ1 (334 + 2 * i + 1) = (20, 40)) ∧ IZ1 (334 + 2 * i) 0 = NEG ∧ IZ1 (334 + 2 * i) 1 = N 0 := by decide +kernel
/-- the class's object at the start -/
theorem ax_xr (h : AtX μ X) : XR μ X sg0 := by
  have T0 : TQ μ (X + 275) := ⟨⟨ak (o := 275) h (by decide) xk_3.1.1, ak (o := 276) h (by decide) xk_3.1.2.1, al (o := 276) h (by decide) xk_3.1.2.1, ak (o := 277) h (by decide) xk_3.1.2.2.1, al (o := 277) h (by decide) xk_3.1.2.2.1, ak (o := 278) h (by decide) xk_3.1.2.2.2.1, al (o := 278) h (by decide) xk_3.1.2.2.2.1, ak (o := 279) h (by decide) xk_3.1.2.2.2.2, al (o := 279) h (by decide) xk_3.1.2.2.2.2⟩, ar (o := 275) (t := 276) h (by decide) xk_3.2.1.1, ar (o := 275) (t := 277) h (by decide) xk_3.2.1.2.1, ar (o := 275) (t := 278) h (by decide) xk_3.2.1.2.2.1, ar (o := 275) (t := 279) h (by decide) xk_3.2.1.2.2.2⟩
  have Q0 : RQ μ (X + 275) := ⟨⟨ak (o := 280) h (by decide) xk_4.1.1, ak (o := 281) h (by decide) xk_4.1.2.1, al (o := 281) h (by decide) xk_4.1.2.1, ak (o := 282) h (by decide) xk_4.1.2.2.1, al (o := 282) h (by decide) xk_4.1.2.2.1, ak (o := 283) h (by decide) xk_4.1.2.2.2.1, al (o := 283) h (by decide) xk_4.1.2.2.2.1, ak (o := 284) h (by decide) xk_4.1.2.2.2.2, al (o := 284) h (by decide) xk_4.1.2.2.2.2⟩, ar (o := 280) (t := 275) h (by decide) xk_4.2.1, ar (o := 280) (t := 281) h (by decide) xk_4.2.2.1, ar (o := 280) (t := 282) h (by decide) xk_4.2.2.2.1, ar (o := 280) (t := 283) h (by decide) xk_4.2.2.2.2.1, ar (o := 280) (t := 284) h (by decide) xk_4.2.2.2.2.2⟩
  have A0 : AQ μ (X + 285) := ⟨⟨ak (o := 285) h (by decide) xk_5.1.1, ak (o := 286) h (by decide) xk_5.1.2.1, al (o := 286) h (by decide) xk_5.1.2.1, ak (o := 287) h (by decide) xk_5.1.2.2.1, al (o := 287) h (by decide) xk_5.1.2.2.1, ak (o := 288) h (by decide) xk_5.1.2.2.2, al (o := 288) h (by decide) xk_5.1.2.2.2⟩, ar (o := 285) (t := 286) h (by decide) xk_5.2.1, ar (o := 285) (t := 287) h (by decide) xk_5.2.2.1, ar (o := 285) (t := 288) h (by decide) xk_5.2.2.2⟩
  have C0 := ax_cv (o := 289) h (by decide) cck_1.1
  have B0 : BR μ (X + 766) (X + 1) sg0.1 := ax_br h (by decide) bck_1.1 gck_1 gck_3 rck_1.1
  have B1 : BR μ (X + 766) (X + 138) sg0.1 := ax_br h (by decide) bck_1.2 gck_2 gck_4 rck_1.2.1
  have M0 : MV μ (X + 766) (X + 294) := ax_mv h (by decide) xk_6.1 gck_5.1 cck_1.2.1
  have M1 : MV μ (X + 766) (X + 306) := ax_mv h (by decide) xk_6.2 gck_5.2.1 cck_1.2.2
  intro i hi
  match i, hi with
  | 0, _ =>
    obtain ⟨a0, a1, a2, a3, a4, a5, a6, a7, a8, a9, a10, a11, a12, a13, a14⟩ := xk_0
    exact ⟨⟨ak (o := 0) h (by decide) a0, ar (o := 0) h (by decide) a1, ar (o := 0) h (by decide) a2, ar (o := 0) h (by decide) a3, ar (o := 0) h (by decide) a4, ar (o := 0) h (by decide) a5, ar (o := 0) h (by decide) a6, ar (o := 0) h (by decide) a7, ar (o := 0) h (by decide) a8, ar (o := 0) h (by decide) a9, ar (o := 0) h (by decide) a10, ar (o := 0) h (by decide) a11, ar (o := 0) h (by decide) a12⟩, ai (o := 0) h (by decide) a13, ai (o := 0) h (by decide) a14⟩
  | 1, _ => exact B0
  | 2, _ => exact ⟨sg0.1, B1, fun b hb => by cases hb⟩
  | 3, _ => exact ⟨T0, ⟨ai (o := 275) h (by decide) xk_3.2.2, by decide, fun i c hc => by have hc : ([] : List Nat)[i]? = some c := hc; simp at hc⟩, Q0⟩
  | 4, _ => exact A0
  | 5, _ => exact C0
  | 6, _ => exact M0
  | 7, _ => exact M1
  | 8, _ => exact (ax_gs (o := 318) h (by decide) gck_5.2.2.1).1.2.1
  | 9, _ => exact (ax_gs (o := 324) h (by decide) gck_5.2.2.2).1.2.1
  | 10, _ => exact (ax_rv (o := 330) h (by decide) rck_1.2.2).1
  | 11, _ =>
    exact ⟨ak (o := 333) h (by decide) xk_7.1, al (o := 333) h (by decide) xk_7.1, fun i hi => ar (o := 333) h (by decide) (xk_7.2 i hi)⟩
  | 12, _ =>
    intro i hi
    have e := xk_8 i hi
    rw [Nat.add_assoc]
    exact ax_sv h (by omega) e.1 e.2.1 e.2.2
  | k + 13, hi => omega
end ATX
