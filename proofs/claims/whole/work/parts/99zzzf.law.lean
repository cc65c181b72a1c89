/-! THE LAW: what holds between calls -/
/-- the script, held below -/
def SC (μ : jM) (X S n : Nat) (f : Nat → Int32) : Prop := S < X ∧ (jk μ S = 20 ∨ jk μ S = 42) ∧ jl μ S = n ∧ n ≤ 3584 ∧ ∀ j, j < n → jiv μ S j = f j
/-- between two calls; between the class's call and the reference's -/
def LWS (μ : jM) (X S n : Nat) (f : Nat → Int32) (σ : SG) : Prop := BI μ X ∧ XR μ X σ ∧ MR μ (X + 342) σ ∧ WFk σ ∧ SC μ X S n f
def LWM (μ : jM) (X S n : Nat) (f : Nat → Int32) (σ σ' : SG) : Prop := BI μ X ∧ XR μ X σ' ∧ MR μ (X + 342) σ ∧ SC μ X S n f
/-- so much larger -/
def Gw (n w : Nat) (μ μ' : jM) : Prop := (jsz μ ≤ jsz μ' ∧ jsz μ' ≤ jsz μ + n) ∧ jsl μ ≤ jsl μ' ∧ jsl μ' ≤ jsl μ + w
section LAW
variable {μ μ' μ1 μ2 : jM} {X S n i k w d N' W' m v M : Nat} {f : Nat → Int32} {σ σ' : SG} {P : Nat → Prop} {Q : Nat → Nat → Prop}
theorem SC.at1 (h : SC μ X S n f) (hk : i + k < n) : jaI μ (.ref S) (N i + N k) = some (f (i + k)) := by
  obtain ⟨h1, h2, h3, h4, h5⟩ := h
  rw [N_add, aI_eq, if_pos ⟨h2, by rw [jinb_N (by omega), h3]; exact decide_eq_true hk⟩, N_nat (by omega), h5 _ hk]
theorem SC.at0 (h : SC μ X S n f) (hk : i < n) : jaI μ (.ref S) (N i) = some (f i) := by
  obtain ⟨h1, h2, h3, h4, h5⟩ := h
  rw [aI_eq, if_pos ⟨h2, by rw [jinb_N (by omega), h3]; exact decide_eq_true hk⟩, N_nat (by omega), h5 _ hk]
theorem SC.al (h : SC μ X S n f) : jal μ (.ref S) = some (N n) := by
  obtain ⟨h1, h2, h3, h4, h5⟩ := h
  rcases h2 with h2 | h2
  · have := alen_of (μ := μ) h2 (by decide)
    rw [h3] at this
    exact this
  · have := alen_of (μ := μ) h2 (by decide)
    rw [h3] at this
    exact this
theorem SC.fa (h : SC μ X S n f) (hj : JW μ) (F : Fa P Q m v μ μ') (hP : ¬ P S) : SC μ' X S n f := by
  obtain ⟨h1, h2, h3, h4, h5⟩ := h
  have hl : S < jsz μ := by rcases h2 with g | g <;> exact hj.lt (ne99 g (by decide))
  exact ⟨h1, by rw [F.kk hl]; exact h2, by rw [F.ll hl]; exact h3, h4, fun j hj => by rw [F.iv hl hP]; exact h5 j hj⟩
theorem Gw.of (F : Fa P Q m v μ μ') : Gw m v μ μ' := ⟨F.2.1, F.2.2.1⟩
theorem Gw.trans (a : Gw m v μ μ1) (b : Gw N' W' μ1 μ') : Gw (m + N') (v + W') μ μ' := by
  unfold Gw at *
  omega
theorem Gw.up (a : Gw m v μ μ') (h1 : m ≤ N') (h2 : v ≤ W') : Gw N' W' μ μ' := by
  unfold Gw at *
  omega
theorem LWS.k12 (h : LWS μ X S n f σ) : jk μ X = 12 := h.2.1.s0.1
theorem LWS.mid (h : LWS μ X S n f σ) (T : XT μ X μ1 σ' m v) : LWM μ1 X S n f σ σ' := by
  obtain ⟨hb, hx, hm, hw, hs⟩ := h
  have z : X + 342 + 424 ≤ jsz μ := hb.2.2
  refine ⟨T.2.1, T.2.2, hm.outa hb.1 z T.1 (fun a k => k.2) (fun a j k => k.2), hs.fa hb.1 T.1 (fun q => ?_)⟩
  have q : X ≤ S ∧ S < X + 342 := q
  have := hs.1
  omega
theorem LWM.k13 (h : LWM μ X S n f σ σ') : jk μ (X + 342) = 13 := h.2.2.1.1.k13
theorem LWM.fin (h : LWM μ1 X S n f σ σ') (F : FRa (X + 342) m v μ1 μ2) (r : MR μ2 (X + 342) σ') (w : WFk σ') : LWS μ2 X S n f σ' := by
  obtain ⟨hb, hx, hm, hs⟩ := h
  refine ⟨hb.out F (fun a k => by omega) (fun a j k => by omega), hx.out hb F (fun a k => by omega) (fun a j k => by omega), r, w, hs.fa hb.1 F (fun q => ?_)⟩
  have q : X + 342 ≤ S ∧ S < X + 342 + 424 := q
  have := hs.1
  omega
theorem ROP.lm {run : Option (Option Value × jM)} {r : RES} (h : ROP M run μ r) (hj : JW μ) : ROPa M 390 10101 run μ r := h.al hj
theorem ROPa.up {run : Option (Option Value × jM)} {r : RES} (h : ROPa M m v run μ r) (h1 : m ≤ 390) (h2 : v ≤ 10101) : ROPa M 390 10101 run μ r := by
  obtain ⟨μ', a, b, c⟩ := h
  exact ⟨μ', a, b.up h1 h2, c⟩
theorem w_told (h : WFk σ) (g r c w : Int32) : WFk (o_told σ g r c w).2 := by
  unfold o_told
  repeat' split
  all_goals exact h
theorem w_print (h : WFk σ) (g r c k : Int32) : WFk (o_print σ g r c k).2 := by
  unfold o_print
  repeat' split
  all_goals exact h
theorem w_taken (h : WFk σ) (c k : Int32) : WFk (o_taken σ c k).2 := by
  unfold o_taken
  repeat' split
  all_goals exact h
theorem w_clash (h : WFk σ) (i w : Int32) : WFk (o_clash σ i w).2 := by
  unfold o_clash
  repeat' split
  all_goals exact h
theorem w_exch (h : WFk σ) : WFk (o_exch σ).2 := by
  unfold o_exch
  repeat' split
  all_goals exact h
theorem w_drawn (h : WFk σ) (z n : Int32) : WFk (o_drawn σ z n).2 := by
  unfold o_drawn
  repeat' split
  all_goals exact h
theorem w_chance (h : WFk σ) (z m p : Int32) : WFk (o_chance σ z m p).2 := by
  unfold o_chance
  repeat' split
  all_goals exact h
theorem w_count (h : WFk σ) (w : Int32) : WFk (o_count σ w).2 := by
  unfold o_count
  repeat' split
  all_goals exact h
theorem w_tells (h : WFk σ) (s g c w : Int32) : WFk (o_tells σ s g c w).2 := by
  unfold o_tells
  repeat' split
  all_goals exact h
theorem LWS.kx (h : LWS μ X S n f σ) : ∃ B, B ≤ X ∧ KX μ B := by
  obtain ⟨B, b1, b2, -⟩ := h.1.2.1
  exact ⟨B, b1, b2⟩
theorem LWM.kx (h : LWM μ X S n f σ σ') : ∃ B, B ≤ X ∧ KX μ B := by
  obtain ⟨B, b1, b2, -⟩ := h.1.2.1
  exact ⟨B, b1, b2⟩
theorem LWM.z (h : LWM μ X S n f σ σ') : X + 342 + 424 ≤ jsz μ := h.1.2.2
end LAW
