/-! THE REFERENCE: new cells -/
/-- only the reference's cells changed, and new ones -/
def FRa (M n w : Nat) (μ μ' : jM) : Prop := Fa (fun a => M ≤ a ∧ a < M + 424) (fun a _ => M ≤ a ∧ a < M + 424) n w μ μ'
/-- a call of the reference, with new cells -/
def ROPa (M n w : Nat) (run : Option (Option Value × jM)) (μ : jM) (r : RES) : Prop := ∃ μ', run = some (some (.int r.1), μ') ∧ FRa M n w μ μ' ∧ MR μ' M r.2
section LAY
variable {μ μ' μ'' ν : jM} {S S' : Nat → Prop} {T T' : Nat → Nat → Prop} {M g h t s n w d D i j k x y a b c f q p m v : Nat} {A B C : GA} {σ : SG}
theorem FRa.trans (a : FRa M n w μ μ') (b : FRa M m v μ' μ'') : FRa M (n + m) (w + v) μ μ'' := Fa.trans a b (fun a _ h => h) (fun a j _ h => h)
theorem FRa.up (a : FRa M n w μ μ') (hn : n ≤ m) (hw : w ≤ v) : FRa M m v μ μ' := Fa.mono a (fun a _ h => h) (fun a j _ h => h) hn hw
theorem FR.fa (F : FR M μ μ') (h : JW μ) : FRa M 0 0 μ μ' := Fx.fa F h
theorem ROP.al {run : Option (Option Value × jM)} {r : RES} (h : ROP M run μ r) (hj : JW μ) : ROPa M n w run μ r := by
  obtain ⟨μ', h1, h2, h3⟩ := h
  exact ⟨μ', h1, (h2.fa hj).up (Nat.zero_le _) (Nat.zero_le _), h3⟩
/-- a grid where its arrays are as they were -/
theorem gw_sameA (hj : JW μ) (hk : ∀ a, a < jsz μ → jk μ' a = jk μ a) (h : GW μ A) (h0 : jiv μ' (A.1 0) A.2 = jiv μ (A.1 0) A.2) (h1 : jiv μ' (A.1 1) = jiv μ (A.1 1)) (h2 : jiv μ' (A.1 2) = jiv μ (A.1 2)) (h3 : jiv μ' (A.1 3) = jiv μ (A.1 3)) (h4 : jrv μ' (A.1 4) = jrv μ (A.1 4)) (h5 : jiv μ' (A.1 5) = jiv μ (A.1 5)) : GW μ' A ∧ rG μ' A = rG μ A := by
  obtain ⟨e1, e2⟩ := rG_same (A := A) h0 h1 h2 h3 h4 h5
  obtain ⟨a1, a2, a3⟩ := h
  refine ⟨⟨by rw [e2, h0]; exact a1, by rw [e2]; exact a2, fun j b hb => ?_⟩, e1⟩
  rw [h4] at hb
  have := a3 j b hb
  rw [hk b (hj.lt (ne99 this (by decide)))]
  exact this
/-- what happens elsewhere leaves the reference -/
theorem MR.outa (h : MR μ M σ) (hj : JW μ) (hz : M + 424 ≤ jsz μ) (F : Fa S T n w μ μ') (hS : ∀ a, S a → a < M) (hT : ∀ a j, T a j → a < M) : MR μ' M σ := by
  have fd : FD (M + 424) μ μ' := F.fd hj (fun a _ k => by have := hS a k; omega) (fun a j _ k => by have := hT a j k; omega)
  have iv : ∀ a, M ≤ a → a < M + 424 → jiv μ' a = jiv μ a := fun a h1 h2 => F.iv (by omega) (fun k => by have := hS a k; omega)
  have rv : ∀ a, M ≤ a → a < M + 424 → jrv μ' a = jrv μ a := fun a h1 h2 => funext fun j => F.rv (by omega) (fun k => by have := hT a j k; omega)
  have hk : ∀ a, a < jsz μ → jk μ' a = jk μ a := fun a ha => F.kk ha
  have mg : ∀ g, g < 4 → GW μ (mA M g) → GW μ' (mA M g) ∧ rG μ' (mA M g) = rG μ (mA M g) := fun g hg hw => gw_sameA hj hk hw (congrFun (iv (M + 1) (by omega) (by omega)) _) (iv (M + 3 + g) (by omega) (by omega)) (iv (M + 8 + g) (by omega) (by omega)) (iv (M + 13 + g) (by omega) (by omega)) (rv (M + 23 + g) (by omega) (by omega)) (iv (M + 18 + g) (by omega) (by omega))
  have ag : ∀ t g, t < 14 → g < 4 → GW μ (aA M t g) → GW μ' (aA M t g) ∧ rG μ' (aA M t g) = rG μ (aA M t g) := fun t g ht hg hw => gw_sameA hj hk hw (congrFun (iv (M + 30 + t) (by omega) (by omega)) _) (iv (M + 46 + 5 * t + g) (by omega) (by omega)) (iv (M + 117 + 5 * t + g) (by omega) (by omega)) (iv (M + 188 + 5 * t + g) (by omega) (by omega)) (rv (M + 330 + 5 * t + g) (by omega) (by omega)) (iv (M + 259 + 5 * t + g) (by omega) (by omega))
  have iM : jiv μ' M = jiv μ M := iv M (Nat.le_refl _) (by omega)
  obtain ⟨hq, hA, hg, hr, hu, hi, ht, hc, hm, hs⟩ := h
  refine ⟨hq.out hz F (fun a j k h1 h2 => by have := hT a j k; omega), fun t ht g hg => (ag t g ht hg (hA t ht g hg)).1, fun g hg4 => ?_, fun c hc => ?_, hu.keep fd (by rw [iM]) (fun t g ht hg hw => ag t g ht hg hw), hi.keep fd (by rw [iM]) (by rw [iM]) (iv _ (by omega) (by omega)) (fun t g _ ht hg hw => ag t g ht hg hw), ?_, hc.keep (fun a ha => iv a (by omega) (by omega)), ?_, fun i hi => ?_⟩
  · obtain ⟨z1, z2⟩ := hg g hg4
    obtain ⟨y1, y2⟩ := mg g hg4 z1.gw
    obtain ⟨x1, x2⟩ := z1.to fd y1 y2
    exact ⟨x1, x2.trans z2⟩
  · rw [iv (M + 27) (by omega) (by omega), iv (M + 28) (by omega) (by omega)]; exact hr c hc
  · obtain ⟨b1, b2, b3⟩ := ht
    exact ⟨b1, by rw [iM]; exact b2, by rw [iv (M + 399) (by omega) (by omega)]; exact b3⟩
  · show jiv μ' M 36 = _
    rw [iM]; exact hm
  · rw [iv (M + 416) (by omega) (by omega), iv (M + 417) (by omega) (by omega), iv (M + 419 + i) (by omega) (by omega)]
    exact hs i hi
end LAY
