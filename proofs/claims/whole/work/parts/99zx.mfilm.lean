/-! THE REFERENCE's CALLS: film; what is otherwise -/
theorem vlC_z {G : DG} : ∀ p c : Nat, (vlC G p c).1 ≠ N 0 → (vlC G p c).2 = N 0 := by
  intro p c
  have up : ∀ (w : Nat) (C : Nat → Nat → VR), (∀ p c r, C p c = some r → r.1 ≠ N 0 → r.2 = N 0) → ∀ (l : List (Nat × Nat)) (a : Option Int32) (r : VT), rfd w C l a = some r → r.1 ≠ N 0 → r.2 = N 0 := by
    intro w C hC l
    induction l with
    | nil => intro a r h g; cases h; exact absurd rfl g
    | cons q l ih =>
      intro a r h g
      unfold rfd sq at h
      rw [Option.bind_eq_some_iff] at h
      obtain ⟨t, h1, h2⟩ := h
      split at h2
      · exact ih _ _ h2 g
      · cases h2; rfl
  have upE : ∀ (L R : Nat → VR), (∀ i r, L i = some r → r.1 ≠ N 0 → r.2 = N 0) → (∀ i r, R i = some r → r.1 ≠ N 0 → r.2 = N 0) → ∀ (e : Ex) (r : VT), evE L R e = some r → r.1 ≠ N 0 → r.2 = N 0 := by
    intro L R hL hR e
    have two : ∀ (a b : Ex) (f : Int32 → Int32 → Int32), (∀ r : VT, evE L R b = some r → r.1 ≠ N 0 → r.2 = N 0) → ∀ r : VT, (sq (evE L R a) fun x => sq (evE L R b) fun y => some (N 0, f x y)) = some r → r.1 ≠ N 0 → r.2 = N 0 := by
      intro a b f _ r h g
      unfold sq at h
      rw [Option.bind_eq_some_iff] at h
      obtain ⟨t, h1, h2⟩ := h
      split at h2
      · rw [Option.bind_eq_some_iff] at h2
        obtain ⟨t', h3, h4⟩ := h2
        split at h4
        · cases h4; exact absurd rfl g
        · cases h4; rfl
      · cases h2; rfl
    induction e with
    | natCast v => intro r h g; cases h; exact absurd rfl g
    | var i => exact fun r h => hL i r h
    | num k => exact fun r h => hR _ r h
    | neg a ih =>
      intro r h g
      unfold evE sq at h
      rw [Option.bind_eq_some_iff] at h
      obtain ⟨t, h1, h2⟩ := h
      split at h2
      · cases h2; exact absurd rfl g
      · cases h2; rfl
    | pow a k ih => exact ih
    | add a b iha ihb => exact two a b _ ihb
    | sub a b iha ihb => exact two a b _ ihb
    | mul a b iha ihb => exact two a b _ ihb
    | intCast k => intro r h; cases h
  have evz : ∀ (n : Nat) (p c : Nat) (r : VT), evC G n p c = some r → r.1 ≠ N 0 → r.2 = N 0 := by
    intro n
    induction n with
    | zero => intro p c r h; simp [evC] at h
    | succ n ih =>
      intro p c r h g
      rw [evC] at h
      split at h
      · refine upE _ _ (fun i r h g => ?_) (fun i r h g => ?_) _ r h g
        · unfold evL at h
          split at h
          · cases h; rfl
          · exact ih _ _ r h g
        · unfold evR at h
          split at h
          · split at h
            · cases h; exact absurd rfl g
            · exact up _ _ ih _ _ r h g
          · cases h; rfl
      · cases h; exact absurd rfl g
  rcases (vlC_lim (G := G) (p := p) (c := c)).2 with ⟨n, hn⟩ | ⟨h1, -⟩
  · exact evz n p c _ (hn n (Nat.le_refl n))
  · intro _; rw [h1]
/-- beside the state, and sheets -/
def SNs (M a : Nat) : Prop := SN M a ∨ (M + 416 ≤ a ∧ a < M + 424)
section LAY
variable {μ μ' μ'' ν : jM} {S S' : Nat → Prop} {T T' : Nat → Nat → Prop} {M g h t s n w d D i j k x y a b c f q p H rt : Nat} {G : DG} {v : Int32} {r : VT} {σ τ : SG}
/-- changes beside the state, and sheets -/
theorem MR.asides (h : MR μ M σ) (F : Fx (SNs M) (TN M) μ μ') (hj : ∀ j, (j = 14 ∨ j = 16 ∨ j = 35 ∨ j = 36 ∨ j = 49 ∨ j = 50) → jiv μ' M j = jiv μ M j) (h13 : A3 μ' M 13) {f : Nat → Int32 × List Int32} (hf : MRs μ' M f) : FR M μ μ' ∧ MR μ' M (σ.1, σ.2.1, σ.2.2.1, σ.2.2.2.1, σ.2.2.2.2.1, f) := by
  obtain ⟨hq, hA, hg, hr, ⟨u1, u2, u3⟩, hi, ht, hc, hm, hs⟩ := h
  have fd : FD (M + 424) μ μ' := F.fd (fun a k => by unfold SNs SN at k; omega) (fun a j k => by unfold TN at k; omega)
  have iv : ∀ a, ¬ SNs M a → jiv μ' a = jiv μ a := fun a k => F.iv k
  have rest : ∀ {t g}, t < 13 → g < 4 → GW μ (aA M t g) → GW μ' (aA M t g) ∧ rG μ' (aA M t g) = rG μ (aA M t g) := by
    intro t g ht hg hG
    refine F.gw hG ?_ ?_ ?_ ?_ ?_ (fun j => ?_)
    · show ¬ SNs M (M + 46 + 5 * t + g); unfold SNs SN; omega
    · show ¬ SNs M (M + 117 + 5 * t + g); unfold SNs SN; omega
    · show ¬ SNs M (M + 188 + 5 * t + g); unfold SNs SN; omega
    · show ¬ SNs M (M + 259 + 5 * t + g); unfold SNs SN; omega
    · exact congrFun (iv (M + 30 + t) (by unfold SNs SN; omega)) _
    · show ¬ TN M (M + 330 + 5 * t + g) j; unfold TN; omega
  refine ⟨F.mono (fun a k => by unfold SNs SN at k; omega) (fun a j k => by unfold TN at k; omega), F.qs hq (fun a j k => by unfold TN at k; unfold SR; omega), fun t ht g hg => ?_, fun g hg4 => ?_, fun c hc => ?_, ⟨u1, by rw [hj 14 (by decide)]; exact u2, fun i v hv g hg3 => ?_⟩, ?_, ?_, ?_, ?_, hf⟩
  · by_cases e : t = 13
    · subst e; exact h13 g hg
    · exact (rest (by omega) hg (hA t ht g hg)).1
  · obtain ⟨z1, z2⟩ := hg g hg4
    obtain ⟨y1, y2⟩ : GW μ' (mA M g) ∧ rG μ' (mA M g) = rG μ (mA M g) := by
      refine F.gw z1.gw ?_ ?_ ?_ ?_ ?_ (fun j => ?_)
      · show ¬ SNs M (M + 3 + g); unfold SNs SN; omega
      · show ¬ SNs M (M + 8 + g); unfold SNs SN; omega
      · show ¬ SNs M (M + 13 + g); unfold SNs SN; omega
      · show ¬ SNs M (M + 18 + g); unfold SNs SN; omega
      · exact congrFun (iv (M + 1) (by unfold SNs SN; omega)) _
      · show ¬ TN M (M + 23 + g) j; unfold TN; omega
    obtain ⟨x1, x2⟩ := z1.to fd y1 y2
    exact ⟨x1, x2.trans z2⟩
  · rw [iv (M + 27) (by unfold SNs SN; omega), iv (M + 28) (by unfold SNs SN; omega)]; exact hr c hc
  · have hil : i < σ.1.2.2.length := (List.getElem?_eq_some_iff.mp hv).1
    obtain ⟨z1, z2⟩ := u3 i v hv g hg3
    obtain ⟨y1, y2⟩ := rest (t := σ.1.2.2.length - 1 - i) (g := g) (by omega) (by omega) z1.gw
    obtain ⟨x1, x2⟩ := z1.to fd y1 y2
    exact ⟨x1, x2.trans z2⟩
  · rcases hi with ⟨e, h⟩ | ⟨b, e, a1, a2, a3, a4, a5, a6⟩
    · exact Or.inl ⟨e, by rw [hj 49 (by decide)]; exact h⟩
    · refine Or.inr ⟨b, e, by rw [hj 49 (by decide)]; exact a1, fun g hg => ?_, by rw [iv (M + 415) (by unfold SNs SN; omega)]; exact a3, a4, by rw [hj 50 (by decide)]; exact a5, fun i v hv g hg => ?_⟩
      · obtain ⟨z1, z2⟩ := a2 g hg
        obtain ⟨y1, y2⟩ := rest (t := 6) (g := g) (by decide) hg z1.gw
        obtain ⟨x1, x2⟩ := z1.to fd y1 y2
        exact ⟨x1, x2.trans z2⟩
      · have hil : i < b.2.2.length := (List.getElem?_eq_some_iff.mp hv).1
        obtain ⟨z1, z2⟩ := a6 i v hv g hg
        obtain ⟨y1, y2⟩ := rest (t := 7 + (b.2.2.length - 1 - i)) (g := g) (by omega) (by omega) z1.gw
        obtain ⟨x1, x2⟩ := z1.to fd y1 y2
        exact ⟨x1, x2.trans z2⟩
  · obtain ⟨b1, b2, b3⟩ := ht
    exact ⟨b1, by rw [hj 16 (by decide)]; exact b2, by rw [iv (M + 399) (by unfold SNs SN; omega)]; exact b3⟩
  · obtain ⟨b1, b2, b3⟩ := hc
    exact ⟨b1, by rw [hj 35 (by decide)]; exact b2, by rw [iv (M + 405) (by unfold SNs SN; omega), iv (M + 406) (by unfold SNs SN; omega), iv (M + 407) (by unfold SNs SN; omega), iv (M + 408) (by unfold SNs SN; omega)]; exact b3⟩
  · show jiv μ' M 36 = _
    rw [hj 36 (by decide)]; exact hm
/-- one cell more of a grid that is asked -/
theorem r_more (h : MR μ M σ) (hg : g < 4) (h31 : jiv μ M 31 = N g) (hi : EI (σ.1.1 g) μ M []) (hp : p < (σ.1.1 g).length) (hc : c < 3) : ∃ μ2 v, jC (d + 450) 210 [.ref M, .int (N (p * 3 + c))] (jsetI μ M 33 0) = some (some (.int v), μ2) ∧ FV M μ μ2 ∧ MR μ2 M σ ∧ jiv μ2 M 31 = N g ∧ EI (σ.1.1 g) μ2 M [] ∧ jiv μ2 M 33 = (vlC (σ.1.1 g) p c).1 ∧ ((vlC (σ.1.1 g) p c).1 = N 0 → v = (vlC (σ.1.1 g) p c).2) := by
  obtain ⟨b1, b2⟩ := h.slot (j := 33) (v := N 0) (by omega)
  have e31 : jiv (jsetI μ M 33 (N 0)) M 31 = N g := (ivj (by decide)).trans h31
  obtain ⟨μ2, v, c1, c2, c3, c4, c5, c6, c7⟩ := ask_all 24 (d + 450) (jsetI μ M 33 (N 0)) [] p c (by omega) (b1.ev hg e31) List.nodup_nil (fun s hs => by cases hs) rfl hp hc (if_pos ⟨rfl, rfl⟩) hi.slot (fun s hs => by cases hs)
  have F : FV M μ μ2 := (FE.fv (FE.slot (Or.inr rfl))).trans c2.fv
  exact ⟨μ2, v, c1, F, F.mr h, (c2.2 31 (by decide) (by decide)).trans e31, c7, c3, c4⟩
/-- the first value that is otherwise than on a sheet -/
theorem r_other (h : MR μ M σ) (hs : s < 4) (hg : g < 4) (hc : c < 3) (h8 : (σ.2.2.2.2.2 s).2.length ≤ 8) : ∃ μ', jC (d + 451) 257 [.ref M, .int (N s), .int (N g), .int (N c)] μ = some (some (.int (fstO (σ.1.1 g) c (σ.2.2.2.2.2 s).2 0)), μ') ∧ FV M μ μ' ∧ MR μ' M σ := by
  obtain ⟨μ1, a1, a2, a3, a4⟩ := r_asksAnew (d := d + 450) (g := g) (G := σ.1.1 g) h.1
  have l8 := h.l8 g hg
  have lenG : ∀ {ν : jM}, MR ν M σ → jaI ν (.ref (M + 1)) (N g) = some (N (σ.1.1 g).length) := fun m => by
    obtain ⟨H1, -, -, H4, -⟩ := m.gq hg
    have ro := m.1.ro hg
    rw [H1.2.1, ← H4] at ro
    exact ro
  have fin : ∀ {ν : jM} a b c e f g x, jR (d + 451) 257 105 [a, b, c, e, f, g] [.int x] ν = some (some (.int x), ν) := fun a b c e f g x => b257_105 ..
  have loop : ∀ (m i : Nat) (ν : jM) (u5 : Value), i + m = (σ.2.2.2.2.2 s).2.length → FV M μ ν → MR ν M σ → jiv ν M 31 = N g → EI (σ.1.1 g) ν M [] → ∃ μ', jR (d + 451) 257 8 [.ref M, .int (N s), .int (N g), .int (N c), .int (N i), u5] [] ν = some (some (.int (fstO (σ.1.1 g) c ((σ.2.2.2.2.2 s).2.drop i) i)), μ') ∧ FV M μ μ' ∧ MR μ' M σ := by
    intro m
    induction m with
    | zero =>
      intro i ν u5 hi F mr h31 ei
      have hi : i = (σ.2.2.2.2.2 s).2.length := by omega
      have q := mr.1
      obtain ⟨q52, q53, q54, q55, e6, e7, e8, k8⟩ := q.sh hs
      obtain ⟨s1, s2, s3, s4⟩ := mr.2.2.2.2.2.2.2.2.2 s hs
      rw [s3] at e7
      have lg := lenG mr
      refine ⟨ν, ?_, F, mr⟩
      rw [List.drop_eq_nil_of_le (by omega)]
      rw [b257_8]
      simp only [gI13, gR13, pI13, pR13, rv13, q.k13, q53, e7, q.f.1, lg, if_true, Option.bind_some, rf_some]
      rw [if_neg (by rw [N_lt (by omega) (by omega)]; omega)]
      show (if N (σ.2.2.2.2.2 s).2.length < N (σ.1.1 g).length then _ else _) = some (some (Value.int (if (σ.1.1 g).length ≤ i then NEG else N i)), ν)
      by_cases e0 : (σ.2.2.2.2.2 s).2.length < (σ.1.1 g).length
      · rw [if_pos (by rw [N_lt (by omega) (by omega)]; exact e0), if_neg (by omega), fin, hi]
      · rw [if_neg (by rw [N_lt (by omega) (by omega)]; exact e0), if_pos (by omega), fin]
        rfl
    | succ m ih =>
      intro i ν u5 hi F mr h31 ei
      have q := mr.1
      obtain ⟨q52, q53, q54, q55, e6, e7, e8, k8⟩ := q.sh hs
      obtain ⟨s1, s2, s3, s4⟩ := mr.2.2.2.2.2.2.2.2.2 s hs
      rw [s3] at e7
      have lg := lenG mr
      have hil : i < (σ.2.2.2.2.2 s).2.length := by omega
      rw [List.drop_eq_getElem_cons hil]
      rw [b257_8]
      simp only [gI13, gR13, pI13, pR13, rv13, q.k13, q53, e7, q.f.1, lg, if_true, Option.bind_some, rf_some]
      rw [if_pos (by rw [N_lt (by omega) (by omega)]; omega)]
      unfold fstO
      by_cases e0 : (σ.1.1 g).length ≤ i
      · rw [if_neg (by rw [N_lt (by omega) (by omega)]; omega), if_pos e0]
        exact ⟨ν, rfl, F, mr⟩
      · rw [if_pos (by rw [N_lt (by omega) (by omega)]; omega), if_neg e0]
        obtain ⟨μ2, v, c1, F2, m2, h2, i2, w2, v2⟩ := r_more (d := d) mr hg h31 ei (show i < (σ.1.1 g).length by omega) hc
        have K1 : jk (jsetI ν M 33 0) M = 13 := q.k13
        have ex : (3 : Int32) * N i + N c = N (i * 3 + c) := by rw [show (3 : Int32) = N 3 from rfl, N_mul, N_add, Nat.mul_comm 3]
        simp only [jfit0, and_true, if_true, Option.bind_some, K1, ex, c1, decide_true]
        show ∃ μ', jR (d + 451) 257 48 [.ref M, .int (N s), .int (N g), .int (N c), .int (N i), u5] [.int v] μ2 = _ ∧ _
        have p := m2.1
        obtain ⟨p52, p53, p54, p55, f6, f7, f8, f9, f10⟩ := p.sh hs
        obtain ⟨t1, t2, t3, t4⟩ := m2.2.2.2.2.2.2.2.2.2 s hs
        have g1 := ent_get (μ := μ2) (i := i) f9 f10 (by omega) (by decide)
        rw [t4 i _ (List.getElem?_eq_getElem hil)] at g1
        have no : ∀ u, jR (d + 451) 257 71 [.ref M, .int (N s), .int (N g), .int (N c), .int (N i), u] [] μ2 = some (some (.int (N i)), μ2) := fun u => b257_71 ..
        rw [b257_48]
        simp only [gI13, gR13, pI13, pR13, rv13, p.k13, w2, if_true, Option.bind_some]
        by_cases z1 : (vlC (σ.1.1 g) i c).1 = N 0
        · have hv := v2 z1
          rw [if_pos (show (vlC (σ.1.1 g) i c).1 = 0 from z1)]
          simp only [p54, f8, g1, if_true, Option.bind_some, rf_some]
          by_cases z2 : v = (σ.2.2.2.2.2 s).2[i]
          · rw [if_pos z2, if_pos ⟨z1, by rw [← hv]; exact z2⟩, show (1 : Int32) = N 1 from rfl, N_add]
            exact ih (i + 1) μ2 _ (by omega) (F.trans F2) m2 h2 i2
          · rw [if_neg z2, if_neg (fun q => z2 (by rw [hv]; exact q.2)), no]
            exact ⟨μ2, rfl, F.trans F2, m2⟩
        · rw [if_neg (show ¬ (vlC (σ.1.1 g) i c).1 = 0 from z1), if_neg (fun q => z1 q.1), no]
          exact ⟨μ2, rfl, F.trans F2, m2⟩
  obtain ⟨μ', w1, w2, w3⟩ := loop (σ.2.2.2.2.2 s).2.length 0 μ1 (.retAddr 0) (by omega) a2 (a2.mr h) a3 a4
  refine ⟨μ', ?_, w2, w3⟩
  rw [jC_run (by decide)]
  show jR (d + 451) 257 0 [.ref M, .int (N s), .int (N g), .int (N c), .retAddr 0, .retAddr 0] [] μ = _
  rw [b257_0]
  simp only [gI13, gR13, pI13, pR13, rv13, h.1.k13, a1, if_true, Option.bind_some]
  show jR (d + 451) 257 5 [.ref M, .int (N s), .int (N g), .int (N c), .retAddr 0, .retAddr 0] [] μ1 = _
  rw [b257_5]
  exact w1
end LAY
