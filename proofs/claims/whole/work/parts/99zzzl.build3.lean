/-! CONSTRUCTORS: arrays of arrays of arrays -/
section BLDM
variable {μ : jM} {p p' W W' k n w o j t m r ko ki kt : Nat} {L L' : Nat → Nat × Nat} {I I' : Nat → Nat → Int32} {R R' : Nat → Nat → Option Nat} {v : Int32}
theorem bld_fill3 : ∀ i, jfill3 (bld μ p W L I R) kt ko ki n m r i = bld μ (p + 1 + i * (1 + m)) (W + n + i * (m + m * r)) (f3L p kt ko ki n m r L) (f2I p I) (f3R p i m R)
  | 0 => by
    show jnew (bld μ p W L I R) kt n n = _
    rw [bld_new]
    refine bld_congr (by omega) (by omega) (fun o ho => ?_) (fun o j ho => ?_) (fun o j ho => ?_)
    · unfold f3L
      by_cases e : o = p
      · rw [if_pos e, if_neg (by omega), if_pos e]
      · rw [if_neg e, if_pos (by omega)]
    · unfold f2I
      by_cases e : o = p
      · rw [if_pos e, if_neg (by omega)]
      · rw [if_neg e, if_pos (by omega)]
    · unfold f3R
      by_cases e : o = p
      · rw [if_pos e, if_neg (by omega), if_pos e, if_neg (by omega)]
      · rw [if_neg e, if_pos (by omega)]
  | i + 1 => by
    show jsetR (jfill2 (jfill3 (bld μ p W L I R) kt ko ki n m r i) ko ki m r m) (jsz μ + p) i (some (jsz μ + p + 1 + i * (1 + m))) = _
    rw [bld_fill3 i, bld_fill2, show jsz μ + p + 1 + i * (1 + m) = jsz μ + (p + 1 + i * (1 + m)) by omega, bld_setR (by omega)]
    have e1 : (i + 1) * (1 + m) = i * (1 + m) + (1 + m) := Nat.succ_mul ..
    have e2 : (i + 1) * (m + m * r) = i * (m + m * r) + (m + m * r) := Nat.succ_mul ..
    have hz : ∀ z, (i * (1 + m) + z) % (1 + m) = z % (1 + m) := fun z => by rw [Nat.add_comm, Nat.add_mul_mod_self_right]
    rw [e1, e2]
    generalize hq : i * (1 + m) = q at *
    generalize i * (m + m * r) = q2 at *
    refine bld_congr (by omega) (by omega) (fun o ho => ?_) (fun o j ho => ?_) (fun o j ho => ?_)
    · unfold f2L
      by_cases h1 : o < p + 1 + q
      · rw [if_pos h1]
      · rw [if_neg h1]
        have hm : (o - p - 1) % (1 + m) = o - (p + 1 + q) := by
          rw [show o - p - 1 = q + (o - (p + 1 + q)) by omega, hz, Nat.mod_eq_of_lt (by omega)]
        unfold f3L
        rw [if_neg (show ¬ o < p by omega), if_neg (show ¬ o = p by omega), hm]
        by_cases h2 : o = p + 1 + q
        · rw [if_pos h2, if_pos (by omega)]
        · rw [if_neg h2, if_neg (by omega)]
    · unfold f2I
      by_cases h1 : o < p + 1 + q
      · rw [if_pos h1]
      · rw [if_neg h1, if_neg (by omega)]
    · by_cases h0 : o = p ∧ j = i
      · rw [if_pos h0]
        unfold f3R
        rw [if_neg (show ¬ o < p by omega), if_pos h0.1, if_pos (by omega), h0.2]
        exact congrArg some (by omega)
      · rw [if_neg h0]
        unfold f2R
        by_cases h1 : o < p + 1 + q
        · rw [if_pos h1]
          unfold f3R
          by_cases h2 : o < p
          · rw [if_pos h2, if_pos h2]
          · rw [if_neg h2, if_neg h2]
            by_cases h3 : o = p
            · rw [if_pos h3, if_pos h3]
              by_cases h4 : j < i
              · rw [if_pos h4, if_pos (by omega)]
              · rw [if_neg h4, if_neg (by omega)]
            · rw [if_neg h3, if_neg h3]
        · rw [if_neg h1]
          have hm : (o - p - 1) % (1 + m) = o - (p + 1 + q) := by
            rw [show o - p - 1 = q + (o - (p + 1 + q)) by omega, hz, Nat.mod_eq_of_lt (by omega)]
          unfold f3R
          rw [if_neg (show ¬ o < p by omega), if_neg (show ¬ o = p by omega), hm]
          by_cases h2 : o = p + 1 + q ∧ j < m
          · rw [if_pos h2, if_pos ⟨by omega, h2.2⟩, h2.1]
          · rw [if_neg h2, if_neg (fun z => h2 ⟨by omega, z.2⟩)]
end BLDM
