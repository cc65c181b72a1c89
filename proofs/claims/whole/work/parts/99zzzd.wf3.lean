/-! WHAT EVERY CALL KEEPS: a clash settled; what it gives; the start -/
section WFS
variable {σ : SG} {G V : DG} {g r c k a b s m n : Nat} {l : List CL} {x : Int32}
theorem w_settle (h : WFk σ) (i y : Int32) : WFk (o_settle σ i y).2 := by
  unfold o_settle
  split
  · exact h
  · cases ei : ix σ.2.2.2.1.length i with
    | none => exact h
    | some i0 =>
      show WFk (match σ.2.2.2.1[i0]? with
        | none => (aOUT, σ)
        | some c => if c.2.2.2 = N 1 then (aSTATE, σ) else (N (unsN (σ.2.2.2.1.set i0 (c.1, c.2.1, c.2.2.1, N 1))), scl (stg σ 3 (pSet (σ.1.1 3) (σ.1.1 (sby y)) c.1 c.2.1 c.2.2.1)) (σ.2.2.2.1.set i0 (c.1, c.2.1, c.2.2.1, N 1)) σ.2.2.2.2.1) : RES).2
      cases ec : σ.2.2.2.1[i0]? with
      | none => exact h
      | some c =>
        show WFk (if c.2.2.2 = N 1 then _ else _ : RES).2
        split
        · exact h
        · obtain ⟨⟨h1, h2, h3⟩, h4, ⟨c1, c2, c3⟩, h6⟩ := h
          have g3 := h2 3 (by decide)
          have hi := (List.getElem?_eq_some_iff.mp ec).1
          have gp : GOk (pSet (σ.1.1 3) (σ.1.1 (sby y)) c.1 c.2.1 c.2.2.1) := by
            rcases ky1_pSet (G := σ.1.1 3) (S := σ.1.1 (sby y)) (kd := c.1) (key := c.2.1) (col := c.2.2.1) with e | ⟨-, p, -, e⟩
            · exact g3.ky e
            · rw [e]
              exact g3.sub ky1_erase
          have get : ∀ (j : Nat) (e : CL), (σ.2.2.2.1.set i0 (c.1, c.2.1, c.2.2.1, N 1))[j]? = some e → (j = i0 ∧ e = (c.1, c.2.1, c.2.2.1, N 1)) ∨ (j ≠ i0 ∧ σ.2.2.2.1[j]? = some e) := fun j e he => by
            by_cases ej : j = i0
            · subst ej
              rw [List.getElem?_set_self hi] at he
              exact Or.inl ⟨rfl, (Option.some.inj he).symm⟩
            · rw [List.getElem?_set_ne (fun q => ej q.symm)] at he
              exact Or.inr ⟨ej, he⟩
          refine ⟨⟨h1, fun g hg => ?_, h3⟩, h4, ⟨fun e he => ?_, fun e he h0 => ?_, fun j j' e e' hj hj' hne hk => ?_⟩, h6⟩
          · show GOk (if g = 3 then _ else σ.1.1 g)
            split
            · exact gp
            · exact h2 g hg
          · obtain ⟨j, hj⟩ := List.mem_iff_getElem?.mp he
            rcases get j e hj with ⟨-, rfl⟩ | ⟨-, q⟩
            · exact Or.inr rfl
            · exact c1 e (List.mem_of_getElem? q)
          · obtain ⟨j, hj⟩ := List.mem_iff_getElem?.mp he
            rcases get j e hj with ⟨-, rfl⟩ | ⟨hji, q⟩
            · exact absurd (show N 1 = N 0 from h0) (by decide)
            · obtain ⟨a1, a2⟩ := c2 e (List.mem_of_getElem? q) h0
              refine ⟨?_, a2⟩
              show e.2.1 ∈ ky1 (if (3 : Nat) = 3 then pSet (σ.1.1 3) (σ.1.1 (sby y)) c.1 c.2.1 c.2.2.1 else σ.1.1 3)
              rw [if_pos rfl]
              rcases ky1_pSet (G := σ.1.1 3) (S := σ.1.1 (sby y)) (kd := c.1) (key := c.2.1) (col := c.2.2.1) with e1 | ⟨n13, p, hp, e1⟩
              · rw [e1]; exact a1
              · rw [e1]
                exact mem_erase hp a1 (fun q2 => n13 (c3 i0 j c e ec q (fun z => hji z.symm) q2.symm))
          · have lift : ∀ (j : Nat) (e : CL), (σ.2.2.2.1.set i0 (c.1, c.2.1, c.2.2.1, N 1))[j]? = some e → ∃ e0, σ.2.2.2.1[j]? = some e0 ∧ e0.1 = e.1 ∧ e0.2.1 = e.2.1 := fun j e he => by
              rcases get j e he with ⟨rfl, rfl⟩ | ⟨-, q⟩
              · exact ⟨c, ec, rfl, rfl⟩
              · exact ⟨e, q, rfl, rfl⟩
            obtain ⟨e0, q1, q2, q3⟩ := lift j e hj
            obtain ⟨f0, r1, r2, r3⟩ := lift j' e' hj'
            rw [← q2]
            exact c3 j j' e0 f0 q1 r1 hne (by rw [q3, r3]; exact hk)
theorem WFk.wm (h : WFk σ) : WM σ := ⟨h.1.1, fun g hg => h.1.2.1 g hg⟩
theorem WFk.kk (h : WFk σ) : ∀ g, g < 4 → KK (σ.1.1 g) := fun g hg => (h.1.2.1 g hg).1
theorem WFk.kz (h : WFk σ) : ∀ g, g < 4 → KZ (σ.1.1 g) := fun g hg => (h.1.2.1 g hg).1.kz
theorem WFk.cw (h : WFk σ) : CW σ := fun c hc hn => by
  obtain ⟨c1, c2, -⟩ := h.2.2.1
  have h0 : c.2.2.2 = N 0 := (c1 c hc).resolve_right hn
  obtain ⟨a1, a2⟩ := c2 c hc h0
  refine ⟨?_, a2⟩
  cases e : lfind c.2.1 (σ.1.1 3) with
  | none => exact absurd a1 (lfind_nin.mp e)
  | some p => exact ⟨p, rfl⟩
theorem WFk.se (h : WFk σ) : ∀ c, c ∈ σ.2.2.2.1 → c.2.2.2 = N 0 ∨ c.2.2.2 = N 1 := h.2.2.1.1
/-- at the start -/
def sg0 : SG := ((fun _ => [], fun _ => (0, 0), []), none, [], [], false, fun _ => (NEG, []))
theorem wf_0 : WFk sg0 := by
  have g0 : GOk [] := ⟨fun w hw => absurd hw List.not_mem_nil, List.nodup_nil⟩
  exact ⟨⟨fun c _ => ⟨(by decide : (0 : Nat) < 6), (by decide : (0 : Nat) < 100)⟩, fun g _ => g0, fun u hu => absurd hu List.not_mem_nil⟩, (fun b hb => by cases hb), COk.nil, fun s _ => Or.inl rfl⟩
end WFS
