/-! the clauses one after the other -/
theorem rb_rel {B : Nat → Int32} {nb c : Nat} {Z V : Zf} (h : Kt B (Z 40) V) (h3 : Z 30 3 = nI nb) (hb : nb < 11) :
    (∃ v Q U, (v ≤ 9 ∧ v < nb) ∧ (f_Reader_readBlockNumber B Z).2 = va_up Z 40 Q ∧ rbN B Z = v ∧ f_Mod_named (nI 9) (nI nb) V = (nI v, U) ∧ Kt B Q U ∧ RFr (Z 40) Q ∧ KG V U) ∨
    (∃ Q U, (f_Reader_readBlockNumber B Z).2 = va_up Z 40 Q ∧ f_Mod_named (nI 9) (nI nb) V = (0, U) ∧ Bad Q U) := by
  have e30 : ∀ Q, pN (va_up Z 40 Q) 30 3 = nb := fun Q => pN_mk (by omega) (by rw [up_ne (by decide) rfl]; exact h3)
  unfold f_Reader_readBlockNumber f_Reader_readBlockNumber_8 rbN
  rw [e30]
  rcases nam_rel (hi := 9) (d := nb) h (by omega) (by omega) with ⟨v, Q, U, a1, a2, a3, a4, a5, a6⟩ | ⟨v, Q, U, a1, a2, a3, a4, a5⟩ | ⟨Q, U, a2, a3, a4⟩
  · left
    rw [rn_1 a2 (by omega), rn_2 a2, if_pos a1.2]
    exact ⟨v, Q, U, a1, rfl, rfl, a3, a4, a5, a6⟩
  · right
    rw [rn_1 a2 (by omega), rn_2 a2, if_neg (show ¬ v < nb by omega), up_same, up_up]
    exact ⟨_, U, rfl, a3, a4⟩
  · right
    rw [rn_1 a2 (by omega), rn_2 a2]
    refine ⟨Q, U, ?_, a3, a4⟩
    rw [up_f (by rw [up_same]; exact a4.ne)]
    split <;> rfl
theorem lm_38 {R : Nat → Int32} {V : Zf} {f : Nat} (h : Bad R V) : Bad R (f_Mod_link1_38 V f) := by
  unfold f_Mod_link1_38 f_Mod_link1_49
  rw [na_b h.2.1, if_neg h.2.1]; exact h
theorem lm_49 {R : Nat → Int32} {V : Zf} {f t : Nat} (h : Bad R V) : Bad R (f_Mod_link1_49 V f t) := by
  unfold f_Mod_link1_49
  rw [if_neg h.2.1]; exact h
