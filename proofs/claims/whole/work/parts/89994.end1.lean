/-! bus, and what every call keeps -/
theorem e_bus : E_bus RelW := by
  intro x S P Y Z W h
  exact ⟨fun hx => bus_thr h hx, fun n hx hn hl => ⟨fun q => bus_no h hx hn hl q, fun q => bus_yes h hx hn hl q⟩⟩
theorem eq_ok : EqOk RelW := by
  intro S P Y Z W h
  obtain ⟨c1, c2, c3, c4, c5, c6, c7⟩ := h.1
  refine ⟨⟨h.2.2.1.1.wP, c1, c2, c3, c4, c5, c6, c7, fun n hn hl hq => ?_⟩, h.2.1, ?_⟩
  · obtain ⟨Q, U, e1, -, ⟨t1, t2, t3⟩, hR, hy, t6⟩ := h.txt (x := nI n) rfl hn hl
    obtain ⟨kc, c, hp⟩ : Kc (Z 506) (Q 40) U ∧ ∃ c, PlR c Q U := by
      rcases t6 with a | a
      · exact a
      · rw [e1] at hq; exact absurd hq a.ne
    have w1 : ∀ k, k < 53 → U k = W k := fun k hk => by rw [t1 k hk, u2_k (by omega)]
    have w2 : ∀ i, i < 46 → i ≠ 18 → i ≠ 32 → i ≠ 33 → U 100 i = W 100 i := fun i a b c d => by rw [t2 i a c d, u2_i b rfl]
    have hY := h.2.2.2.2.2.2
    have r := rel_txt (Y' := Y) h w1 w2 t3 hR (v := Q 40 0) kc.2.2.1.2 hY
    obtain ⟨m1, -, -, -, -, -, -, -, -, -, m11, -⟩ := r.2.1
    obtain ⟨n1, n2, -⟩ := new_all hp hR hy hY m1 m11
    unfold bsP
    rw [e1]
    exact ⟨n1, n2⟩
  · unfold pN
    rw [h.2.2.2.2.2.1.1]
/-! the start -/
theorem ly_nil {V : Zf} (h0 : pN V 100 20 = 0) (h1 : pN V 100 21 = 0) : f_Mod_laysCycle V 100 42 = 0 ∧ f_Mod_laysCycle V 100 43 = 0 := by
  have a := (s_laysCycle_12 1001 (u2 (u2 V 100 43 0) 100 42 0) 0 (by omega) (by omega)).1 100 (by decide)
  have b := (s_laysCycle_34 6 (f_Mod_laysCycle_12 1001 (u2 (u2 V 100 43 0) 100 42 0) 0) 0 (by omega) (by omega)).1 100 (by decide)
  have d := (s_laysCycle_54 11 (f_Mod_laysCycle_34 6 (f_Mod_laysCycle_12 1001 (u2 (u2 V 100 43 0) 100 42 0) 0) 0) 0 (by omega) (by omega)).1 100 (by decide)
  rw [b, a] at d
  unfold f_Mod_laysCycle
  generalize f_Mod_laysCycle_54 11 (f_Mod_laysCycle_34 6 (f_Mod_laysCycle_12 1001 (u2 (u2 V 100 43 0) 100 42 0) 0) 0) 0 = X at d ⊢
  have x20 : pN X 100 20 = 0 := by unfold pN at *; rw [d, u2_i (by decide) rfl, u2_i (by decide) rfl]; exact h0
  have x21 : pN X 100 21 = 0 := by unfold pN at *; rw [d, u2_i (by decide) rfl, u2_i (by decide) rfl]; exact h1
  rw [f_Mod_laysCycle_75, if_pos (by omega), f_Mod_laysCycle_119, if_pos (by omega), d, u2_s, u2_i (by decide) rfl, u2_s]
  exact ⟨rfl, rfl⟩
