/-! image and restore, alike on both sides -/
theorem e_image : E_image RelW := by
  intro S P Y Z W s h hs
  obtain ⟨⟨g1, g2, g3, g4, g5, g6, g7⟩, h2, ⟨h3, h4⟩, ⟨a1, a2, a3, a4⟩, ⟨b1, b2⟩, ⟨c1, c2, c3⟩, h7⟩ := h
  obtain ⟨q1, q2, ⟨q3, q4⟩, q5, q6, q7, q8, q9, q10⟩ := ci_sp (P := P) (Z := Z) g1.1.2
  obtain ⟨v1, v2, v3, ⟨v4, v5, v6, v7⟩, v8, v9, ⟨v10, v11⟩, v12⟩ := mi_sp (W := W)
  generalize f_Bus_image P Z = Q at *
  generalize f_Mod_image W = V at *
  have p403 : pN Q 403 0 = pN Z 303 0 := pN_mk (by have := g2.1.2; omega) q3
  have p4031 : pN Q 403 1 = 0 := pN_mk (by decide) q4
  have p410 : pN Q 410 0 = pN Z 310 0 := pN_mk (by have := g1.1.2; omega) q6
  have n40 := g2.1.2
  have ac := h2.2.1
  have p28 : pN V 100 28 = pN W 100 25 := by unfold pN; rw [v5]
  have p27 : pN V 100 27 = pN W 100 24 := by unfold pN; rw [v4]
  refine ⟨⟨?_, ?_, ?_, g4, ?_, ?_, ?_⟩, ?_, ⟨?_, ?_⟩, ⟨?_, ?_, ?_, ?_⟩, ⟨?_, ?_⟩, ⟨?_, ?_, ?_⟩, h7⟩
  · unfold NtI pN at *
    rw [q1 310 (by omega) (by omega) (by omega) (by omega) (by omega) (by omega), q1 311 (by omega) (by omega) (by omega) (by omega) (by omega) (by omega), q1 312 (by omega) (by omega) (by omega) (by omega) (by omega) (by omega)]; exact g1
  · unfold HiI pN at *
    rw [q1 303 (by omega) (by omega) (by omega) (by omega) (by omega) (by omega)]; exact g2
  · unfold pN at *
    rw [q9 1 (by decide)]; exact g3
  · intro k hk
    have e0 : pN Q 303 0 = pN Z 303 0 := by unfold pN; rw [q1 303 (by omega) (by omega) (by omega) (by omega) (by omega) (by omega)]
    have e1 : pN Q 303 1 = pN Z 303 1 := by unfold pN; rw [q1 303 (by omega) (by omega) (by omega) (by omega) (by omega) (by omega)]
    rw [e0] at hk
    rw [e1]; exact g5 k hk
  · exact Or.inr q10
  · intro _
    refine ⟨⟨⟨by rw [p403]; exact q3, by omega⟩, by rw [p4031]; exact q4, by omega⟩, fun k hk => ?_, by rw [p410]; exact q6, by have := g1.1.2; omega⟩
    rw [p403] at hk
    rw [p4031, show (0 + k) % 40 = k by omega]
    exact hs k hk
  · obtain ⟨m1, m2, m3, m4, m5, m6, m7, m8, m9, m10, m11, m12⟩ := h2
    refine ⟨?_, m2.of (v8 _ (by omega) (by omega)) (v8 _ (by omega) (by omega)), ?_, ?_, ?_, ?_, ?_, ?_, ?_, ?_, ?_, ?_⟩
    · unfold wfM isN pN at *
      rw [v12 3 (by omega) (by omega) (by omega) (by omega) (by omega) (by omega), v12 1 (by omega) (by omega) (by omega) (by omega) (by omega) (by omega), v12 8 (by omega) (by omega) (by omega) (by omega) (by omega) (by omega), v12 9 (by omega) (by omega) (by omega) (by omega) (by omega) (by omega), v12 10 (by omega) (by omega) (by omega) (by omega) (by omega) (by omega), v12 34 (by omega) (by omega) (by omega) (by omega) (by omega) (by omega), v12 4 (by omega) (by omega) (by omega) (by omega) (by omega) (by omega), v12 11 (by omega) (by omega) (by omega) (by omega) (by omega) (by omega), v12 13 (by omega) (by omega) (by omega) (by omega) (by omega) (by omega), v8 20 (by omega) (by omega), v8 21 (by omega) (by omega), v8 19 (by omega) (by omega)]; exact m1
    · unfold TkI hasT pN at *
      rw [v12 34 (by omega) (by omega) (by omega) (by omega) (by omega) (by omega), v8 20 (by omega) (by omega)]; exact m3
    · obtain ⟨n1, n2⟩ := m4
      refine ⟨by unfold pN at *; rw [v8 26 (by omega) (by omega)]; exact n1, fun i hi => ?_⟩
      unfold pN at *
      by_cases z : i < 6
      · rw [(v9 14 (by omega)).1 i z]; exact n2 i hi
      · rw [show i = 6 + (i - 6) by omega, (v9 14 (by omega)).2 (i - 6) (by omega)]; exact n2 (i - 6) (by omega)
    · exact m5.of (v12 2 (by omega) (by omega) (by omega) (by omega) (by omega) (by omega)) (v12 8 (by omega) (by omega) (by omega) (by omega) (by omega) (by omega)) (v12 9 (by omega) (by omega) (by omega) (by omega) (by omega) (by omega)) (v8 20 (by omega) (by omega)) (v8 21 (by omega) (by omega))
    · unfold isN pN at *
      rw [v12 2 (by omega) (by omega) (by omega) (by omega) (by omega) (by omega)]; exact m6
    · rw [v1 206 (by omega)]; exact m7
    · unfold pN at *
      rw [v8 19 (by omega) (by omega)]; exact m8
    · unfold RwI iNr at *
      rw [v12 53 (by omega) (by omega) (by omega) (by omega) (by omega) (by omega), v12 54 (by omega) (by omega) (by omega) (by omega) (by omega) (by omega), v12 55 (by omega) (by omega) (by omega) (by omega) (by omega) (by omega), v12 56 (by omega) (by omega) (by omega) (by omega) (by omega) (by omega), v12 60 (by omega) (by omega) (by omega) (by omega) (by omega) (by omega), v12 61 (by omega) (by omega) (by omega) (by omega) (by omega) (by omega), v12 62 (by omega) (by omega) (by omega) (by omega) (by omega) (by omega)]; exact m9
    · unfold VvI pN at *
      rw [v8 50 (by omega) (by omega)]; exact m10
    · unfold isN pN at *
      rw [v12 2 (by omega) (by omega) (by omega) (by omega) (by omega) (by omega)]; exact m11
    · unfold pN at *
      rw [v8 32 (by omega) (by omega)]; exact m12
  · exact h3.cg (fun k hk => v12 k (by omega) (by omega) (by omega) (by omega) (by omega) (by omega)) (fun i hi => v8 i (by omega) (by omega))
  · exact h4.cg (fun k hk => v12 k (by omega) (by omega) (by omega) (by omega) (by omega) (by omega)) (fun i hi => v8 i (by omega) (by omega))
  · rw [q1 302 (by omega) (by omega) (by omega) (by omega) (by omega) (by omega)]
    exact a1.cg (fun _ _ => rfl) (fun i hi => v1 _ (by omega))
  · exact a2.cg (q1 _ (by omega) (by omega) (by omega) (by omega) (by omega) (by omega)) (fun p hp => q1 _ (by omega) (by omega) (by omega) (by omega) (by omega) (by omega)) (v8 _ (by omega) (by omega)) (v8 _ (by omega) (by omega)) (fun i x1 x2 => v1 _ (by omega))
  · obtain ⟨n1, n2⟩ := a3
    refine ⟨by rw [q1 310 (by omega) (by omega) (by omega) (by omega) (by omega) (by omega), v8 26 (by omega) (by omega)]; exact n1, fun k hk => ?_⟩
    have e0 : pN Q 310 0 = pN Z 310 0 := by unfold pN; rw [q1 310 (by omega) (by omega) (by omega) (by omega) (by omega) (by omega)]
    rw [e0] at hk
    have b7 := g1.1.2
    rw [Nat.zero_add, (v9 14 (by omega)).1 k (by omega), (v9 15 (by omega)).1 k (by omega), (v9 16 (by omega)).1 k (by omega), q1 (310 + 1) (by omega) (by omega) (by omega) (by omega) (by omega) (by omega), q1 (310 + 2) (by omega) (by omega) (by omega) (by omega) (by omega) (by omega), q1 (310 + 3) (by omega) (by omega) (by omega) (by omega) (by omega) (by omega)]
    have := n2 k hk
    rw [Nat.zero_add] at this
    exact this
  · intro k hk
    rw [q1 305 (by omega) (by omega) (by omega) (by omega) (by omega) (by omega), Nat.zero_add, v10 k hk]
    have := a4 k hk
    rw [Nat.zero_add] at this
    exact this
  · rw [q10, v7]
  · intro _
    refine ⟨⟨?_, ?_, ?_, ?_⟩, ?_, ?_⟩
    · rw [q2]
      refine a1.cg (fun _ _ => rfl) (fun i hi => ?_)
      rw [v2 i hi, Nat.zero_add]
    · refine ⟨by rw [q3, v4, ← a2.1]; exact g2.1.1.symm, fun k hk => ?_⟩
      rw [p403] at hk
      rw [p4031, p28, show (0 + k) % 40 = k by omega, q5 k hk]
      refine (a2.2 k hk).cg (fun _ _ => rfl) (fun i hi => ?_)
      rw [show 9240 + 210 * ((pN W 100 25 + k) % 40) + i = 9240 + (210 * ((pN W 100 25 + k) % 40) + i) by omega, v3 _ (by omega)]
      congr 1
      omega
    · refine ⟨by rw [q6, v6, ← a3.1]; exact g1.1.1.symm, fun k hk => ?_⟩
      rw [p410] at hk
      have b7 := g1.1.2
      rw [(v9 14 (by omega)).2 k (by omega), (v9 15 (by omega)).2 k (by omega), (v9 16 (by omega)).2 k (by omega), q7 1 (by omega) k hk, q7 2 (by omega) k hk, q7 3 (by omega) k hk]
      have := a3.2 k hk
      rw [Nat.zero_add] at this
      exact this
    · intro k hk
      rw [q8 k hk, v11 k hk]
      have := a4 k hk
      rw [Nat.zero_add] at this
      exact this
    · refine ⟨⟨by rw [p27, v4]; exact ac.1.1, by rw [p27]; exact ac.1.2⟩, by rw [p28, v5]; exact ac.2.1, by rw [p28]; exact ac.2.2⟩
    · intro k hk
      rw [p410] at hk
      have x1 := q7 1 (by omega) k hk
      have x2 := q7 2 (by omega) k hk
      unfold pN
      rw [show Q 411 k = Z 311 k from x1, show Q 412 k = Z 312 k from x2]
      exact ⟨g1.2.1 k, g1.2.2 k⟩
  · rw [q9 1 (by decide), v8 32 (by omega) (by omega)]; exact c1
  · rw [q9 2 (by decide), v8 33 (by omega) (by omega)]; exact c2
  · intro i hi
    have e : pN Q 507 1 = pN Z 507 1 := by unfold pN; rw [q9 1 (by decide)]
    rw [e] at hi
    rw [q1 506 (by omega) (by omega) (by omega) (by omega) (by omega) (by omega), v12 31 (by omega) (by omega) (by omega) (by omega) (by omega) (by omega)]
    exact c3 i hi
theorem e_restore : E_restore RelW := by
  intro S S' P Y Z W h hl hS
  have h0 := h.u0
  show (f_Bus_restore P Z).1 = (f_Mod_restore W).1 ∧ RelW S' P Y (f_Bus_restore P Z).2 (f_Mod_restore W).2
  replace hl : HiL (f_Bus_restore P Z).2 S' := hl h.1.2.2.2.2.1
  have e7 := h.2.2.2.2.1.1
  unfold f_Bus_restore at hl ⊢
  by_cases q : Z 507 7 = 0
  · rw [if_pos q] at hl ⊢
    have w7 : u2 W 100 18 0 100 30 = 0 := by rw [u2_i (by decide) rfl, ← e7]; exact q
    unfold f_Mod_restore
    rw [if_pos w7]
    refine ⟨q, ?_⟩
    obtain ⟨⟨g1, g2, g3, g4, g5, g6, g7⟩, hr⟩ := h0
    exact ⟨⟨g1, g2, g3, g4, hl, g6, fun z => absurd q z⟩, hr⟩
  · rw [if_neg q] at hl ⊢
    have w7 : ¬ W 100 30 = 0 := by rw [← e7]; exact q
    obtain ⟨⟨g1, g2, g3, g4, g5, g6, g7⟩, h2, ⟨h3, h4⟩, ⟨a1, a2, a3, a4⟩, ⟨b1, b2⟩, ⟨c1, c2, c3⟩, h7⟩ := h
    obtain ⟨i1, i2, i3, i4⟩ := g7 q
    obtain ⟨⟨d1, d2, d3, d4⟩, d5, d6⟩ := b2 q
    obtain ⟨q1, q2, ⟨q3, q4⟩, q5, q6, q7, q8⟩ := cr_sp (P := P) (Z := Z) i4
    obtain ⟨v0, v1, v2, v2b, ⟨v4, v5, v6⟩, v8, v9, ⟨v10, v11⟩, v12⟩ := mr_sp w7
    generalize f_MemR P Z = Q at *
    generalize f_Mod_restore W = R at *
    have z1 : Z 507 7 = 1 := g6.resolve_left q
    have p403 : pN Q 303 0 = pN Z 403 0 := pN_mk (by have := i1.1.2; omega) q3
    have p4031 : pN Q 303 1 = 0 := pN_mk (by decide) q4
    have p410 : pN Q 310 0 = pN Z 410 0 := pN_mk (by omega) q6
    have n40 := i1.1.2
    have p28 : pN R.2 100 25 = pN W 100 28 := by unfold pN; rw [v5]
    have p27 : pN R.2 100 24 = pN W 100 27 := by unfold pN; rw [v4]
    have qq : ∀ k, k ≠ 302 → k ≠ 303 → k ≠ 305 → (k < 310 ∨ 313 < k) → (k < 1000 ∨ k % 2 = 1) → Q k = Z k := q1
    have vv : ∀ k, k ≠ 0 → k ≠ 14 → k ≠ 15 → k ≠ 16 → k ≠ 17 → k ≠ 100 → R.2 k = W k := v12
    refine ⟨by show Q 507 7 = R.1; rw [qq 507 (by omega) (by omega) (by omega) (by omega) (by omega), v0]; exact z1, ?_⟩
    have x410 : pN R.2 100 26 = pN Z 410 0 := by unfold pN; rw [v6, ← d3.1]
    refine ⟨⟨?_, ?_, ?_, g4, hl, ?_, ?_⟩, ?_, ⟨?_, ?_⟩, ⟨?_, ?_, ?_, ?_⟩, ⟨?_, ?_⟩, ⟨?_, ?_, ?_⟩, h7⟩
    · refine ⟨⟨by rw [p410]; exact q6, by show pN Q 310 0 < 7; omega⟩, fun i => ?_, fun i => ?_⟩
      · show Q 311 i = nI (pN Q 311 i) ∧ pN Q 311 i < 10
        unfold pN
        rw [show Q 311 i = _ from q7 1 (by omega) i]
        by_cases z : i < pN Z 410 0
        · rw [if_pos z]; exact (d6 i z).1
        · rw [if_neg z]; exact g1.2.1 i
      · show Q 312 i = nI (pN Q 312 i) ∧ pN Q 312 i < 21
        unfold pN
        rw [show Q 312 i = _ from q7 2 (by omega) i]
        by_cases z : i < pN Z 410 0
        · rw [if_pos z]; exact (d6 i z).2
        · rw [if_neg z]; exact g1.2.2 i
    · exact ⟨⟨by rw [p403]; exact q3, by show pN Q 303 0 ≤ 40; omega⟩, by rw [p4031]; exact q4, by show pN Q 303 1 < 40; omega⟩
    · show Q 507 1 = nI (pN Q 507 1) ∧ pN Q 507 1 ≤ 900
      unfold pN at *
      rw [qq 507 (by omega) (by omega) (by omega) (by omega) (by omega)]; exact g3
    · show Q 507 7 = 0 ∨ Q 507 7 = 1
      rw [qq 507 (by omega) (by omega) (by omega) (by omega) (by omega)]; exact g6
    · intro _
      show HiI Q 403 ∧ (∀ k, k < pN Q 403 0 → S' 1 ((pN Q 403 1 + k) % 40) ≠ none) ∧ Q 410 0 = nI (pN Q 410 0) ∧ pN Q 410 0 < 7
      unfold HiI pN at *
      rw [qq 403 (by omega) (by omega) (by omega) (by omega) (by omega), qq 410 (by omega) (by omega) (by omega) (by omega) (by omega), hS]; exact g7 q
    · obtain ⟨m1, m2, m3, m4, m5, m6, m7, m8, m9, m10, m11, m12⟩ := h2
      refine ⟨?_, ?_, ?_, ?_, ?_, ?_, ?_, ?_, ?_, ?_, ?_, ?_⟩
      · unfold wfM isN pN at *
        rw [vv 3 (by omega) (by omega) (by omega) (by omega) (by omega) (by omega), vv 1 (by omega) (by omega) (by omega) (by omega) (by omega) (by omega), vv 8 (by omega) (by omega) (by omega) (by omega) (by omega) (by omega), vv 9 (by omega) (by omega) (by omega) (by omega) (by omega) (by omega), vv 10 (by omega) (by omega) (by omega) (by omega) (by omega) (by omega), vv 34 (by omega) (by omega) (by omega) (by omega) (by omega) (by omega), vv 4 (by omega) (by omega) (by omega) (by omega) (by omega) (by omega), vv 11 (by omega) (by omega) (by omega) (by omega) (by omega) (by omega), vv 13 (by omega) (by omega) (by omega) (by omega) (by omega) (by omega), v8 20 (by omega) (by omega), v8 21 (by omega) (by omega), v8 19 (by omega) (by omega)]; exact m1
      · exact ⟨⟨by rw [p27, v4]; exact d5.1.1, by rw [p27]; exact d5.1.2⟩, by rw [p28, v5]; exact d5.2.1, by rw [p28]; exact d5.2.2⟩
      · unfold TkI hasT pN at *
        rw [vv 34 (by omega) (by omega) (by omega) (by omega) (by omega) (by omega), v8 20 (by omega) (by omega)]; exact m3
      · obtain ⟨n1, n2⟩ := m4
        refine ⟨⟨by rw [x410, v6, ← d3.1]; exact i3, by omega⟩, fun i hi => ?_⟩
        unfold pN at *
        by_cases z : i < 6
        · rw [(v9 14 (by omega)).1 i z]; exact n2 (6 + i) (by omega)
        · rw [(v9 14 (by omega)).2 i (by omega)]; exact n2 i hi
      · exact m5.of (vv 2 (by omega) (by omega) (by omega) (by omega) (by omega) (by omega)) (vv 8 (by omega) (by omega) (by omega) (by omega) (by omega) (by omega)) (vv 9 (by omega) (by omega) (by omega) (by omega) (by omega) (by omega)) (v8 20 (by omega) (by omega)) (v8 21 (by omega) (by omega))
      · unfold isN pN at *
        rw [vv 2 (by omega) (by omega) (by omega) (by omega) (by omega) (by omega)]; exact m6
      · have nd := h3.nd
        have e : Z 402 221 = R.2 0 206 := by rw [d1.1 221 (dm_s (by decide) (by decide)), ps_s (by decide), v1 206 (by decide)]
        rcases (d1.2.1 221 (by decide)).2.2.2.2.2.2.2.2.2.1 rfl with z | ⟨j, z1, z2⟩
        · left; rw [← e]; exact z
        · right; exact ⟨j, by omega, by rw [← e]; exact z2⟩
      · unfold pN at *
        rw [v8 19 (by omega) (by omega)]; exact m8
      · unfold RwI iNr at *
        rw [vv 53 (by omega) (by omega) (by omega) (by omega) (by omega) (by omega), vv 54 (by omega) (by omega) (by omega) (by omega) (by omega) (by omega), vv 55 (by omega) (by omega) (by omega) (by omega) (by omega) (by omega), vv 56 (by omega) (by omega) (by omega) (by omega) (by omega) (by omega), vv 60 (by omega) (by omega) (by omega) (by omega) (by omega) (by omega), vv 61 (by omega) (by omega) (by omega) (by omega) (by omega) (by omega), vv 62 (by omega) (by omega) (by omega) (by omega) (by omega) (by omega)]; exact m9
      · unfold VvI pN at *
        rw [v8 50 (by omega) (by omega)]; exact m10
      · unfold isN pN at *
        rw [vv 2 (by omega) (by omega) (by omega) (by omega) (by omega) (by omega)]; exact m11
      · unfold pN at *
        rw [v8 32 (by omega) (by omega)]; exact m12
    · exact h3.cg (fun k hk => vv k (by omega) (by omega) (by omega) (by omega) (by omega) (by omega)) (fun i hi => v8 i (by omega) (by omega))
    · exact h4.cg (fun k hk => vv k (by omega) (by omega) (by omega) (by omega) (by omega) (by omega)) (fun i hi => v8 i (by omega) (by omega))
    · show StR P (Q 302) (R.2 0) 0
      rw [q2]
      exact d1.cg (fun _ _ => rfl) (fun i hi => by rw [Nat.zero_add]; exact v1 i hi)
    · refine ⟨by show Q 303 0 = R.2 100 24; rw [q3, v4, ← d2.1]; exact i1.1.1.symm, fun k hk => ?_⟩
      replace hk : k < pN Z 403 0 := by rw [← p403]; exact hk
      show StR P (Q (1000 + 2 * ((pN Q 303 1 + k) % 40))) (R.2 0) (630 + 210 * ((pN R.2 100 25 + k) % 40))
      rw [p4031, p28, show (0 + k) % 40 = k by omega, q5 k hk]
      refine (d2.2 k hk).cg (fun _ _ => rfl) (fun i hi => ?_)
      rw [show 630 + 210 * ((pN W 100 28 + k) % 40) + i = 630 + (210 * ((pN W 100 28 + k) % 40) + i) by omega, v2 _ (by omega)]
      congr 1
      omega
    · refine ⟨by show Q 310 0 = R.2 100 26; rw [q6, v6, ← d3.1]; exact i3.symm, fun k hk => ?_⟩
      replace hk : k < pN Z 410 0 := by rw [← p410]; exact hk
      show Q (310 + 1) k = R.2 14 (0 + k) ∧ Q (310 + 2) k = R.2 15 (0 + k) ∧ Q (310 + 3) k = R.2 16 (0 + k)
      rw [Nat.zero_add, (v9 14 (by omega)).1 k (by omega), (v9 15 (by omega)).1 k (by omega), (v9 16 (by omega)).1 k (by omega), q7 1 (by omega) k, q7 2 (by omega) k, q7 3 (by omega) k, if_pos hk, if_pos hk, if_pos hk]
      exact d3.2 k hk
    · intro k hk
      show Q 305 k = R.2 17 (0 + k)
      rw [Nat.zero_add, q8 k hk, v10 k hk]
      exact d4 k hk
    · show Q 507 7 = R.2 100 30
      rw [qq 507 (by omega) (by omega) (by omega) (by omega) (by omega), v8 30 (by omega) (by omega)]; exact b1
    · intro _
      refine ⟨⟨?_, ?_, ?_, ?_⟩, ?_, ?_⟩
      · show StR P (Q 402) (R.2 0) 9030
        rw [qq 402 (by omega) (by omega) (by omega) (by omega) (by omega)]
        exact d1.cg (fun _ _ => rfl) (fun i hi => v2b _ (by omega))
      · exact d2.cg (qq _ (by omega) (by omega) (by omega) (by omega) (by omega)) (fun p hp => qq _ (by omega) (by omega) (by omega) (by omega) (by omega)) (v8 _ (by omega) (by omega)) (v8 _ (by omega) (by omega)) (fun i x1 x2 => v2b _ (by omega))
      · refine ⟨by show Q 410 0 = R.2 100 29; rw [qq 410 (by omega) (by omega) (by omega) (by omega) (by omega), v8 29 (by omega) (by omega)]; exact d3.1, fun k hk => ?_⟩
        have e0 : pN Q 410 0 = pN Z 410 0 := by unfold pN; rw [qq 410 (by omega) (by omega) (by omega) (by omega) (by omega)]
        replace hk : k < pN Z 410 0 := by rw [← e0]; exact hk
        show Q (410 + 1) k = R.2 14 (6 + k) ∧ Q (410 + 2) k = R.2 15 (6 + k) ∧ Q (410 + 3) k = R.2 16 (6 + k)
        rw [(v9 14 (by omega)).2 _ (by omega), (v9 15 (by omega)).2 _ (by omega), (v9 16 (by omega)).2 _ (by omega), qq (410 + 1) (by omega) (by omega) (by omega) (by omega) (by omega), qq (410 + 2) (by omega) (by omega) (by omega) (by omega) (by omega), qq (410 + 3) (by omega) (by omega) (by omega) (by omega) (by omega)]
        exact d3.2 k hk
      · intro k hk
        show Q 405 k = R.2 17 (3 + k)
        rw [qq 405 (by omega) (by omega) (by omega) (by omega) (by omega), v11 _ (by omega)]
        exact d4 k hk
      · show AcJ R.2
        unfold AcJ pN at *
        rw [v8 27 (by omega) (by omega), v8 28 (by omega) (by omega)]; exact d5
      · show ∀ k, k < pN Q 410 0 → (Q 411 k = nI (pN Q 411 k) ∧ pN Q 411 k < 10) ∧ Q 412 k = nI (pN Q 412 k) ∧ pN Q 412 k < 21
        unfold pN at *
        rw [qq 410 (by omega) (by omega) (by omega) (by omega) (by omega), qq 411 (by omega) (by omega) (by omega) (by omega) (by omega), qq 412 (by omega) (by omega) (by omega) (by omega) (by omega)]; exact d6
    · show Q 507 1 = R.2 100 32
      rw [qq 507 (by omega) (by omega) (by omega) (by omega) (by omega), v8 32 (by omega) (by omega)]; exact c1
    · show Q 507 2 = R.2 100 33
      rw [qq 507 (by omega) (by omega) (by omega) (by omega) (by omega), v8 33 (by omega) (by omega)]; exact c2
    · show TpR Q R.2
      unfold TpR pN at *
      rw [qq 506 (by omega) (by omega) (by omega) (by omega) (by omega), qq 507 (by omega) (by omega) (by omega) (by omega) (by omega), vv 31 (by omega) (by omega) (by omega) (by omega) (by omega) (by omega)]; exact c3
