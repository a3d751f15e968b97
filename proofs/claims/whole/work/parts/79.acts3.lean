/-! sensors, cycles, undo, notes, the tape -/
theorem cx_of {P W : Zf} {b : Nat} {c r : Nat → Int32} (h : StR P c r b) (h3 : PK P W) (h4 : PX P W) : CX P W b r (r (b + 209)) (c 221) c r := by
  obtain ⟨a1, a2, a3, a4, a5⟩ := h
  refine ⟨⟨a1, a2, fun k h0 hk hk1 => ?_, ?_, a5⟩, fun i _ => rfl, rfl, rfl⟩
  · rw [a3 k h0 hk hk1, (h4.2.1 k hk).2 hk1]
    unfold f_Mod_gainOf
    rw [h4.1.1, if_neg (m1_ne (by have := h3.nb.2; omega))]
    exact (h3.wM.2.2.2.2.2.2.1 k).1
  · rw [a4]; exact h4.1.2.1
theorem ct_id {Q Z : Zf} (h : ∀ k, 1000 ≤ k → Q k = Z k) : ct Q Z = Q := by
  funext k
  show (if k < 1000 then Q k else Z k) = Q k
  split
  · rfl
  · exact (h k (by omega)).symm
theorem e_broken : E_broken RelW := by
  intro x v hv S S' P Y Z W h hl hS
  have h0 := h.u0
  have hg := h.1.2.2.2.2.1
  have hc := h0.cx
  have ha := h0.2.1.2.1
  show (f_Bus_broken P x v Z).1 = (f_Mod_broken x v W).1 ∧ RelW S' P Y (f_Bus_broken P x v Z).2 (f_Mod_broken x v W).2
  replace hl : HiL (f_Bus_broken P x v Z).2 S' := hl hg
  unfold f_Bus_broken at hl ⊢
  unfold f_Mod_broken
  generalize u2 W 100 18 0 = V at *
  rcases wj_of (x := x) (n := 3) (by decide) with ⟨a, b⟩ | ⟨a, m, hm, rfl⟩
  · rw [if_pos a]
    rcases b with b | ⟨b, b2⟩
    · rw [if_pos b] at hl ⊢
      exact ⟨rfl, h0.rfs (by decide) hl hS⟩
    · have b3 : 4 ≤ x := by
        rw [i_lt, nI_toInt (by decide)] at b2
        rw [i_le, t_4]; omega
      rw [if_neg b, if_pos b3] at hl ⊢
      exact ⟨rfl, h0.rfs (by decide) hl hS⟩
  · have g4 : ¬ 4 ≤ nI m := fun w => by rw [i_le, t_4, nI_toInt (by omega)] at w; omega
    rw [if_neg (nI_pos (by omega)), if_neg g4] at hl ⊢
    rw [if_neg (show ¬ f_Mod_within (nI m) (nI 0) (nI 3) = 0 by rw [a]; decide)]
    have s19 : Z 302 219 = V 0 204 := hc.gs (i := 219) (j := 204) (by decide) (by decide) rfl
    have z0 := hb_0 (x := V 0 204) (k := m) (by omega)
    have z1 := sb_1 (u := V 0 204) (x := m) (by omega)
    have z2 := sb_0 (u := V 0 204) (x := m) (by omega)
    have hb1 : bt (V 0 204) m = true → f_Bus_hasBit (V 0 204) (nI m) = 1 := fun q => by unfold f_Bus_hasBit; rw [if_pos (z1.mpr q)]
    have did : ∀ {F : Int32 × Zf}, F = f_Mod_broken_44 (nI m) v V → HiL (f_Bus_broken_29 P (nI m) v Z).2 S' → (f_Bus_broken_29 P (nI m) v Z).1 = F.1 ∧ RelW S' P Y (f_Bus_broken_29 P (nI m) v Z).2 F.2 := by
      intro F e hl
      subst e
      unfold f_Bus_broken_29 f_Bus_broken_36 f_State_turnSensor at hl ⊢
      unfold f_Mod_broken_44
      rw [kp_302] at hl ⊢
      have hh := cx_turn (v := Z 302 219 ^^^ (1 : Int32) <<< (nI m &&& 31)) (w := V 0 204 ^^^ (1 : Int32) <<< (nI m &&& 31)) hc (by rw [s19])
      rw [ks_lo ha (by decide)]
      refine ⟨?_, ?_⟩
      · show va_up (kpZ Z) 302 (upd (Z 302) 219 (Z 302 219 ^^^ (1 : Int32) <<< (nI m &&& 31))) 302 219 = u2 (f_Mod_keeps V) 0 204 (V 0 204 ^^^ (1 : Int32) <<< (nI m &&& 31)) 0 204
        rw [up_same, ud_s, u2_s, s19]
      · show RelW S' P Y (va_up (kpZ Z) 302 (upd (Z 302) 219 (Z 302 219 ^^^ (1 : Int32) <<< (nI m &&& 31)))) (va_up (f_Mod_keeps V) 0 (upd (f_Mod_keeps V 0) 204 (V 0 204 ^^^ (1 : Int32) <<< (nI m &&& 31))))
        refine h0.did hh _ (fun i hi => ?_) (fun i hi => ?_) hl hS
        · rw [Nat.zero_add]; exact ud_cg (ks_lo ha (by omega)) rfl
        · rw [ud_o (by omega)]
    unfold f_State_isBroken at hl ⊢
    rw [s19] at hl ⊢
    by_cases qb : bt (V 0 204) m = true
    · rw [hb1 qb] at hl ⊢
      have y1 := z1.mpr qb
      have y0 : ¬ (V 0 204 >>> (nI m &&& 31)) &&& 1 = 0 := fun z => z2.mp z qb
      rcases hv with rfl | rfl
      · rw [if_neg (by decide)] at hl ⊢
        rw [if_pos rfl, if_neg y0]
        exact did rfl hl
      · rw [if_pos rfl] at hl ⊢
        rw [if_neg (by decide), if_pos y1]
        exact ⟨rfl, h0.rfs (by decide) hl hS⟩
    · rw [z0.mpr qb] at hl ⊢
      have y1 : ¬ (V 0 204 >>> (nI m &&& 31)) &&& 1 = 1 := fun z => qb (z1.mp z)
      have y0 := z2.mpr qb
      rcases hv with rfl | rfl
      · rw [if_pos rfl] at hl ⊢
        rw [if_pos rfl, if_pos y0]
        exact ⟨rfl, h0.rfs (by decide) hl hS⟩
      · rw [if_neg (by decide)] at hl ⊢
        rw [if_neg (by decide), if_neg y1]
        exact did rfl hl
theorem e_cycles : E_cycles RelW := by
  intro x S S' P Y Z W h hl hS
  have h0 := h.u0
  have hg := h.1.2.2.2.2.1
  have hc := h0.cx
  have ha := h0.2.1.2.1
  have hp := h0.2.2.1.1
  have hx := h0.2.2.1.2
  show (f_Bus_cycles P x Z).1 = (f_Mod_cycles x W).1 ∧ RelW S' P Y (f_Bus_cycles P x Z).2 (f_Mod_cycles x W).2
  replace hl : HiL (f_Bus_cycles P x Z).2 S' := hl hg
  unfold f_Bus_cycles at hl ⊢
  unfold f_Mod_cycles f_Mod_within
  generalize u2 W 100 18 0 = V at *
  rw [nI1, show nI 30 = 30 by decide]
  have s8 : Z 302 223 = V 0 208 := hc.gs (i := 223) (j := 208) (by decide) (by decide) rfl
  have i10 : ¬ (1 : Int32) = 0 := by decide
  by_cases q1 : x < 1
  · rw [if_pos q1] at hl ⊢
    rw [if_pos q1]
    simp only [if_true]
    exact ⟨rfl, h0.rfs (by decide) hl hS⟩
  rw [if_neg q1] at hl ⊢
  rw [if_neg q1]
  by_cases q2 : 30 < x
  · rw [if_pos q2] at hl ⊢
    rw [if_pos q2]
    simp only [if_true]
    exact ⟨rfl, h0.rfs (by decide) hl hS⟩
  rw [if_neg q2] at hl ⊢
  rw [if_neg q2, if_neg i10]
  rw [s8] at hl ⊢
  by_cases q3 : V 0 208 + x ≤ 2000
  · rw [if_pos q3] at hl ⊢
    rw [if_pos q3]
    unfold f_Bus_cycles_38 f_Bus_cycles_45 at hl ⊢
    unfold f_Mod_cycles_37
    rw [kp_302] at hl ⊢
    obtain ⟨w1, w2, w3, w4, w5, w6⟩ := ks_sp ha
    have hpK : PK P (f_Mod_keeps V) := hp.cg (fun k hk => w1 k (by omega) (by omega)) (fun i hi => w2 i (by omega) (by omega))
    have hxK : PX P (f_Mod_keeps V) := hx.cg (fun k hk => w1 k (by omega) (by omega)) (fun i hi => w2 i (by omega) (by omega))
    have hsK : StR P (Z 302) (f_Mod_keeps V 0) 0 := h0.2.2.2.1.1.cg (fun _ _ => rfl) (fun i hi => ks_lo ha (by omega))
    obtain ⟨x', y', hh⟩ := cx_goes (n := x.toNatClampNeg) (cx_of hsK hpK hxK) hpK
    refine ⟨?_, h0.kept (cx_st hh hpK hxK) (fun i hi => hh.2.1 i (by omega)) hl hS⟩
    show va_up (kpZ Z) 302 (f_Bus_passCycles P x.toNatClampNeg (Z 302)) 302 223 = va_up (f_Mod_keeps V) 0 (f_Mod_goes (f_Mod_keeps V) 0 x.toNatClampNeg (f_Mod_keeps V 0)) 0 208
    rw [up_same, up_same]
    exact hh.gs (by decide) (by decide) rfl
  · rw [if_neg q3] at hl ⊢
    rw [if_neg q3]
    exact ⟨rfl, h0.rfs (by decide) hl hS⟩
theorem e_undo : E_undo RelW := by
  intro S P Y Z W h
  have h0 := h.u0
  have hhs := h.2.2.2.1.2.1
  have hi := h.1.2.1
  have ha := h.2.1.2.1
  have hg := h.1.2.2.2.2.1
  show (f_Bus_undo Z).1 = (f_Mod_undo W).1 ∧ RelW S P Y (ct (f_Bus_undo Z).2 Z) (f_Mod_undo W).2
  unfold f_Bus_undo f_Mod_undo
  have en : pN W 100 24 = pN Z 303 0 := by unfold pN; rw [hhs.1]
  rw [en]
  by_cases q : pN Z 303 0 = 0
  · rw [if_pos q, if_pos q]
    exact ⟨rfl, by rw [ct_id (fun _ _ => rfl)]; exact h0⟩
  · rw [if_neg q, if_neg q]
    refine ⟨rfl, ?_⟩
    obtain ⟨⟨i1, i2⟩, i3, i4⟩ := hi
    obtain ⟨⟨a1, a2⟩, a3, a4⟩ := ha
    rw [ct_id (fun k hk => by show u2 _ 303 0 _ k = Z k; rw [u2_k (by omega), up_ne (by omega) rfl])]
    have last := hhs.2 (pN Z 303 0 - 1) (by omega)
    have p0 : pN (u2 (va_up Z 302 (Z (1000 + 2 * ((pN Z 303 1 + pN Z 303 0 - 1) % 40)))) 303 0 (nI (pN Z 303 0 - 1))) 303 0 = pN Z 303 0 - 1 := pN_mk (by omega) u2_s
    have p1 : pN (u2 (va_up Z 302 (Z (1000 + 2 * ((pN Z 303 1 + pN Z 303 0 - 1) % 40)))) 303 0 (nI (pN Z 303 0 - 1))) 303 1 = pN Z 303 1 := by unfold pN; rw [u2_i (by decide) rfl, up_ne (by decide) rfl]
    generalize hV : u2 (u2 W 100 18 0) 100 24 (nI (pN Z 303 0 - 1)) = V
    have v24 : V 100 24 = nI (pN Z 303 0 - 1) := by rw [← hV]; exact u2_s
    have vi : ∀ i, i ≠ 18 → i ≠ 24 → V 100 i = W 100 i := fun i x1 x2 => by rw [← hV, u2_i x2 rfl, u2_i x1 rfl]
    have vk : ∀ k, k ≠ 100 → V k = W k := fun k x1 => by rw [← hV, u2_k x1, u2_k x1]
    have q24 : pN (va_up V 0 (f_Mod_copies V (630 + 210 * ((pN W 100 25 + (pN Z 303 0 - 1)) % 40)) 0 210 (V 0))) 100 24 = pN Z 303 0 - 1 := pN_mk (by omega) (by rw [up_ne (by decide) rfl]; exact v24)
    have q25 : pN (va_up V 0 (f_Mod_copies V (630 + 210 * ((pN W 100 25 + (pN Z 303 0 - 1)) % 40)) 0 210 (V 0))) 100 25 = pN W 100 25 := by unfold pN; rw [up_ne (by decide) rfl, vi 25 (by decide) (by decide)]
    have hq : ∀ k, k ≠ 302 → k ≠ 303 → u2 (va_up Z 302 (Z (1000 + 2 * ((pN Z 303 1 + pN Z 303 0 - 1) % 40)))) 303 0 (nI (pN Z 303 0 - 1)) k = Z k := fun k x1 x2 => by rw [u2_k x2, up_ne x1 rfl]
    have rw0 : ∀ i, 210 ≤ i → f_Mod_copies V (630 + 210 * ((pN W 100 25 + (pN Z 303 0 - 1)) % 40)) 0 210 (V 0) i = W 0 i := fun i hi => by rw [cp_out (by omega) _ (by omega), vk 0 (by decide)]
    show RelW S P Y (u2 (va_up Z 302 (Z (1000 + 2 * ((pN Z 303 1 + pN Z 303 0 - 1) % 40)))) 303 0 (nI (pN Z 303 0 - 1))) (va_up V 0 (f_Mod_copies V (630 + 210 * ((pN W 100 25 + (pN Z 303 0 - 1)) % 40)) 0 210 (V 0)))
    refine h.act (fun k x1 x2 _ => hq k x1 x2) (fun k x1 x2 => by rw [up_ne x1 rfl, vk k x2]) (fun i x1 x2 x3 => by rw [up_ne (by decide) rfl, vi i x1 x2]) (fun i hi => by rw [up_same, rw0 i (by omega)]) ?_ ?_ ?_ ?_ ?_ rfl
    · refine ⟨⟨?_, by omega⟩, ?_, by omega⟩
      · rw [p0]; exact u2_s
      · rw [p1, u2_i (by decide) rfl, up_ne (by decide) rfl]; exact i3
    · refine ⟨⟨?_, by omega⟩, ?_, by omega⟩
      · rw [q24, up_ne (by decide) rfl]; exact v24
      · rw [q25, up_ne (by decide) rfl, vi 25 (by decide) (by decide)]; exact a3
    · rw [u2_k (by decide), up_same, up_same]
      refine last.cg (fun i _ => by rw [show pN Z 303 1 + (pN Z 303 0 - 1) = pN Z 303 1 + pN Z 303 0 - 1 by omega]) (fun i hi => ?_)
      rw [cp_in (by omega) _ hi, vk 0 (by decide)]
    · refine ⟨?_, fun k hk => ?_⟩
      · rw [u2_s, up_ne (by decide) rfl, v24]
      · rw [p0] at hk
        rw [p1, q25]
        have z := hhs.2 k (by omega)
        refine z.cg (fun i _ => by rw [hq _ (by omega) (by omega)]) (fun i hi => ?_)
        rw [up_same, rw0 _ (by omega)]
    · intro k hk
      rw [p0] at hk
      rw [p1]; exact hg k (by omega)
theorem RelW.nts {S : SA} {P Y Z W Q V : Zf} (h : RelW S P Y Z W) (hq : ∀ k, k < 310 ∨ 313 < k → Q k = Z k) (hv : ∀ k, k ≠ 14 → k ≠ 15 → k ≠ 16 → k ≠ 100 → V k = W k) (hv1 : ∀ i, i ≠ 18 → i ≠ 26 → V 100 i = W 100 i) (h14 : ∀ i, 6 ≤ i → V 14 i = W 14 i ∧ V 15 i = W 15 i ∧ V 16 i = W 16 i) (n1 : NtI Q) (n2 : NtM V) (n3 : NtR Q V 310 26 0) : RelW S P Y Q V := by
  obtain ⟨⟨g1, g2, g3, g4, g5, g6, g7⟩, h2, ⟨h3, h4⟩, ⟨a1, a2, a3, a4⟩, ⟨b1, b2⟩, ⟨c1, c2, c3⟩, h7⟩ := h
  refine ⟨⟨n1, ?_, ?_, g4, ?_, ?_, ?_⟩, ?_, ⟨?_, ?_⟩, ⟨?_, ?_, n3, ?_⟩, ⟨?_, ?_⟩, ⟨?_, ?_, ?_⟩, h7⟩
  · unfold HiI pN at *
    rw [hq 303 (by omega)]; exact g2
  · unfold pN at *
    rw [hq 507 (by omega)]; exact g3
  · unfold HiL pN at *
    rw [hq 303 (by omega)]; exact g5
  · rw [hq 507 (by omega)]; exact g6
  · unfold HiI pN at *
    rw [hq 507 (by omega), hq 403 (by omega), hq 410 (by omega)]; exact g7
  · obtain ⟨m1, m2, m3, m4, m5, m6, m7, m8, m9, m10, m11, m12⟩ := h2
    refine ⟨?_, m2.of (hv1 _ (by omega) (by omega)) (hv1 _ (by omega) (by omega)), ?_, n2, ?_, ?_, ?_, ?_, ?_, ?_, ?_, ?_⟩
    · unfold wfM isN pN at *
      rw [hv 3 (by omega) (by omega) (by omega) (by omega), hv 1 (by omega) (by omega) (by omega) (by omega), hv 8 (by omega) (by omega) (by omega) (by omega), hv 9 (by omega) (by omega) (by omega) (by omega), hv 10 (by omega) (by omega) (by omega) (by omega), hv 34 (by omega) (by omega) (by omega) (by omega), hv 4 (by omega) (by omega) (by omega) (by omega), hv 11 (by omega) (by omega) (by omega) (by omega), hv 13 (by omega) (by omega) (by omega) (by omega), hv1 20 (by omega) (by omega), hv1 21 (by omega) (by omega), hv1 19 (by omega) (by omega)]; exact m1
    · unfold TkI hasT pN at *
      rw [hv 34 (by omega) (by omega) (by omega) (by omega), hv1 20 (by omega) (by omega)]; exact m3
    · exact m5.of (hv 2 (by omega) (by omega) (by omega) (by omega)) (hv 8 (by omega) (by omega) (by omega) (by omega)) (hv 9 (by omega) (by omega) (by omega) (by omega)) (hv1 20 (by omega) (by omega)) (hv1 21 (by omega) (by omega))
    · unfold isN pN at *
      rw [hv 2 (by omega) (by omega) (by omega) (by omega)]; exact m6
    · rw [hv 0 (by omega) (by omega) (by omega) (by omega)]; exact m7
    · unfold pN at *
      rw [hv1 19 (by omega) (by omega)]; exact m8
    · unfold RwI iNr at *
      rw [hv 53 (by omega) (by omega) (by omega) (by omega), hv 54 (by omega) (by omega) (by omega) (by omega), hv 55 (by omega) (by omega) (by omega) (by omega), hv 56 (by omega) (by omega) (by omega) (by omega), hv 60 (by omega) (by omega) (by omega) (by omega), hv 61 (by omega) (by omega) (by omega) (by omega), hv 62 (by omega) (by omega) (by omega) (by omega)]; exact m9
    · unfold VvI pN at *
      rw [hv1 50 (by omega) (by omega)]; exact m10
    · unfold isN pN at *
      rw [hv 2 (by omega) (by omega) (by omega) (by omega)]; exact m11
    · unfold pN at *
      rw [hv1 32 (by omega) (by omega)]; exact m12
  · exact h3.cg (fun k hk => hv k (by omega) (by omega) (by omega) (by omega)) (fun i hi => hv1 i (by omega) (by omega))
  · exact h4.cg (fun k hk => hv k (by omega) (by omega) (by omega) (by omega)) (fun i hi => hv1 i (by omega) (by omega))
  · rw [hq 302 (by omega), hv 0 (by omega) (by omega) (by omega) (by omega)]; exact a1
  · exact a2.cg (hq _ (by omega)) (fun p hp => hq _ (by omega)) (hv1 _ (by omega) (by omega)) (hv1 _ (by omega) (by omega)) (fun i _ _ => by rw [hv 0 (by omega) (by omega) (by omega) (by omega)])
  · exact a4.cg (hq _ (by omega)) (hv _ (by omega) (by omega) (by omega) (by omega))
  · rw [hq 507 (by omega), hv1 30 (by omega) (by omega)]; exact b1
  · intro z
    rw [hq 507 (by omega)] at z
    obtain ⟨⟨d1, d2, d3, d4⟩, d5, d6⟩ := b2 z
    refine ⟨⟨?_, ?_, ?_, ?_⟩, ?_, ?_⟩
    · rw [hq 402 (by omega), hv 0 (by omega) (by omega) (by omega) (by omega)]; exact d1
    · exact d2.cg (hq _ (by omega)) (fun p hp => hq _ (by omega)) (hv1 _ (by omega) (by omega)) (hv1 _ (by omega) (by omega)) (fun i _ _ => by rw [hv 0 (by omega) (by omega) (by omega) (by omega)])
    · obtain ⟨d31, d32⟩ := d3
      refine ⟨by rw [hq 410 (by omega), hv1 29 (by omega) (by omega)]; exact d31, fun k hk => ?_⟩
      have e0 : pN Q 410 0 = pN Z 410 0 := by unfold pN; rw [hq 410 (by omega)]
      rw [e0] at hk
      obtain ⟨x1, x2, x3⟩ := h14 (6 + k) (by omega)
      rw [x1, x2, x3, hq (410 + 1) (by omega), hq (410 + 2) (by omega), hq (410 + 3) (by omega)]
      exact d32 k hk
    · exact d4.cg (hq _ (by omega)) (hv _ (by omega) (by omega) (by omega) (by omega))
    · unfold AcJ pN at *
      rw [hv1 27 (by omega) (by omega), hv1 28 (by omega) (by omega)]; exact d5
    · unfold pN at *
      rw [hq 410 (by omega), hq 411 (by omega), hq 412 (by omega)]; exact d6
  · rw [hq 507 (by omega), hv1 _ (by omega) (by omega)]; exact c1
  · rw [hq 507 (by omega), hv1 _ (by omega) (by omega)]; exact c2
  · unfold TpR pN at *
    rw [hq 506 (by omega), hq 507 (by omega), hv 31 (by omega) (by omega) (by omega) (by omega)]; exact c3
theorem mx_in {ks : List Nat} {F Z : Zf} {k : Nat} (h : k ∈ ks) : mixK ks F Z k = F k := by unfold mixK; exact if_pos h
theorem mx_nt {F Z : Zf} {k : Nat} (h : k < 310 ∨ 313 < k) : mixK [310, 311, 312, 313] F Z k = Z k := mix_o (by simp only [List.mem_cons, List.not_mem_nil, or_false]; omega)
theorem e_forget : E_forget RelW := by
  intro S P Y Z W h
  show RelW S P Y (ct (f_Bus_forget P Z) Z) (f_Mod_forget W)
  unfold f_Bus_forget f_Mod_forget
  have m0 : ∀ k, k < 310 ∨ 313 < k → mixK [310, 311, 312, 313] (fun k => f_Noted_clear (fun k => Z (310 + k)) (k - 310)) Z k = Z k := fun k hk => mx_nt hk
  have m1 : mixK [310, 311, 312, 313] (fun k => f_Noted_clear (fun k => Z (310 + k)) (k - 310)) Z 310 0 = 0 := by
    rw [mx_in (by decide)]
    show u2 (fun k => Z (310 + k)) 0 0 0 0 0 = 0
    exact u2_s
  have m2 : ∀ j, 1 ≤ j → j ≤ 3 → mixK [310, 311, 312, 313] (fun k => f_Noted_clear (fun k => Z (310 + k)) (k - 310)) Z (310 + j) = Z (310 + j) := by
    intro j j1 j3
    rw [mx_in (by simp only [List.mem_cons, List.not_mem_nil, or_false]; omega)]
    show u2 (fun k => Z (310 + k)) 0 0 0 (310 + j - 310) = Z (310 + j)
    rw [Nat.add_sub_cancel_left, u2_k (by omega)]
  rw [ct_id (fun k hk => m0 k (by omega))]
  generalize mixK [310, 311, 312, 313] (fun k => f_Noted_clear (fun k => Z (310 + k)) (k - 310)) Z = Q at *
  have p0 : pN Q 310 0 = 0 := pN_mk (n := 0) (by decide) (by rw [m1]; decide)
  obtain ⟨⟨g1, g2, g3, g4, g5, g6, g7⟩, h2, hr⟩ := id h
  refine h.nts m0 (fun k _ _ _ x4 => by rw [u2_k x4, u2_k x4]) (fun i x1 x2 => by rw [u2_i x2 rfl, u2_i x1 rfl]) (fun i _ => ⟨by rw [u2_k (by decide), u2_k (by decide)], by rw [u2_k (by decide), u2_k (by decide)], by rw [u2_k (by decide), u2_k (by decide)]⟩) ?_ ?_ ?_
  · refine ⟨⟨by rw [p0, m1]; decide, by omega⟩, ?_, ?_⟩
    · unfold pN
      rw [m2 1 (by decide) (by decide)]; exact g1.2.1
    · unfold pN
      rw [m2 2 (by decide) (by decide)]; exact g1.2.2
  · have n4 := h2.2.2.2.1
    have e : pN (u2 (u2 W 100 18 0) 100 26 0) 100 26 = 0 := pN_mk (n := 0) (by decide) (by rw [u2_s]; decide)
    refine ⟨⟨by rw [e, u2_s]; decide, by omega⟩, ?_⟩
    unfold pN
    rw [u2_k (by decide), u2_k (by decide)]; exact n4.2
  · refine ⟨by rw [m1, u2_s], fun k hk => by omega⟩
theorem e_note : E_note RelW := by
  intro x y z S P Y Z W h
  have h0 := h.u0
  have hp := h0.2.2.1.1
  have n2 := hp.nb.2
  have hn := h0.2.2.2.1.2.2.1
  have hi := h0.1.1
  have hm := h0.2.1.2.2.2.1
  have hg := h0.1.2.2.2.2.1
  show (f_Bus_note P x y z Z).1 = (f_Mod_note x y z W).1 ∧ RelW S P Y (ct (f_Bus_note P x y z Z).2 Z) (f_Mod_note x y z W).2
  unfold f_Bus_note f_Mod_note f_Mod_note_47 f_Bus_note_55
  have ew : pN W 100 20 = pN (u2 W 100 18 0) 100 20 := by unfold pN; rw [u2_i (by decide) rfl]
  have ew2 : pN W 100 26 = pN (u2 W 100 18 0) 100 26 := by unfold pN; rw [u2_i (by decide) rfl]
  rw [ew, ew2]
  generalize u2 W 100 18 0 = V at *
  have ref : ∀ {F : Int32 × Zf}, F = f_Mod_refuses 2 V → (-1 : Int32) = F.1 ∧ RelW S P Y (ct (u2 Z 305 2 (Z 305 2 + 1)) Z) F.2 := by
    intro F e
    subst e
    refine ⟨rfl, ?_⟩
    rw [ct_id (fun k hk => u2_k (by omega))]
    refine h0.rfs (by decide) ?_ rfl
    unfold HiL pN at *
    rw [u2_k (by decide)]; exact hg
  have en : pN V 100 26 = pN Z 310 0 := by unfold pN; rw [hn.1]
  rw [en]
  rcases ib_eq (x := x) hp with ⟨a1, a2⟩ | ⟨a1, a2, m, hm1, rfl⟩
  · rw [if_pos a1]
    refine ref ?_
    by_cases q : pN Z 310 0 = 6
    · rw [if_pos q]
    · rw [if_neg q, if_pos a2]
  · rw [if_neg (by rw [a1]; decide)]
    rw [if_neg (show ¬ f_Mod_within (nI m) (nI 0) (nI (pN V 100 20) - 1) = 0 by rw [a2]; decide)]
    have wy : f_Mod_within y (nI 1) (nI 20) = if y < 1 then 0 else if 20 < y then 0 else 1 := rfl
    have wz : f_Mod_within z (nI 0) (nI 3) = if z < 0 then 0 else if 3 < z then 0 else 1 := rfl
    have i10 : ¬ (1 : Int32) = 0 := by decide
    have six : Z 310 0 < 6 ↔ ¬ pN Z 310 0 = 6 := by
      have e6 : (6 : Int32).toInt = 6 := by decide
      have := hi.1.2
      rw [i_lt, hi.1.1, nI_toInt (by omega), e6]; omega
    by_cases q1 : y < 1
    · rw [if_pos q1]
      refine ref ?_
      rw [wy, if_pos q1, if_pos rfl]
      split <;> rfl
    rw [if_neg q1]
    by_cases q2 : 20 < y
    · rw [if_pos q2]
      refine ref ?_
      rw [wy, if_neg q1, if_pos q2, if_pos rfl]
      split <;> rfl
    rw [if_neg q2, wy, if_neg q1, if_neg q2, if_neg i10]
    by_cases q3 : z < 0
    · rw [if_pos q3]
      refine ref ?_
      rw [wz, if_pos q3, if_pos rfl]
      split <;> rfl
    rw [if_neg q3]
    by_cases q4 : 3 < z
    · rw [if_pos q4]
      refine ref ?_
      rw [wz, if_neg q3, if_pos q4, if_pos rfl]
      split <;> rfl
    rw [if_neg q4, wz, if_neg q3, if_neg q4, if_neg i10]
    by_cases q5 : Z 310 0 < 6
    · rw [if_pos q5, if_neg (six.mp q5)]
      have n6 : pN Z 310 0 < 6 := by have := six.mp q5; have := hi.1.2; omega
      unfold f_Bus_note_70 f_Mod_note_53
      rw [en]
      have e1 := t_1
      have e20 : (20 : Int32).toInt = 20 := by decide
      obtain ⟨yn, hy1, rfl⟩ : ∃ j : Nat, j < 21 ∧ y = nI j := by
        obtain ⟨j, hj, rfl⟩ := nI_of (x := y) (fun w => by rw [i_lt] at w q1; rw [t_0] at w; omega)
        rw [i_lt, nI_toInt hj, e20] at q2
        exact ⟨j, by omega, rfl⟩
      have m0 : ∀ k, k < 310 ∨ 313 < k → mixK [310, 311, 312, 313] (fun k => f_Noted_add (pN Z 310 0) (nI m) (nI yn) z (fun k => Z (310 + k)) (k - 310)) Z k = Z k := fun k hk => mx_nt hk
      have m1 : mixK [310, 311, 312, 313] (fun k => f_Noted_add (pN Z 310 0) (nI m) (nI yn) z (fun k => Z (310 + k)) (k - 310)) Z 310 0 = nI (pN Z 310 0 + 1) := by
        rw [mx_in (by decide)]
        show u2 (u2 (u2 (u2 (fun k => Z (310 + k)) 1 (pN Z 310 0) (nI m)) 2 (pN Z 310 0) (nI yn)) 3 (pN Z 310 0) z) 0 0 (nI (pN Z 310 0 + 1)) 0 0 = _
        exact u2_s
      have x1 : mixK [310, 311, 312, 313] (fun k => f_Noted_add (pN Z 310 0) (nI m) (nI yn) z (fun k => Z (310 + k)) (k - 310)) Z 311 = upd (Z 311) (pN Z 310 0) (nI m) := by
        rw [mx_in (by decide)]
        show u2 (u2 (u2 (u2 (fun k => Z (310 + k)) 1 (pN Z 310 0) (nI m)) 2 (pN Z 310 0) (nI yn)) 3 (pN Z 310 0) z) 0 0 (nI (pN Z 310 0 + 1)) 1 = _
        rw [u2_k (by decide), u2_k (by decide), u2_k (by decide), u2_e]
      have x2 : mixK [310, 311, 312, 313] (fun k => f_Noted_add (pN Z 310 0) (nI m) (nI yn) z (fun k => Z (310 + k)) (k - 310)) Z 312 = upd (Z 312) (pN Z 310 0) (nI yn) := by
        rw [mx_in (by decide)]
        show u2 (u2 (u2 (u2 (fun k => Z (310 + k)) 1 (pN Z 310 0) (nI m)) 2 (pN Z 310 0) (nI yn)) 3 (pN Z 310 0) z) 0 0 (nI (pN Z 310 0 + 1)) 2 = _
        rw [u2_k (by decide), u2_k (by decide), u2_e, u2_k (by decide)]
      have x3 : mixK [310, 311, 312, 313] (fun k => f_Noted_add (pN Z 310 0) (nI m) (nI yn) z (fun k => Z (310 + k)) (k - 310)) Z 313 = upd (Z 313) (pN Z 310 0) z := by
        rw [mx_in (by decide)]
        show u2 (u2 (u2 (u2 (fun k => Z (310 + k)) 1 (pN Z 310 0) (nI m)) 2 (pN Z 310 0) (nI yn)) 3 (pN Z 310 0) z) 0 0 (nI (pN Z 310 0 + 1)) 3 = _
        rw [u2_k (by decide), u2_e, u2_k (by decide), u2_k (by decide)]
      generalize mixK [310, 311, 312, 313] (fun k => f_Noted_add (pN Z 310 0) (nI m) (nI yn) z (fun k => Z (310 + k)) (k - 310)) Z = Q at *
      refine ⟨m1, ?_⟩
      show RelW S P Y (ct Q Z) (u2 (u2 (u2 (u2 V 14 (pN Z 310 0) (nI m)) 15 (pN Z 310 0) (nI yn)) 16 (pN Z 310 0) z) 100 26 (nI (pN Z 310 0 + 1)))
      rw [ct_id (fun k hk => m0 k (by omega))]
      have p0 : pN Q 310 0 = pN Z 310 0 + 1 := pN_mk (by omega) m1
      have w14 : u2 (u2 (u2 (u2 V 14 (pN Z 310 0) (nI m)) 15 (pN Z 310 0) (nI yn)) 16 (pN Z 310 0) z) 100 26 (nI (pN Z 310 0 + 1)) 14 = upd (V 14) (pN Z 310 0) (nI m) := by rw [u2_k (by decide), u2_k (by decide), u2_k (by decide), u2_e]
      have w15 : u2 (u2 (u2 (u2 V 14 (pN Z 310 0) (nI m)) 15 (pN Z 310 0) (nI yn)) 16 (pN Z 310 0) z) 100 26 (nI (pN Z 310 0 + 1)) 15 = upd (V 15) (pN Z 310 0) (nI yn) := by rw [u2_k (by decide), u2_k (by decide), u2_e, u2_k (by decide)]
      have w16 : u2 (u2 (u2 (u2 V 14 (pN Z 310 0) (nI m)) 15 (pN Z 310 0) (nI yn)) 16 (pN Z 310 0) z) 100 26 (nI (pN Z 310 0 + 1)) 16 = upd (V 16) (pN Z 310 0) z := by rw [u2_k (by decide), u2_e, u2_k (by decide), u2_k (by decide)]
      have w26 : u2 (u2 (u2 (u2 V 14 (pN Z 310 0) (nI m)) 15 (pN Z 310 0) (nI yn)) 16 (pN Z 310 0) z) 100 26 (nI (pN Z 310 0 + 1)) 100 26 = nI (pN Z 310 0 + 1) := u2_s
      have wk : ∀ k, k ≠ 14 → k ≠ 15 → k ≠ 16 → k ≠ 100 → u2 (u2 (u2 (u2 V 14 (pN Z 310 0) (nI m)) 15 (pN Z 310 0) (nI yn)) 16 (pN Z 310 0) z) 100 26 (nI (pN Z 310 0 + 1)) k = V k := fun k a b c d => by rw [u2_k d, u2_k c, u2_k b, u2_k a]
      have wi : ∀ i, i ≠ 26 → u2 (u2 (u2 (u2 V 14 (pN Z 310 0) (nI m)) 15 (pN Z 310 0) (nI yn)) 16 (pN Z 310 0) z) 100 26 (nI (pN Z 310 0 + 1)) 100 i = V 100 i := fun i a => by rw [u2_i a rfl, u2_k (by decide), u2_k (by decide), u2_k (by decide)]
      generalize u2 (u2 (u2 (u2 V 14 (pN Z 310 0) (nI m)) 15 (pN Z 310 0) (nI yn)) 16 (pN Z 310 0) z) 100 26 (nI (pN Z 310 0 + 1)) = U at *
      have u0 : pN U 100 26 = pN Z 310 0 + 1 := pN_mk (by omega) w26
      refine h0.nts m0 wk (fun i _ b => wi i b) (fun i hi => ⟨by rw [w14, ud_o (by omega)], by rw [w15, ud_o (by omega)], by rw [w16, ud_o (by omega)]⟩) ?_ ?_ ?_
      · refine ⟨⟨by rw [p0]; exact m1, by omega⟩, fun i => ?_, fun i => ?_⟩
        · unfold pN
          rw [x1]
          by_cases e : i = pN Z 310 0
          · rw [e, ud_s, nI_clamp (by omega)]; exact ⟨rfl, by omega⟩
          · rw [ud_o e]; exact hi.2.1 i
        · unfold pN
          rw [x2]
          by_cases e : i = pN Z 310 0
          · rw [e, ud_s, nI_clamp (by omega)]; exact ⟨rfl, by omega⟩
          · rw [ud_o e]; exact hi.2.2 i
      · refine ⟨⟨by rw [u0]; exact w26, by omega⟩, fun i hi2 => ?_⟩
        unfold pN
        rw [w14]
        by_cases e : i = pN Z 310 0
        · rw [e, ud_s, nI_clamp (by omega)]; exact ⟨rfl, by omega⟩
        · rw [ud_o e]; exact hm.2 i hi2
      · refine ⟨by rw [m1, w26], fun k hk => ?_⟩
        rw [p0] at hk
        rw [w14, w15, w16, x1, x2, x3, Nat.zero_add]
        by_cases e : k = pN Z 310 0
        · rw [e, ud_s, ud_s, ud_s, ud_s, ud_s, ud_s]; exact ⟨rfl, rfl, rfl⟩
        · have hk2 := hn.2 k (by omega)
          rw [Nat.zero_add] at hk2
          rw [ud_o e, ud_o e, ud_o e, ud_o e, ud_o e, ud_o e]; exact hk2
    · rw [if_neg q5]
      have q6 : pN Z 310 0 = 6 := by
        by_cases w : pN Z 310 0 = 6
        · exact w
        · exact absurd (six.mpr w) q5
      refine ref ?_
      rw [if_pos q6]
