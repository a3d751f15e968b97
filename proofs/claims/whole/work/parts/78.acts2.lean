/-! acts, alike on both sides -/
theorem cp_3 {P : Zf} {a b n : Nat} (hd : a + n ≤ b ∨ b + n ≤ a) : ∀ (t k : Nat) (c : Nat → Int32), n - k < t → k ≤ n → ∀ i, f_Mod_copies_3 P a b n t c k i = if b + k ≤ i ∧ i < b + n then c (a + (i - b)) else c i := by
  intro t
  induction t with
  | zero => intro k c h; omega
  | succ t ih =>
    intro k c h hk i
    rw [f_Mod_copies_3]
    by_cases q : n ≤ k
    · rw [if_pos q, if_neg (by omega)]
    · rw [if_neg q, ih (k + 1) _ (by omega) (by omega)]
      by_cases q1 : b + (k + 1) ≤ i ∧ i < b + n
      · rw [if_pos q1, if_pos (by omega), ud_o (by omega)]
      · rw [if_neg q1]
        by_cases q2 : i = b + k
        · rw [if_pos (by omega), q2, ud_s, show a + (b + k - b) = a + k by omega]
        · rw [if_neg (by omega), ud_o q2]
theorem cp_sp {P : Zf} {a b n : Nat} (hd : a + n ≤ b ∨ b + n ≤ a) (c : Nat → Int32) (i : Nat) : f_Mod_copies P a b n c i = if b ≤ i ∧ i < b + n then c (a + (i - b)) else c i := by
  unfold f_Mod_copies
  rw [cp_3 hd _ _ _ (by omega) (by omega)]
  rfl
theorem cp_in {P : Zf} {a b n : Nat} (hd : a + n ≤ b ∨ b + n ≤ a) (c : Nat → Int32) {i : Nat} (hi : i < n) : f_Mod_copies P a b n c (b + i) = c (a + i) := by
  rw [cp_sp hd, if_pos (by omega), Nat.add_sub_cancel_left]
theorem cp_out {P : Zf} {a b n : Nat} (hd : a + n ≤ b ∨ b + n ≤ a) (c : Nat → Int32) {i : Nat} (hi : i < b ∨ b + n ≤ i) : f_Mod_copies P a b n c i = c i := by
  rw [cp_sp hd, if_neg (by omega)]
/-- what keeping an act does to the reference -/
theorem ks_sp {W : Zf} (ha : AcI W) : (∀ k, k ≠ 0 → k ≠ 100 → f_Mod_keeps W k = W k) ∧ (∀ i, i ≠ 24 → i ≠ 25 → f_Mod_keeps W 100 i = W 100 i) ∧ f_Mod_keeps W 100 24 = nI (kpN (pN W 100 24) + 1) ∧ f_Mod_keeps W 100 25 = nI (kpF (pN W 100 24) (pN W 100 25)) ∧ (∀ i, i < 210 → f_Mod_keeps W 0 (630 + 210 * ((kpF (pN W 100 24) (pN W 100 25) + kpN (pN W 100 24)) % 40) + i) = W 0 i) ∧ (∀ i, i < 630 + 210 * ((kpF (pN W 100 24) (pN W 100 25) + kpN (pN W 100 24)) % 40) ∨ 630 + 210 * ((kpF (pN W 100 24) (pN W 100 25) + kpN (pN W 100 24)) % 40) + 210 ≤ i → f_Mod_keeps W 0 i = W 0 i) := by
  obtain ⟨⟨a1, a2⟩, a3, a4⟩ := ha
  have key : ∀ V : Zf, (∀ k, k ≠ 0 → k ≠ 100 → f_Mod_keeps_32 V k = V k) ∧ (∀ i, i ≠ 24 → f_Mod_keeps_32 V 100 i = V 100 i) ∧ f_Mod_keeps_32 V 100 24 = nI (pN V 100 24 + 1) ∧ (∀ i, i < 210 → f_Mod_keeps_32 V 0 (630 + 210 * ((pN V 100 25 + pN V 100 24) % 40) + i) = V 0 i) ∧ (∀ i, i < 630 + 210 * ((pN V 100 25 + pN V 100 24) % 40) ∨ 630 + 210 * ((pN V 100 25 + pN V 100 24) % 40) + 210 ≤ i → f_Mod_keeps_32 V 0 i = V 0 i) := by
    intro V
    unfold f_Mod_keeps_32
    refine ⟨fun k h1 h2 => ?_, fun i hi => ?_, u2_s, fun i hi => ?_, fun i hi => ?_⟩
    · rw [u2_k h2, up_ne h1 rfl]
    · rw [u2_i hi rfl, up_ne (by decide) rfl]
    · rw [u2_k (by decide), up_same, cp_in (by omega) _ hi, Nat.zero_add]
    · rw [u2_k (by decide), up_same, cp_out (by omega) _ hi]
  unfold f_Mod_keeps kpN kpF
  by_cases q : pN W 100 24 = 40
  · rw [if_pos q, if_pos q, if_pos q, q]
    obtain ⟨k1, k2, k3, k4, k5⟩ := key (u2 (u2 W 100 25 (nI ((pN W 100 25 + 1) % 40))) 100 24 (nI (40 - 1)))
    have e4 : pN (u2 (u2 W 100 25 (nI ((pN W 100 25 + 1) % 40))) 100 24 (nI (40 - 1))) 100 24 = 39 := pN_mk (by decide) u2_s
    have e5 : pN (u2 (u2 W 100 25 (nI ((pN W 100 25 + 1) % 40))) 100 24 (nI (40 - 1))) 100 25 = (pN W 100 25 + 1) % 40 := pN_mk (by omega) (by rw [u2_i (by decide) rfl, u2_s])
    rw [e4] at k3 k4 k5
    rw [e5] at k4 k5
    refine ⟨fun k h1 h2 => ?_, fun i h1 h2 => ?_, k3, ?_, fun i hi => ?_, fun i hi => ?_⟩
    · rw [k1 k h1 h2, u2_k h2, u2_k h2]
    · rw [k2 i h1, u2_i h1 rfl, u2_i h2 rfl]
    · rw [k2 25 (by decide), u2_i (by decide) rfl, u2_s]
    · rw [k4 i hi, u2_k (by decide), u2_k (by decide)]
    · rw [k5 i hi, u2_k (by decide), u2_k (by decide)]
  · rw [if_neg q, if_neg q, if_neg q]
    obtain ⟨k1, k2, k3, k4, k5⟩ := key W
    exact ⟨k1, fun i h1 _ => k2 i h1, k3, by rw [k2 25 (by decide)]; exact a3, k4, k5⟩
theorem kp_sp {Z : Zf} : (∀ k, k ≠ 303 → (k < 1000 ∨ k % 2 = 1 ∨ 1080 ≤ k) → kpZ Z k = Z k) ∧ kpZ Z 303 0 = nI (kpN (pN Z 303 0) + 1) ∧ kpZ Z 303 1 = nI (kpF (pN Z 303 0) (pN Z 303 1)) ∧ kpZ Z (1000 + 2 * kpP Z) = Z 302 ∧ ∀ p, p ≠ kpP Z → kpZ Z (1000 + 2 * p) = Z (1000 + 2 * p) := by
  have hl := kpP_lt Z
  unfold kpZ
  refine ⟨fun k h1 h2 => ?_, ?_, ?_, up_same, fun p hp => ?_⟩
  · rw [up_ne (by omega) rfl, u2_k h1, u2_k h1]
  · rw [up_ne (by omega) rfl, u2_i (by decide) rfl, u2_s]
  · rw [up_ne (by omega) rfl, u2_s]
  · rw [up_ne (by omega) rfl, u2_k (by omega), u2_k (by omega)]
theorem kp_hs {P Z W : Zf} (hs : StR P (Z 302) (W 0) 0) (h : HsR P Z W 303 1000 24 25 630) (hi : HiI Z 303) (ha : AcI W) : HsR P (kpZ Z) (f_Mod_keeps W) 303 1000 24 25 630 ∧ HiI (kpZ Z) 303 ∧ AcI (f_Mod_keeps W) := by
  obtain ⟨k1, k2, k3, k4, k5⟩ := kp_sp (Z := Z)
  obtain ⟨w1, w2, w3, w4, w5, w6⟩ := ks_sp ha
  obtain ⟨h1, h2⟩ := h
  have en : pN W 100 24 = pN Z 303 0 := by unfold pN; rw [h1]
  obtain ⟨⟨a1, a2⟩, a3, a4⟩ := ha
  obtain ⟨⟨b1, b2⟩, b3, b4⟩ := hi
  rw [en] at w3 w4 w5 w6
  unfold kpP at k4 k5
  have hn : kpN (pN Z 303 0) ≤ 39 ∧ (pN Z 303 0 = 40 → kpN (pN Z 303 0) = 39) ∧ (¬ pN Z 303 0 = 40 → kpN (pN Z 303 0) = pN Z 303 0) := by
    unfold kpN; split <;> omega
  have hf : ∀ f, f < 40 → kpF (pN Z 303 0) f < 40 ∧ (pN Z 303 0 = 40 → kpF (pN Z 303 0) f = (f + 1) % 40) ∧ (¬ pN Z 303 0 = 40 → kpF (pN Z 303 0) f = f) := by
    intro f hf
    unfold kpF; split <;> omega
  have f1 := hf _ b4
  have f2 := hf _ a4
  generalize kpN (pN Z 303 0) = n at *
  generalize kpF (pN Z 303 0) (pN Z 303 1) = f at *
  generalize kpF (pN Z 303 0) (pN W 100 25) = g at *
  have pn : pN (kpZ Z) 303 0 = n + 1 := pN_mk (by omega) k2
  have pf : pN (kpZ Z) 303 1 = f := pN_mk (by omega) k3
  have qn : pN (f_Mod_keeps W) 100 24 = n + 1 := pN_mk (by omega) w3
  have qf : pN (f_Mod_keeps W) 100 25 = g := pN_mk (by omega) w4
  refine ⟨⟨by rw [k2, w3], fun k hk => ?_⟩, ⟨⟨by rw [pn]; exact k2, by omega⟩, by rw [pf]; exact k3, by omega⟩, ⟨⟨by rw [qn]; exact w3, by omega⟩, by rw [qf]; exact w4, by omega⟩⟩
  rw [pn] at hk
  rw [pf, qf]
  by_cases q : k = n
  · subst q
    refine hs.cg (fun i _ => by rw [k4]) (fun i hi => ?_)
    rw [w5 i hi, Nat.zero_add]
  · by_cases q40 : pN Z 303 0 = 40
    · have z := h2 (k + 1) (by omega)
      refine z.cg (fun i _ => ?_) (fun i hi => ?_)
      · rw [k5 _ (by omega), show (f + k) % 40 = (pN Z 303 1 + (k + 1)) % 40 by omega]
      · rw [w6 _ (by omega), show (g + k) % 40 = (pN W 100 25 + (k + 1)) % 40 by omega]
    · have z := h2 k (by omega)
      refine z.cg (fun i _ => ?_) (fun i hi => ?_)
      · rw [k5 _ (by omega), show f = pN Z 303 1 by omega]
      · rw [w6 _ (by omega), show g = pN W 100 25 by omega]
theorem RelW.act {S S' : SA} {P Y Z W Q V : Zf} (h : RelW S P Y Z W) (hq : ∀ k, k ≠ 302 → k ≠ 303 → (k < 1000 ∨ k % 2 = 1 ∨ 1080 ≤ k) → Q k = Z k) (hv : ∀ k, k ≠ 0 → k ≠ 100 → V k = W k) (hv1 : ∀ i, i ≠ 18 → i ≠ 24 → i ≠ 25 → V 100 i = W 100 i) (hv0 : ∀ i, 9030 ≤ i → V 0 i = W 0 i) (hi : HiI Q 303) (ha : AcI V) (hs : StR P (Q 302) (V 0) 0) (hh : HsR P Q V 303 1000 24 25 630) (hl : HiL Q S') (hS : S' 1 = S 1) : RelW S' P Y Q V := by
  obtain ⟨⟨g1, g2, g3, g4, g5, g6, g7⟩, h2, ⟨h3, h4⟩, ⟨a1, a2, a3, a4⟩, ⟨b1, b2⟩, ⟨c1, c2, c3⟩, h7⟩ := h
  refine ⟨⟨?_, hi, ?_, g4, hl, ?_, ?_⟩, ?_, ⟨?_, ?_⟩, ⟨hs, hh, ?_, ?_⟩, ⟨?_, ?_⟩, ⟨?_, ?_, ?_⟩, h7⟩
  · unfold NtI pN at *
    rw [hq 310 (by omega) (by omega) (by omega), hq 311 (by omega) (by omega) (by omega), hq 312 (by omega) (by omega) (by omega)]; exact g1
  · unfold pN at *
    rw [hq 507 (by omega) (by omega) (by omega)]; exact g3
  · rw [hq 507 (by omega) (by omega) (by omega)]; exact g6
  · unfold HiI pN at *
    rw [hq 507 (by omega) (by omega) (by omega), hq 403 (by omega) (by omega) (by omega), hq 410 (by omega) (by omega) (by omega), hS]; exact g7
  · have nd := h3.nd
    have sc : V 0 206 = -1 ∨ ∃ j, j < 5 ∧ V 0 206 = nI j := by
      have e : Q 302 221 = V 0 206 := by rw [hs.1 221 (dm_s (by decide) (by decide)), ps_s (by decide)]
      rcases (hs.2.1 221 (by decide)).2.2.2.2.2.2.2.2.2.1 rfl with z | ⟨j, z1, z2⟩
      · left; rw [← e]; exact z
      · right; exact ⟨j, by omega, by rw [← e]; exact z2⟩
    obtain ⟨m1, m2, m3, m4, m5, m6, m7, m8, m9, m10, m11, m12⟩ := h2
    refine ⟨?_, ha, ?_, ?_, ?_, ?_, sc, ?_, ?_, ?_, ?_, ?_⟩
    · unfold wfM isN pN at *
      rw [hv 3 (by omega) (by omega), hv 1 (by omega) (by omega), hv 8 (by omega) (by omega), hv 9 (by omega) (by omega), hv 10 (by omega) (by omega), hv 34 (by omega) (by omega), hv 4 (by omega) (by omega), hv 11 (by omega) (by omega), hv 13 (by omega) (by omega), hv1 20 (by omega) (by omega) (by omega), hv1 21 (by omega) (by omega) (by omega), hv1 19 (by omega) (by omega) (by omega)]; exact m1
    · unfold TkI hasT pN at *
      rw [hv 34 (by omega) (by omega), hv1 20 (by omega) (by omega) (by omega)]; exact m3
    · exact m4.of (hv1 26 (by omega) (by omega) (by omega)) (hv 14 (by omega) (by omega))
    · exact m5.of (hv 2 (by omega) (by omega)) (hv 8 (by omega) (by omega)) (hv 9 (by omega) (by omega)) (hv1 20 (by omega) (by omega) (by omega)) (hv1 21 (by omega) (by omega) (by omega))
    · unfold isN pN at *
      rw [hv 2 (by omega) (by omega)]; exact m6
    · unfold pN at *
      rw [hv1 19 (by omega) (by omega) (by omega)]; exact m8
    · unfold RwI iNr at *
      rw [hv 53 (by omega) (by omega), hv 54 (by omega) (by omega), hv 55 (by omega) (by omega), hv 56 (by omega) (by omega), hv 60 (by omega) (by omega), hv 61 (by omega) (by omega), hv 62 (by omega) (by omega)]; exact m9
    · unfold VvI pN at *
      rw [hv1 50 (by omega) (by omega) (by omega)]; exact m10
    · unfold isN pN at *
      rw [hv 2 (by omega) (by omega)]; exact m11
    · unfold pN at *
      rw [hv1 32 (by omega) (by omega) (by omega)]; exact m12
  · exact h3.cg (fun k hk => hv k (by omega) (by omega)) (fun i hi => hv1 i (by omega) (by omega) (by omega))
  · exact h4.cg (fun k hk => hv k (by omega) (by omega)) (fun i hi => hv1 i (by omega) (by omega) (by omega))
  · exact a3.cg (hq _ (by omega) (by omega) (by omega)) (hq _ (by omega) (by omega) (by omega)) (hq _ (by omega) (by omega) (by omega)) (hq _ (by omega) (by omega) (by omega)) (hv1 _ (by omega) (by omega) (by omega)) (hv _ (by omega) (by omega)) (hv _ (by omega) (by omega)) (hv _ (by omega) (by omega))
  · exact a4.cg (hq _ (by omega) (by omega) (by omega)) (hv _ (by omega) (by omega))
  · rw [hq 507 (by omega) (by omega) (by omega), hv1 30 (by omega) (by omega) (by omega)]; exact b1
  · intro q
    rw [hq 507 (by omega) (by omega) (by omega)] at q
    obtain ⟨⟨d1, d2, d3, d4⟩, d5, d6⟩ := b2 q
    refine ⟨⟨?_, ?_, ?_, ?_⟩, ?_, ?_⟩
    · exact d1.cg (fun i _ => by rw [hq 402 (by omega) (by omega) (by omega)]) (fun i hi => hv0 _ (by omega))
    · exact d2.cg (hq _ (by omega) (by omega) (by omega)) (fun p hp => hq _ (by omega) (by omega) (by omega)) (hv1 _ (by omega) (by omega) (by omega)) (hv1 _ (by omega) (by omega) (by omega)) (fun i h1 h2 => hv0 _ (by omega))
    · exact d3.cg (hq _ (by omega) (by omega) (by omega)) (hq _ (by omega) (by omega) (by omega)) (hq _ (by omega) (by omega) (by omega)) (hq _ (by omega) (by omega) (by omega)) (hv1 _ (by omega) (by omega) (by omega)) (hv _ (by omega) (by omega)) (hv _ (by omega) (by omega)) (hv _ (by omega) (by omega))
    · exact d4.cg (hq _ (by omega) (by omega) (by omega)) (hv _ (by omega) (by omega))
    · unfold AcJ pN at *
      rw [hv1 27 (by omega) (by omega) (by omega), hv1 28 (by omega) (by omega) (by omega)]; exact d5
    · unfold pN at *
      rw [hq 410 (by omega) (by omega) (by omega), hq 411 (by omega) (by omega) (by omega), hq 412 (by omega) (by omega) (by omega)]; exact d6
  · rw [hq 507 (by omega) (by omega) (by omega), hv1 _ (by omega) (by omega) (by omega)]; exact c1
  · rw [hq 507 (by omega) (by omega) (by omega), hv1 _ (by omega) (by omega) (by omega)]; exact c2
  · unfold TpR pN at *
    rw [hq 506 (by omega) (by omega) (by omega), hq 507 (by omega) (by omega) (by omega), hv 31 (by omega) (by omega)]; exact c3
/-- a State's change behind a kept act -/
theorem RelW.kept {S S' : SA} {P Y Z W : Zf} {c r : Nat → Int32} (h : RelW S P Y Z W) (hs : StR P c r 0) (hr : ∀ i, 210 ≤ i → r i = f_Mod_keeps W 0 i) (hl : HiL (va_up (kpZ Z) 302 c) S') (hS : S' 1 = S 1) : RelW S' P Y (va_up (kpZ Z) 302 c) (va_up (f_Mod_keeps W) 0 r) := by
  have hA := h.2.1.2.1
  obtain ⟨k1, k2, k3, k4, k5⟩ := kp_sp (Z := Z)
  obtain ⟨w1, w2, w3, w4, w5, w6⟩ := ks_sp hA
  obtain ⟨e1, e2, e3⟩ := kp_hs h.2.2.2.1.1 h.2.2.2.1.2.1 h.1.2.1 hA
  refine h.act (fun k a b d => ?_) (fun k a b => ?_) (fun i a b d => ?_) (fun i hi => ?_) ?_ ?_ ?_ ?_ hl hS
  · rw [up_ne a rfl, k1 k b d]
  · rw [up_ne a rfl, w1 k a b]
  · rw [up_ne (by decide) rfl, w2 i b d]
  · rw [up_same, hr i (by omega), w6 i (by omega)]
  · unfold HiI pN at *
    rw [up_ne (by decide) rfl]; exact e2
  · exact e3.of (by rw [up_ne (by decide) rfl]) (by rw [up_ne (by decide) rfl])
  · rw [up_same, up_same]; exact hs
  · refine e1.cg (by rw [up_ne (by decide) rfl]) (fun p hp => by rw [up_ne (by omega) rfl]) (by rw [up_ne (by decide) rfl]) (by rw [up_ne (by decide) rfl]) (fun i h1 h2 => ?_)
    rw [up_same, hr i (by omega)]
theorem RelW.rfs {S S' : SA} {P Y Z W : Zf} {j : Nat} (h : RelW S P Y Z W) (hj : j < 3) (hl : HiL (u2 Z 305 j (Z 305 j + 1)) S') (hS : S' 1 = S 1) : RelW S' P Y (u2 Z 305 j (Z 305 j + 1)) (u2 W 17 j (W 17 j + 1)) := by
  have e := h.2.2.2.1.2.2.2
  obtain ⟨⟨g1, g2, g3, g4, g5, g6, g7⟩, h2, ⟨h3, h4⟩, ⟨a1, a2, a3, a4⟩, ⟨b1, b2⟩, ⟨c1, c2, c3⟩, h7⟩ := h
  have q : ∀ k, k ≠ 305 → u2 Z 305 j (Z 305 j + 1) k = Z k := fun k hk => u2_k hk
  have v : ∀ k, k ≠ 17 → u2 W 17 j (W 17 j + 1) k = W k := fun k hk => u2_k hk
  generalize hQ : u2 Z 305 j (Z 305 j + 1) = Q at *
  generalize hV : u2 W 17 j (W 17 j + 1) = V at *
  refine ⟨⟨?_, ?_, ?_, g4, hl, ?_, ?_⟩, ?_, ⟨?_, ?_⟩, ⟨?_, ?_, ?_, ?_⟩, ⟨?_, ?_⟩, ⟨?_, ?_, ?_⟩, h7⟩
  · unfold NtI pN at *
    rw [q 310 (by omega), q 311 (by omega), q 312 (by omega)]; exact g1
  · unfold HiI pN at *
    rw [q 303 (by omega)]; exact g2
  · unfold pN at *
    rw [q 507 (by omega)]; exact g3
  · rw [q 507 (by omega)]; exact g6
  · unfold HiI pN at *
    rw [q 507 (by omega), q 403 (by omega), q 410 (by omega), hS]; exact g7
  · exact h2.cg (fun k hk => v k (by omega)) (fun i hi => by rw [v 100 (by decide)]) (by rw [v 0 (by decide)])
  · exact h3.cg (fun k hk => v k (by omega)) (fun i hi => by rw [v 100 (by decide)])
  · exact h4.cg (fun k hk => v k (by omega)) (fun i hi => by rw [v 100 (by decide)])
  · rw [q 302 (by decide), v 0 (by decide)]; exact a1
  · exact a2.cg (q _ (by omega)) (fun p hp => q _ (by omega)) (by rw [v 100 (by decide)]) (by rw [v 100 (by decide)]) (fun i _ _ => by rw [v 0 (by decide)])
  · exact a3.cg (q _ (by omega)) (q _ (by omega)) (q _ (by omega)) (q _ (by omega)) (by rw [v 100 (by decide)]) (v _ (by omega)) (v _ (by omega)) (v _ (by omega))
  · intro k hk
    rw [← hQ, ← hV, u2_e, u2_e]
    have ek := e k hk
    have ej := e j hj
    rw [Nat.zero_add] at ek ej
    rw [Nat.zero_add, ej]
    exact ud_cg ek rfl
  · rw [q 507 (by decide), v 100 (by decide)]; exact b1
  · intro z
    rw [q 507 (by decide)] at z
    obtain ⟨⟨d1, d2, d3, d4⟩, d5, d6⟩ := b2 z
    refine ⟨⟨?_, ?_, ?_, ?_⟩, ?_, ?_⟩
    · rw [q 402 (by decide), v 0 (by decide)]; exact d1
    · exact d2.cg (q _ (by omega)) (fun p hp => q _ (by omega)) (by rw [v 100 (by decide)]) (by rw [v 100 (by decide)]) (fun i _ _ => by rw [v 0 (by decide)])
    · exact d3.cg (q _ (by omega)) (q _ (by omega)) (q _ (by omega)) (q _ (by omega)) (by rw [v 100 (by decide)]) (v _ (by omega)) (v _ (by omega)) (v _ (by omega))
    · intro k hk
      rw [q 405 (by decide), ← hV, u2_e, ud_o (by omega)]; exact d4 k hk
    · unfold AcJ pN at *
      rw [v 100 (by decide)]; exact d5
    · unfold pN at *
      rw [q 410 (by omega), q 411 (by omega), q 412 (by omega)]; exact d6
  · rw [q 507 (by decide), v 100 (by decide)]; exact c1
  · rw [q 507 (by decide), v 100 (by decide)]; exact c2
  · unfold TpR pN at *
    rw [q 506 (by decide), q 507 (by decide), v 31 (by decide)]; exact c3
theorem can_eq {P W : Zf} {b k : Nat} {r0 c r : Nat → Int32} {x y v m : Int32} (h : CX P W b r0 x y c r) (hp : PK P W) (hk : k < pN P 30 3) : f_State_canTell P c k v = f_Mod_canTarget_14 W b m v r k ∧ (¬ f_State_canTell P c k v = 0 → 0 ≤ v.toInt ∧ v.toInt ≤ 3 ∧ (pN P 0 k = 0 ∨ pN P 0 k = 3 → v.toInt ≤ 2)) := by
  have n2 := hp.nb.2
  have hk10 : k < 10 := by omega
  have e0 := t_0
  have e2 := t_2
  have e3 := t_3
  unfold f_State_canTell f_Mod_canTarget_14 f_State_canTell_27 f_State_canTell_39 f_Mod_canTarget_49 f_Mod_within
  rw [nI_0, show nI 3 = 3 by decide, show nI 2 = 2 by decide, ← hp.kd hk, ← h.gb hk10 (j := 0) (by omega)]
  have i10 : ¬ (1 : Int32) = 0 := by decide
  by_cases k1 : pN P 0 k = 1
  · simp only [if_pos k1, if_neg i10]
    by_cases q1 : v < 0
    · simp only [if_pos q1, if_true]; exact ⟨trivial, fun z => absurd trivial z⟩
    · by_cases q2 : 3 < v
      · simp only [if_neg q1, if_pos q2, if_true]; exact ⟨trivial, fun z => absurd trivial z⟩
      · simp only [if_neg q1, if_neg q2, if_neg i10]
        rw [i_lt] at q1 q2
        exact ⟨trivial, fun _ => by omega⟩
  · by_cases k2 : pN P 0 k = 2
    · simp only [if_neg k1, if_pos k2, if_neg i10]
      by_cases q1 : v < 0
      · simp only [if_pos q1, if_true]; exact ⟨trivial, fun z => absurd trivial z⟩
      · by_cases q2 : 3 < v
        · simp only [if_neg q1, if_pos q2, if_true]; exact ⟨trivial, fun z => absurd trivial z⟩
        · simp only [if_neg q1, if_neg q2, if_neg i10]
          rw [i_lt] at q1 q2
          exact ⟨trivial, fun _ => by omega⟩
    · simp only [if_neg k1, if_neg k2, if_true]
      by_cases q1 : v < 0
      · simp only [if_pos q1, if_true]; exact ⟨trivial, fun z => absurd trivial z⟩
      · by_cases q2 : 2 < v
        · simp only [if_neg q1, if_pos q2, if_true]; exact ⟨trivial, fun z => absurd trivial z⟩
        · simp only [if_neg q1, if_neg q2, if_neg i10]
          rw [i_lt] at q1 q2
          exact ⟨trivial, fun _ => by omega⟩
theorem hd_eq {P W : Zf} {b k : Nat} {r0 c r : Nat → Int32} {x y m : Int32} (h : CX P W b r0 x y c r) (hp : PK P W) (hk : k < pN P 30 3) : (f_State_handCell P c k = -1 ∧ f_Mod_byHand_16 W b m r k = -1) ∨ ∃ j, (j = 2 ∨ j = 3) ∧ f_State_handCell P c k = nI (k * 9 + j) ∧ f_Mod_byHand_16 W b m r k = nI j := by
  have n2 := hp.nb.2
  have hk10 : k < 10 := by omega
  unfold f_State_handCell f_Mod_byHand_16
  rw [← hp.kd hk, ← h.gb hk10 (j := 1) (by omega)]
  by_cases q1 : c (k * 9 + 1) = 1
  · rw [if_pos q1, if_pos q1]; exact Or.inr ⟨3, Or.inr rfl, rfl, rfl⟩
  rw [if_neg q1, if_neg q1]
  by_cases k1 : pN P 0 k = 1
  · rw [if_pos k1]
    by_cases q2 : c (k * 9 + 1) = 2
    · rw [if_pos q2, if_pos q2, if_pos k1]; exact Or.inr ⟨2, Or.inl rfl, rfl, rfl⟩
    · rw [if_neg q2, if_neg q2]; exact Or.inl ⟨rfl, rfl⟩
  · rw [if_neg k1, if_neg k1]
    by_cases k2 : pN P 0 k = 2
    · rw [if_pos k2]
      by_cases q2 : c (k * 9 + 1) = 2
      · rw [if_pos q2, if_pos q2, if_pos k2]; exact Or.inr ⟨2, Or.inl rfl, rfl, rfl⟩
      · rw [if_neg q2, if_neg q2]; exact Or.inl ⟨rfl, rfl⟩
    · rw [if_neg k2, if_neg k2]
      by_cases q2 : c (k * 9 + 1) = 2
      · rw [if_pos q2]; exact Or.inl ⟨rfl, rfl⟩
      · rw [if_neg q2]; exact Or.inl ⟨rfl, rfl⟩
theorem bt_not {d : Nat} (hd : d < 32) {i : Nat} (hi : i < 32) : bt (((1 : Int32) <<< (nI d &&& 31)) ^^^ (-1)) i = !(decide (i = d)) := by
  rw [b_xor, b_m1 i hi, Bool.xor_true]
  congr 1
  by_cases e : i = d
  · rw [decide_eq_true e]; exact (sh_bt hi hd).mpr e
  · rw [decide_eq_false e]
    cases z : bt ((1 : Int32) <<< (nI d &&& 31)) i with
    | false => rfl
    | true => exact absurd ((sh_bt hi hd).mp z) e
theorem cx_power {P W : Zf} {b d : Nat} {r0 c r : Nat → Int32} {x y v : Int32} (h : CX P W b r0 x y c r) (hp : PK P W) (ho : P 30 2 = W 100 23 ∧ 0 ≤ (P 30 2).toInt) (hd : d < pN P 30 0) : ∃ y', CX P W b r0 x y' (f_State_switchDevice (nI d) v (P 30 2) c) (f_Mod_powers W b (nI d) v r) := by
  have n3 := hp.nd.2
  have s0 : c 220 = r (b + 205) := h.gs (by decide) (by decide) rfl
  have bit : ∀ w : Int32, (∀ j, pN P 30 0 ≤ j → bt w j = false) → Bd (pN P 0) (pN P 30 0) 220 w := fun w hw => bd_t (by decide) (fun _ => hw) (fun z => absurd z (by decide)) (fun z => absurd z (by decide))
  unfold f_State_switchDevice f_Mod_powers
  rw [← s0]
  by_cases q : v = 0
  · rw [if_pos q, if_pos q]
    have h1 := h.pt (i := 220) (j := b + 205) (v := c 220 &&& ((1 : Int32) <<< (nI d &&& 31) ^^^ -1)) (by decide) (by decide) (by decide) rfl rfl (bit _ (fun j hj => by rw [b_and, h.b220 j hj, Bool.false_and]))
    have g1 : (upd c 220 (c 220 &&& ((1 : Int32) <<< (nI d &&& 31) ^^^ -1))) 221 = (upd r (b + 205) (c 220 &&& ((1 : Int32) <<< (nI d &&& 31) ^^^ -1))) (b + 206) := h1.gs (by decide) (by decide) rfl
    rw [← g1]
    by_cases q2 : (upd c 220 (c 220 &&& ((1 : Int32) <<< (nI d &&& 31) ^^^ -1))) 221 = nI d
    · rw [if_pos q2, if_pos q2]
      refine ⟨_, (h1.p221 (v := -1) rfl (Or.inl rfl) (Or.inl rfl)).p222 ho.1 ho.2 ud_s⟩
    · rw [if_neg q2, if_neg q2]; exact ⟨_, h1⟩
  · rw [if_neg q, if_neg q]
    refine ⟨_, h.pt (i := 220) (j := b + 205) (by decide) (by decide) (by decide) rfl rfl (bit _ (fun j hj => ?_))⟩
    by_cases z : j < 32
    · rw [or_bt z (by omega), h.b220 j hj, decide_eq_false (by omega)]; rfl
    · exact b_big (by omega)
theorem cx_turn {P W : Zf} {b : Nat} {r0 c r : Nat → Int32} {x y v w : Int32} (h : CX P W b r0 x y c r) (e : v = w) : CX P W b r0 x y (upd c 219 v) (upd r (b + 204) w) :=
  h.pt (i := 219) (by decide) (by decide) (by decide) rfl e (bd_t (by decide) (fun z => absurd z (by decide)) (fun z => absurd z (by decide)) (fun z => absurd z (by decide)))
/-- from a change of the live row to the act -/
theorem RelW.did {S S' : SA} {P Y Z W : Zf} {c f : Nat → Int32} {x y : Int32} (h : RelW S P Y Z W) (hc : CX P W 0 (W 0) x y c f) (r : Nat → Int32) (hr0 : ∀ i, i < 210 → r i = f i) (hr : ∀ i, 210 ≤ i → r i = f_Mod_keeps W 0 i) (hl : HiL (va_up (kpZ Z) 302 c) S') (hS : S' 1 = S 1) : RelW S' P Y (va_up (kpZ Z) 302 c) (va_up (f_Mod_keeps W) 0 r) :=
  h.kept ((cx_st hc h.2.2.1.1 h.2.2.1.2).cg (fun _ _ => rfl) (fun i hi => by rw [Nat.zero_add]; exact hr0 i hi)) hr hl hS
theorem ks_lo {W : Zf} (ha : AcI W) {i : Nat} (hi : i < 630) : f_Mod_keeps W 0 i = W 0 i := (ks_sp ha).2.2.2.2.2 i (by omega)
theorem kp_302 {Z : Zf} : kpZ Z 302 = Z 302 := kp_sp.1 302 (by decide) (by decide)
theorem e_target : E_target RelW := by
  intro x v S S' P Y Z W h hl hS
  have h0 := h.u0
  have hg := h.1.2.2.2.2.1
  have hc := h0.cx
  have hp := h0.2.2.1.1
  have ha := h0.2.1.2.1
  have n2 := hp.nb.2
  show (f_Bus_target P x v Z).1 = (f_Mod_target x v W).1 ∧ RelW S' P Y (f_Bus_target P x v Z).2 (f_Mod_target x v W).2
  replace hl : HiL (f_Bus_target P x v Z).2 S' := hl hg
  unfold f_Bus_target at hl ⊢
  unfold f_Mod_target f_Mod_canTarget
  generalize u2 W 100 18 0 = V at *
  rcases ib_eq (x := x) hp with ⟨a1, a2⟩ | ⟨a1, a2, m, hm, rfl⟩
  · rw [if_pos a1] at hl ⊢
    rw [if_pos a2]
    simp only [if_true]
    exact ⟨rfl, h0.rfs (by decide) hl hS⟩
  · have hm10 : m < 10 := by omega
    rw [if_neg (by rw [a1]; decide), nI_clamp (by omega)] at hl ⊢
    rw [if_neg (show ¬ f_Mod_within (nI m) (nI 0) (nI (pN V 100 20) - 1) = 0 by rw [a2]; decide)]
    unfold f_Bus_target_8 at hl ⊢
    obtain ⟨c1, c2⟩ := can_eq (m := nI m) (v := v) hc hp hm
    rw [← c1]
    by_cases q : f_State_canTell P (Z 302) m v = 0
    · rw [if_pos q] at hl ⊢
      rw [if_pos q]
      exact ⟨rfl, h0.rfs (by decide) hl hS⟩
    · rw [if_neg q] at hl ⊢
      rw [if_neg q]
      unfold f_Bus_target_32 f_Bus_putCell f_Bus_putCell_7 at hl ⊢
      unfold f_Mod_target_21
      have g0 := hc.gb hm10 (j := 0) (by omega)
      refine ⟨?_, ?_⟩
      · show kpZ Z 302 (m * 9 + 0) = f_Mod_keeps V 0 (0 + 8 * m + 0)
        rw [kp_302, ks_lo ha (by omega)]; exact g0
      · have hh := hc.pb hm10 (j := 0) (v := v) (by omega) rfl (bd_m hm10 (by omega) (c2 q))
        show RelW S' P Y (va_up (kpZ Z) 302 (upd (kpZ Z 302) (m * 9 + 0) v)) (va_up (f_Mod_keeps V) 0 (upd (f_Mod_keeps V 0) (0 + 8 * m + 0) v))
        rw [kp_302]
        refine h0.did hh _ (fun i hi => ?_) (fun i hi => ?_) ?_ hS
        · exact ud_cg (ks_lo ha (by omega)) rfl
        · rw [ud_o (by omega)]
        · rw [← kp_302 (Z := Z)]; exact hl
theorem e_hand : E_hand RelW := by
  intro x v S S' P Y Z W h hl hS
  have h0 := h.u0
  have hg := h.1.2.2.2.2.1
  have hc := h0.cx
  have hp := h0.2.2.1.1
  have ha := h0.2.1.2.1
  have n2 := hp.nb.2
  have e0 := t_0
  have e1 := t_1000
  show (f_Bus_hand P x v Z).1 = (f_Mod_hand x v W).1 ∧ RelW S' P Y (f_Bus_hand P x v Z).2 (f_Mod_hand x v W).2
  replace hl : HiL (f_Bus_hand P x v Z).2 S' := hl hg
  unfold f_Bus_hand at hl ⊢
  unfold f_Mod_hand f_Mod_byHand
  generalize u2 W 100 18 0 = V at *
  rcases ib_eq (x := x) hp with ⟨a1, a2⟩ | ⟨a1, a2, m, hm, rfl⟩
  · rw [if_pos a1] at hl ⊢
    rw [if_pos a2]
    simp only [if_true]
    exact ⟨rfl, h0.rfs (by decide) hl hS⟩
  · have hm10 : m < 10 := by omega
    rw [if_neg (by rw [a1]; decide), nI_clamp (by omega)] at hl ⊢
    rw [if_neg (show ¬ f_Mod_within (nI m) (nI 0) (nI (pN V 100 20) - 1) = 0 by rw [a2]; decide)]
    have rfd : ∀ {F : Int32 × Zf}, HiL (u2 Z 305 1 (Z 305 1 + 1)) S' → F = f_Mod_refuses 1 V → (-1 : Int32) = F.1 ∧ RelW S' P Y (u2 Z 305 1 (Z 305 1 + 1)) F.2 := by
      intro F hl e
      subst e
      exact ⟨rfl, h0.rfs (by decide) hl hS⟩
    have wv : f_Mod_within v (nI 0) (nI 1000) = if v < 0 then 0 else if 1000 < v then 0 else 1 := rfl
    by_cases q1 : v < 0
    · rw [if_pos q1] at hl ⊢
      rw [wv, if_pos q1]
      simp only [if_true]
      refine rfd hl ?_
      split <;> rfl
    rw [if_neg q1] at hl ⊢
    rw [wv, if_neg q1]
    by_cases q2 : v ≤ 1000
    · rw [if_pos q2] at hl ⊢
      have q3 : ¬ 1000 < v := fun z => by rw [i_le] at q2; rw [i_lt] at z; omega
      rw [if_neg q3]
      have i10 : ¬ (1 : Int32) = 0 := by decide
      simp only [if_neg i10]
      unfold f_Bus_hand_24 at hl ⊢
      rcases hd_eq (m := nI m) hc hp hm with ⟨d1, d2⟩ | ⟨j, hj, d1, d2⟩
      · rw [if_pos d1] at hl ⊢
        rw [if_pos d2]
        exact rfd hl rfl
      · have nj : ¬ nI j = -1 := m1_ne (by omega)
        have nk : ¬ nI (m * 9 + j) = -1 := m1_ne (by omega)
        rw [d1, if_neg nk, nI_clamp (by omega)] at hl ⊢
        rw [d2, if_neg nj, nI_clamp (by omega)]
        unfold f_Bus_hand_52 f_Bus_putCell f_Bus_putCell_7 at hl ⊢
        unfold f_Mod_hand_34
        have g0 := hc.gb hm10 (j := j) (by omega)
        refine ⟨?_, ?_⟩
        · show kpZ Z 302 (m * 9 + j) = f_Mod_keeps V 0 (0 + 8 * m + j)
          rw [kp_302, ks_lo ha (by omega)]; exact g0
        · rw [i_lt] at q1
          rw [i_le] at q2
          have hh := hc.pb hm10 (j := j) (v := v) (by omega) rfl (bd_o hm10 hj (by omega))
          show RelW S' P Y (va_up (kpZ Z) 302 (upd (kpZ Z 302) (m * 9 + j) v)) (va_up (f_Mod_keeps V) 0 (upd (f_Mod_keeps V 0) (0 + 8 * m + j) v))
          rw [kp_302]
          refine h0.did hh _ (fun i hi => ?_) (fun i hi => ?_) ?_ hS
          · exact ud_cg (ks_lo ha (by omega)) rfl
          · rw [ud_o (by omega)]
          · rw [← kp_302 (Z := Z)]; exact hl
    · rw [if_neg q2] at hl ⊢
      have q3 : 1000 < v := by rw [i_le] at q2; rw [i_lt]; omega
      rw [if_pos q3]
      simp only [if_true]
      refine rfd hl ?_
      split <;> rfl
theorem e_power : E_power RelW := by
  intro x v S S' P Y Z W h hl hS
  have h0 := h.u0
  have hg := h.1.2.2.2.2.1
  have hc := h0.cx
  have hp := h0.2.2.1.1
  have hx := h0.2.2.1.2
  have ha := h0.2.1.2.1
  have n3 := hp.nd.2
  show (f_Bus_power P x v Z).1 = (f_Mod_power x v W).1 ∧ RelW S' P Y (f_Bus_power P x v Z).2 (f_Mod_power x v W).2
  replace hl : HiL (f_Bus_power P x v Z).2 S' := hl hg
  unfold f_Bus_power at hl ⊢
  unfold f_Mod_power
  have ew : pN W 100 19 = pN (u2 W 100 18 0) 100 19 := by unfold pN; rw [u2_i (by decide) rfl]
  rw [ew]
  generalize u2 W 100 18 0 = V at *
  rcases id_eq2 (x := x) hp with ⟨a1, a2⟩ | ⟨a1, a2, m, hm, rfl⟩
  · rw [if_pos a1] at hl ⊢
    rw [if_pos a2]
    exact ⟨rfl, h0.rfs (by decide) hl hS⟩
  · rw [if_neg (by rw [a1]; decide)] at hl ⊢
    rw [if_neg (show ¬ f_Mod_within (nI m) (nI 0) (nI (pN V 100 19) - 1) = 0 by rw [a2]; decide), nI_clamp (by omega)]
    unfold f_Mod_power_19
    unfold f_State_isOn at hl ⊢
    rw [cx_on hc] at hl ⊢
    by_cases q : f_Mod_isOn V 0 m (V 0) = v
    · rw [if_pos q] at hl ⊢
      rw [if_pos q]
      exact ⟨rfl, h0.rfs (by decide) hl hS⟩
    · rw [if_neg q] at hl ⊢
      rw [if_neg q]
      unfold f_Bus_power_28 f_Bus_power_35 at hl ⊢
      obtain ⟨y', hh⟩ := cx_power (v := v) hc hp ⟨hx.1.2.2.1, hx.1.2.2.2⟩ hm
      have kW : f_Mod_keeps V 100 23 = V 100 23 := (ks_sp ha).2.1 23 (by decide) (by decide)
      have key : ∀ i, f_Mod_powers (f_Mod_keeps V) 0 (nI m) v (f_Mod_keeps V 0) i = if i < 210 then f_Mod_powers V 0 (nI m) v (V 0) i else f_Mod_keeps V 0 i := by
        intro i
        have l5 : f_Mod_keeps V 0 (0 + 205) = V 0 (0 + 205) := ks_lo ha (by decide)
        unfold f_Mod_powers
        rw [kW, l5, ud_o (show (0 + 206 : Nat) ≠ 0 + 205 by decide), ud_o (show (0 + 206 : Nat) ≠ 0 + 205 by decide), ks_lo ha (show (0 + 206 : Nat) < 630 by decide)]
        by_cases z : i < 210
        · rw [if_pos z]
          have li : f_Mod_keeps V 0 i = V 0 i := ks_lo ha (by omega)
          by_cases u : v = 0
          · rw [if_pos u, if_pos u]
            by_cases u2 : V 0 (0 + 206) = nI m
            · rw [if_pos u2, if_pos u2]; exact ud_cg (ud_cg (ud_cg li rfl) rfl) rfl
            · rw [if_neg u2, if_neg u2]; exact ud_cg li rfl
          · rw [if_neg u, if_neg u]; exact ud_cg li rfl
        · rw [if_neg z]
          by_cases u : v = 0
          · rw [if_pos u]
            by_cases u2 : V 0 (0 + 206) = nI m
            · rw [if_pos u2, ud_o (by omega), ud_o (by omega), ud_o (by omega)]
            · rw [if_neg u2, ud_o (by omega)]
          · rw [if_neg u, ud_o (by omega)]
      rw [kp_302] at hl ⊢
      refine ⟨?_, h0.did hh _ (fun i hi => by rw [key, if_pos hi]) (fun i hi => by rw [key, if_neg (by omega)]) hl hS⟩
      show va_up (kpZ Z) 302 (f_State_switchDevice (nI m) v (P 30 2) (Z 302)) 302 220 = va_up (f_Mod_keeps V) 0 (f_Mod_powers (f_Mod_keeps V) 0 (nI m) v (f_Mod_keeps V 0)) 0 205
      rw [up_same, up_same, key, if_pos (by decide)]
      exact hh.gs (by decide) (by decide) rfl
