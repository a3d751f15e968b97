/-! a text that is refused -/
theorem rel_txt {S : SA} {P Y Y' Z W U : Zf} {v : Int32} (h : RelW S P Y Z W) (w1 : ∀ k, k < 53 → U k = W k) (w2 : ∀ i, i < 46 → i ≠ 18 → i ≠ 32 → i ≠ 33 → U 100 i = W 100 i) (w3 : U 100 32 = 0) (hR : RdM U) (e33 : v = U 100 33) (hy : YQ Y') : RelW S P Y' (u2 (u2 Z 507 1 0) 507 2 v) U := by
  have zk : ∀ k, k ≠ 507 → u2 (u2 Z 507 1 0) 507 2 v k = Z k := fun k hk => by rw [u2_k hk, u2_k hk]
  have z7 : u2 (u2 Z 507 1 0) 507 2 v 507 7 = Z 507 7 := by rw [u2_i (by decide) rfl, u2_i (by decide) rfl]
  have z1 : u2 (u2 Z 507 1 0) 507 2 v 507 1 = 0 := by rw [u2_i (by decide) rfl, u2_s]
  have z2 : u2 (u2 Z 507 1 0) 507 2 v 507 2 = v := u2_s
  have pz1 : pN (u2 (u2 Z 507 1 0) 507 2 v) 507 1 = 0 := pN_mk (by omega) z1
  generalize u2 (u2 Z 507 1 0) 507 2 v = Q at zk z7 z1 z2 pz1 ⊢
  obtain ⟨h1, h2, ⟨h3, h4⟩, ⟨a1, a2, a3, a4⟩, ⟨b1, b2⟩, -, -⟩ := h
  refine ⟨?_, ?_, ⟨?_, ?_⟩, ⟨?_, ?_, ?_, ?_⟩, ⟨?_, ?_⟩, ⟨?_, ?_, ?_⟩, hy⟩
  · obtain ⟨k1, k2, -, k4, k5, k6, k7⟩ := h1
    refine ⟨?_, ?_, ⟨?_, by omega⟩, k4, ?_, by rw [z7]; exact k6, fun q => ?_⟩
    · unfold NtI pN at *; rw [zk 310 (by decide), zk 311 (by decide), zk 312 (by decide)]; exact k1
    · unfold HiI pN at *; rw [zk 303 (by decide)]; exact k2
    · rw [pz1]; exact z1
    · unfold HiL pN at *; rw [zk 303 (by decide)]; exact k5
    · rw [z7] at q
      have k8 := k7 q
      unfold HiI pN at *; rw [zk 403 (by decide), zk 410 (by decide)]; exact k8
  · obtain ⟨m1, m2, m3, m4, m5, m6, m7, m8, -, -, m9, -⟩ := h2
    refine ⟨m1.of (w1 _ (by decide)) (w1 _ (by decide)) (w1 _ (by decide)) (w1 _ (by decide)) (w1 _ (by decide)) (w1 _ (by decide)) (w1 _ (by decide)) (w1 _ (by decide)) (w1 _ (by decide)) (w2 _ (by decide) (by decide) (by decide) (by decide)) (w2 _ (by decide) (by decide) (by decide) (by decide)) (w2 _ (by decide) (by decide) (by decide) (by decide)), ?_, ?_, ?_, ?_, m6.e (w1 2 (by decide)), by rw [w1 0 (by decide)]; exact m7, ?_, hR.w, hR.1.2.2, m9.e (w1 2 (by decide)), ?_⟩
    · unfold AcI pN at *; rw [w2 24 (by decide) (by decide) (by decide) (by decide), w2 25 (by decide) (by decide) (by decide) (by decide)]; exact m2
    · unfold TkI hasT pN at *; rw [w2 20 (by decide) (by decide) (by decide) (by decide), w1 34 (by decide)]; exact m3
    · unfold NtM pN at *; rw [w2 26 (by decide) (by decide) (by decide) (by decide), w1 14 (by decide)]; exact m4
    · unfold PlM isN pN at *; rw [w1 2 (by decide), w1 8 (by decide), w1 9 (by decide), w2 20 (by decide) (by decide) (by decide) (by decide), w2 21 (by decide) (by decide) (by decide) (by decide)]; exact m5
    · unfold pN at *; rw [w2 19 (by decide) (by decide) (by decide) (by decide)]; exact m8
    · have : pN U 100 32 = 0 := pN_mk (by omega) w3
      rw [this]; exact ⟨w3, by omega⟩
  · exact h3.cg (fun k hk => w1 k (by omega)) (fun i hi => w2 i (by omega) (by omega) (by omega) (by omega))
  · exact h4.cg (fun k hk => w1 k (by omega)) (fun i hi => w2 i (by omega) (by omega) (by omega) (by omega))
  · exact a1.cg (fun i _ => by rw [zk 302 (by decide)]) (fun i hi => by rw [w1 0 (by decide)])
  · exact a2.cg (zk _ (by omega)) (fun p hp => zk _ (by omega)) (w2 _ (by omega) (by omega) (by omega) (by omega)) (w2 _ (by omega) (by omega) (by omega) (by omega)) (fun i _ _ => by rw [w1 0 (by decide)])
  · exact a3.cg (zk _ (by omega)) (zk _ (by omega)) (zk _ (by omega)) (zk _ (by omega)) (w2 _ (by omega) (by omega) (by omega) (by omega)) (w1 _ (by omega)) (w1 _ (by omega)) (w1 _ (by omega))
  · exact a4.cg (zk _ (by omega)) (w1 _ (by omega))
  · rw [z7, w2 30 (by omega) (by omega) (by omega) (by omega)]; exact b1
  · intro q
    rw [z7] at q
    obtain ⟨⟨d1, d2, d3, d4⟩, d5, d6⟩ := b2 q
    refine ⟨⟨?_, ?_, ?_, ?_⟩, ?_, ?_⟩
    · exact d1.cg (fun i _ => by rw [zk 402 (by decide)]) (fun i hi => by rw [w1 0 (by decide)])
    · exact d2.cg (zk _ (by omega)) (fun p hp => zk _ (by omega)) (w2 _ (by omega) (by omega) (by omega) (by omega)) (w2 _ (by omega) (by omega) (by omega) (by omega)) (fun i _ _ => by rw [w1 0 (by decide)])
    · exact d3.cg (zk _ (by omega)) (zk _ (by omega)) (zk _ (by omega)) (zk _ (by omega)) (w2 _ (by omega) (by omega) (by omega) (by omega)) (w1 _ (by omega)) (w1 _ (by omega)) (w1 _ (by omega))
    · exact d4.cg (zk _ (by omega)) (w1 _ (by omega))
    · unfold AcJ pN at *
      rw [w2 27 (by omega) (by omega) (by omega) (by omega), w2 28 (by omega) (by omega) (by omega) (by omega)]; exact d5
    · unfold pN at *
      rw [zk 410 (by omega), zk 411 (by omega), zk 412 (by omega)]; exact d6
  · rw [z1, w3]
  · rw [z2]; exact e33
  · intro i hi
    rw [pz1] at hi; omega
theorem YQ.y1 {Q Y : Zf} (h : YQ Q) (g : YQ Y) : YQ (Y1 Q Y) := by
  obtain ⟨h0, h1, h12, h13, h14, h10, h11, -⟩ := h
  have e : ∀ k, k ∈ [40, 30, 31, 0, 1, 2, 3, 4, 5, 6, 7, 8, 9, 10, 11, 12, 13, 14, 15, 16, 17] → Y1 Q Y k = Q k := fun k hk => mx_in hk
  exact ⟨h0.e (e 0 (by decide)), h1.e (e 1 (by decide)), h12.e (e 12 (by decide)), h13.e (e 13 (by decide)), h14.e (e 14 (by decide)), h10.e (e 10 (by decide)), h11.e (e 11 (by decide)), g.2.2.2.2.2.2.2.e (mix_o (by decide))⟩
/-- the reference's bus, once the number is right -/
theorem bus_in {x : Int32} {n : Nat} {W : Zf} (hx : x = nI n) (hn : n ≤ 900) (hl : x ≤ W 100 32) : f_Mod_bus x W = f_Mod_bus_32 x (u2 W 100 18 0) n := by
  unfold f_Mod_bus
  have h0 : u2 W 100 18 0 100 18 = 0 := u2_s
  have e32 : u2 W 100 18 0 100 32 = W 100 32 := u2_i (by decide) rfl
  rw [if_neg (by rw [hx]; exact nI_pos (by omega)), e32, if_neg (fun z => by rw [i_lt] at z; rw [i_le] at hl; omega), rt_1 h0 n1z, if_neg z1z, hx, nI_clamp (by omega)]
theorem bus_out {x : Int32} {W : Zf} (h : x < 0 ∨ ¬ x ≤ W 100 32) : (f_Mod_bus x W).2 = u2 (u2 W 100 18 0) 100 18 1 := by
  unfold f_Mod_bus
  have h0 : u2 W 100 18 0 100 18 = 0 := u2_s
  have e32 : u2 W 100 18 0 100 32 = W 100 32 := u2_i (by decide) rfl
  rw [n0, nI1, rt_z h0 z1z, e32]
  by_cases q : x < 0
  · rw [if_pos q]
  · have q2 : W 100 32 < x := by
      rcases h with h | h
      · exact absurd h q
      · rw [i_le] at h; rw [i_lt]; omega
    rw [if_neg q, if_pos q2]
theorem RelW.txt {S : SA} {P Y Z W : Zf} {n : Nat} {x : Int32} (h : RelW S P Y Z W) (hx : x = nI n) (hn : n ≤ 900) (hl : x ≤ Z 507 1) : ∃ Q U, bsF Z Y n = (Q 40 1, Q) ∧ f_Mod_bus x W = f_Mod_bus_179 x U n ∧ TxR (Z 506) n (u2 W 100 18 0) Q U := by
  have h0 := h.u0
  obtain ⟨t1, -, t3⟩ := h.2.2.2.2.2.1
  have hl' : x ≤ W 100 32 := by rw [← t1]; exact hl
  have c3 := h.1.2.2.1
  have hT : ∀ i, i < n → ByR (Z 506 i) (u2 W 100 18 0 31 i) := fun i hi => by
    rw [u2_k (by decide)]
    refine t3 i ?_
    rw [hx, c3.1, nI_leI (by omega) (by omega)] at hl
    omega
  obtain ⟨m1, -, -, -, -, -, -, -, m9, m10, m11, -⟩ := h0.2.1
  obtain ⟨Q, U, q1, q2, q3⟩ := txt_rel (x := x) hn h.2.2.2.2.2.2 hT m1 m11 m9 m10
  exact ⟨Q, U, q1, by rw [bus_in hx hn hl']; exact q2, q3⟩
theorem bus_no {S : SA} {P Y Z W : Zf} {n : Nat} {x : Int32} (h : RelW S P Y Z W) (hx : x = nI n) (hn : n ≤ 900) (hl : x ≤ Z 507 1) (hq : ¬ (bsF Z Y n).1 = 0) : f_Mod_thrown (f_Mod_bus x W).2 = 0 ∧ (f_Mod_bus x W).1 = (bsF Z Y n).1 ∧ RelW S P (Y1 (bsF Z Y n).2 Y) (bsN Z Y n) (f_Mod_bus x W).2 := by
  obtain ⟨Q, U, e1, e2, ⟨t1, t2, t3⟩, t4, t5, t6⟩ := h.txt hx hn hl
  have bad : Bad (Q 40) U := by
    rcases t6 with ⟨a, -⟩ | a
    · rw [e1] at hq; exact absurd a.1.1 hq
    · exact a
  have w1 : ∀ k, k < 53 → U k = W k := fun k hk => by rw [t1 k hk, u2_k (by omega)]
  have w2 : ∀ i, i < 46 → i ≠ 18 → i ≠ 32 → i ≠ 33 → U 100 i = W 100 i := fun i a b c d => by rw [t2 i a c d, u2_i b rfl]
  have u18 : U 100 18 = 0 := by rw [t2 18 (by decide) (by decide) (by decide), u2_s]
  unfold bsN bsZ
  rw [e1, e2]
  unfold f_Mod_bus_179
  rw [if_neg bad.2.1]
  have y40 : Y1 Q Y 40 0 = U 100 33 := by
    have e : Y1 Q Y 40 = Q 40 := mx_in (by decide)
    rw [e]; exact bad.2.2
  refine ⟨?_, ?_, ?_⟩
  · show u2 U 17 0 (U 17 0 + 1) 100 18 = 0
    rw [u2_k (by decide)]; exact u18
  · show u2 U 17 0 (U 17 0 + 1) 100 52 = Q 40 1
    rw [u2_k (by decide)]; exact bad.1.symm
  · have r := rel_txt (Y' := Y1 Q Y) h w1 w2 t3 t4 y40 (t5.y1 h.2.2.2.2.2.2)
    refine r.rfs (j := 0) (S' := S) (by decide) ?_ rfl
    have hh := r.1.2.2.2.2.1
    unfold HiL pN at *
    rw [u2_k (by decide)]; exact hh
theorem bus_thr {S : SA} {P Y Z W : Zf} {x : Int32} (h : RelW S P Y Z W) (hx : x < 0 ∨ ¬ x ≤ Z 507 1) : f_Mod_thrown (f_Mod_bus x W).2 = 1 ∧ RelW S P Y Z (f_Mod_bus x W).2 := by
  have t1 := h.2.2.2.2.2.1.1
  rw [t1] at hx
  rw [bus_out hx]
  exact ⟨u2_s, h.w ((Wfr.rf.u1 (by omega)).u1 (by omega))⟩
