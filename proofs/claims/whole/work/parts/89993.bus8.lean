/-! a text that is accepted -/
theorem bez {U : Zf} {k : Nat} (h : k = 14 ∨ k = 15 ∨ k = 16 ∨ k = 17 ∨ k = 31 ∨ (53 ≤ k ∧ k ≤ 62)) : becZ U k = U k := by
  have hc : k = 14 ∨ k = 15 ∨ k = 16 ∨ k = 17 ∨ k = 31 ∨ k = 53 ∨ k = 54 ∨ k = 55 ∨ k = 56 ∨ k = 57 ∨ k = 58 ∨ k = 59 ∨ k = 60 ∨ k = 61 ∨ k = 62 := by omega
  rcases hc with rfl | rfl | rfl | rfl | rfl | rfl | rfl | rfl | rfl | rfl | rfl | rfl | rfl | rfl | rfl <;> rfl
theorem bei {U : Zf} {i : Nat} (h : i < 19 ∨ 23 < i) : becZ U 100 i = U 100 i := by
  show u2 (u2 (u2 (u2 (u2 U 100 19 (U 100 66)) 100 20 (U 100 67)) 100 21 (U 100 68)) 100 22 (U 100 69)) 100 23 (U 100 70) 100 i = _
  rw [u2_i (by omega) rfl, u2_i (by omega) rfl, u2_i (by omega) rfl, u2_i (by omega) rfl, u2_i (by omega) rfl]
/-- what an accepted text makes of the plan -/
theorem new_all {c : Nat} {Q U Y : Zf} (hp : PlR c Q U) (hR : RdM U) (hy : YQ Q) (hY : YQ Y) (hw : wfM U) (h2 : isN U 2 60) : wfQ (Y1 Q Y) ∧ wfP (P3 (Y1 Q Y)) ∧ PQ Q (P3 (Y1 Q Y)) ∧ LYR (P3 (Y1 Q Y)) (f_Mod_laysCycle (becZ U)) ∧ LyP (P3 (Y1 Q Y)) := by
  have pq1 : PQ Q (Y1 Q Y) := fun k hk => mx_in (by
    have hc : k = 0 ∨ k = 1 ∨ k = 2 ∨ k = 3 ∨ k = 4 ∨ k = 5 ∨ k = 6 ∨ k = 7 ∨ k = 8 ∨ k = 9 ∨ k = 10 ∨ k = 11 ∨ k = 12 ∨ k = 13 ∨ k = 14 ∨ k = 15 ∨ k = 16 ∨ k = 17 ∨ k = 30 ∨ k = 31 := by omega
    simp only [List.mem_cons, List.not_mem_nil, or_false]; omega)
  have pq2 : PQ Q (P3 (Y1 Q Y)) := fun k hk => (p3o (by simp only [List.mem_cons, List.not_mem_nil, or_false]; omega)).trans (pq1 k hk)
  have wq1 := wq_new hp hR hy pq1
  have wq2 := wq_new hp hR hy pq2
  have h18 : isN (Y1 Q Y) 18 10 := hY.2.2.2.2.2.2.2.e (mix_o (by decide))
  obtain ⟨bw, bp⟩ := be_wf hw h2 hR
  obtain ⟨a1, a2, a3⟩ := ly_of wq1 h18 bw bp (ps_new hp pq2 be_BE wq2)
  exact ⟨wq1, ⟨wq2, a2, a3⟩, pq2, a1, fun V v1 v2 v3 => (ly_of wq1 h18 v1 v2 v3).1⟩
theorem bus_yes {S : SA} {P Y Z W : Zf} {n : Nat} {x : Int32} (h : RelW S P Y Z W) (hx : x = nI n) (hn : n ≤ 900) (hl : x ≤ Z 507 1) (hq : (bsF Z Y n).1 = 0) : f_Mod_thrown (f_Mod_bus x W).2 = 0 ∧ (f_Mod_bus x W).1 = 0 ∧ RelW S (bsP Z Y n) (Y2 (bsF Z Y n).2 Y P) (f_Bus_bus_99 (bsP Z Y n) (nI n) (bsZ Z Y n)).2 (f_Mod_bus x W).2 := by
  obtain ⟨Q, U, e1, e2, ⟨t1, t2, t3⟩, hR, hy, t6⟩ := h.txt hx hn hl
  obtain ⟨kc, c, hp⟩ : Kc (Z 506) (Q 40) U ∧ ∃ c, PlR c Q U := by
    rcases t6 with a | a
    · exact a
    · rw [e1] at hq; exact absurd hq a.ne
  have w1 : ∀ k, k < 53 → U k = W k := fun k hk => by rw [t1 k hk, u2_k (by omega)]
  have w2 : ∀ i, i < 46 → i ≠ 18 → i ≠ 32 → i ≠ 33 → U 100 i = W 100 i := fun i a b c d => by rw [t2 i a c d, u2_i b rfl]
  have u18 : U 100 18 = 0 := by rw [t2 18 (by decide) (by decide) (by decide), u2_s]
  have hY := h.2.2.2.2.2.2
  have r := rel_txt (Y' := Y) h w1 w2 t3 hR (v := Q 40 0) kc.2.2.1.2 hY
  obtain ⟨rc, rm, ⟨rk, rx⟩, ⟨-, -, -, r4⟩, -, ⟨r51, r52, -⟩, -⟩ := r
  obtain ⟨m1, -, -, m4, -, m6, -, -, -, -, m11, -⟩ := rm
  obtain ⟨n1, n2, n3, n4, n5⟩ := new_all hp hR hy hY m1 m11
  obtain ⟨bw, bp⟩ := be_wf m1 m11 hR
  obtain ⟨lw, lp, lt, lk, li⟩ := lay_all bw bp
  have bs : bsP Z Y n = P3 (Y1 Q Y) := by unfold bsP; rw [e1]
  have zb : bsZ Z Y n = u2 (u2 Z 507 1 0) 507 2 (Q 40 0) := by
    unfold bsZ
    rw [e1]
    have e : Y1 Q Y 40 = Q 40 := mx_in (by decide)
    rw [e]
  rw [bs, zb, e1, e2]
  unfold f_Mod_bus_179
  rw [if_pos kc.1.2, bec_eq]
  generalize u2 (u2 Z 507 1 0) 507 2 (Q 40 0) = Zb at rc r4 r51 r52 ⊢
  obtain ⟨z1, z2, z3, z4, z5⟩ := z99 (P := P3 (Y1 Q Y)) (Z := Zb) (x := nI n)
  have hd : ∃ d, (1 ≤ d ∧ d ≤ 5) ∧ U 100 66 = nI d := hp.2.2.1.2.1
  have ho : ∃ o, o ≤ 9 ∧ U 100 70 = nI o := hp.2.2.1.2.2
  have heq := hp.2.2.1.1
  generalize (f_Bus_bus_99 (P3 (Y1 Q Y)) (nI n) Zb).2 = Zn at z1 z2 z3 z4 z5 ⊢
  generalize P3 (Y1 Q Y) = N at n2 n3 n4 n5 z2 ⊢
  -- the reference
  have vk : ∀ k, (k = 14 ∨ k = 15 ∨ k = 16 ∨ k = 17 ∨ k = 31 ∨ (53 ≤ k ∧ k ≤ 62)) → f_Mod_laysCycle (becZ U) k = U k := fun k hk => (lk k (by unfold lyK tkK; omega)).trans (bez hk)
  have vi : ∀ i, (i < 19 ∨ 23 < i) → i ≠ 42 → i ≠ 43 → f_Mod_laysCycle (becZ U) 100 i = U 100 i := fun i hi a b => (li i a b).trans (bei hi)
  have BL : BE U (f_Mod_laysCycle (becZ U)) := be_BE.fr (fun k a b => lk k (by unfold lyK tkK; omega)) (fun i a b => li i (by omega) (by omega))
  have b2 : isN (f_Mod_laysCycle (becZ U)) 2 10 := (be_N (be_2 (Z := U)) hR.2.2.1.2.1 m6).e (lk 2 (by unfold lyK tkK; decide))
  generalize f_Mod_laysCycle (becZ U) = L at lw lp lt vk vi BL b2 n4 ⊢
  have cn := nw_cnt hp n3 BL
  have b10 : pN N 30 3 ≤ 10 := by have := n2.1.2.2.2.2.2.1.2; omega
  have l12 : pN N 31 0 ≤ 12 := by have := n2.1.2.2.2.2.2.2.1.2; omega
  have d5 : 0 < pN N 30 0 ∧ pN N 30 0 ≤ 5 := by
    obtain ⟨d, d1, d2⟩ := hd
    have : pN N 30 0 = d := by rw [cn.1]; exact pN_mk (by omega) (BL.2.2.2.1.trans d2)
    omega
  have st := st_new (c := Zb 302) cn.2.1 b10 cn.2.2 l12 cn.1 d5 (fun k hk => (tg_new hp hy n3 BL lw hk).1) (fun k hk => (tg_new hp hy n3 BL lw hk).2)
  have gw := z_begins lw
  have gk : ∀ k, k ≠ 0 → f_Mod_begins L k = L k := fun k hk => begins_keep hk
  have g206 : f_Mod_begins L 0 206 = 0 := by
    rw [bg_all (by omega) (by omega), if_neg (by decide), if_neg (by omega), if_neg (by omega), if_pos (by decide)]
  generalize f_Mod_begins L = G at st gw gk g206 ⊢
  have Wk : ∀ k, k ≠ 100 → u2 (u2 (u2 (u2 G 100 30 0) 100 26 0) 100 25 0) 100 24 0 k = G k := fun k hk => by rw [u2_k hk, u2_k hk, u2_k hk, u2_k hk]
  have Wi : ∀ i, i ≠ 24 → i ≠ 25 → i ≠ 26 → i ≠ 30 → u2 (u2 (u2 (u2 G 100 30 0) 100 26 0) 100 25 0) 100 24 0 100 i = L 100 i := fun i a b c d => by rw [u2_i a rfl, u2_i b rfl, u2_i c rfl, u2_i d rfl, gk 100 (by decide)]
  have W24 : u2 (u2 (u2 (u2 G 100 30 0) 100 26 0) 100 25 0) 100 24 0 100 24 = 0 := u2_s
  have W25 : u2 (u2 (u2 (u2 G 100 30 0) 100 26 0) 100 25 0) 100 24 0 100 25 = 0 := by rw [u2_i (by decide) rfl, u2_s]
  have W26 : u2 (u2 (u2 (u2 G 100 30 0) 100 26 0) 100 25 0) 100 24 0 100 26 = 0 := by rw [u2_i (by decide) rfl, u2_i (by decide) rfl, u2_s]
  have W30 : u2 (u2 (u2 (u2 G 100 30 0) 100 26 0) 100 25 0) 100 24 0 100 30 = 0 := by rw [u2_i (by decide) rfl, u2_i (by decide) rfl, u2_i (by decide) rfl, u2_s]
  have WM : wfM (u2 (u2 (u2 (u2 G 100 30 0) 100 26 0) 100 25 0) 100 24 0) := (((gw.u100 (by decide)).u100 (by decide)).u100 (by decide)).u100 (by decide)
  generalize u2 (u2 (u2 (u2 G 100 30 0) 100 26 0) 100 25 0) 100 24 0 = W' at Wk Wi W24 W25 W26 W30 WM ⊢
  have WL : ∀ k, k ≠ 0 → k ≠ 100 → W' k = L k := fun k a b => (Wk k b).trans (gk k a)
  have BW : BE U W' := BL.fr (fun k a b => WL k (by omega) (by omega)) (fun i a b => Wi i (by omega) (by omega) (by omega) (by omega))
  have PM' : PlM W' := by
    unfold PlM isN pN at *
    rw [WL 2 (by decide) (by decide), WL 8 (by decide) (by decide), WL 9 (by decide) (by decide), Wi 20 (by decide) (by decide) (by decide) (by decide), Wi 21 (by decide) (by decide) (by decide) (by decide)]
    exact lp
  have w32 : W' 100 32 = 0 := by rw [Wi 32 (by decide) (by decide) (by decide) (by decide), vi 32 (by decide) (by decide) (by decide)]; exact t3
  have Zn7 : ∀ i, i ≠ 7 → Zn 507 i = Zb 507 i := fun i hi => by rw [z5, ud_o hi]
  have zn1 : Zn 507 1 = 0 := by rw [Zn7 1 (by decide), r51]; exact t3
  have zn7 : Zn 507 7 = 0 := by rw [z5, ud_s]
  have pz1 : pN Zn 507 1 = 0 := pN_mk (by omega) zn1
  have p303 : pN Zn 303 0 = 0 := pN_mk (by omega) (by rw [z3, ud_s]; rfl)
  have p310 : pN Zn 310 0 = 0 := pN_mk (by omega) (by rw [z4, ud_s]; rfl)
  have i22 : W' 100 22 = U 100 69 := BW.2.2.2.2.2.2.1
  have i23 : W' 100 23 = U 100 70 := BW.2.2.2.2.2.2.2
  have LW : LYR N W' := n4.cg (fun k hk => WL k (by omega) (by omega)) (fun i hi => Wi i (by omega) (by omega) (by omega) (by omega))
  obtain ⟨k1, k2, -⟩ := rc
  show f_Mod_thrown W' = 0 ∧ (0 : Int32) = 0 ∧ RelW S N (Y2 Q Y P) Zn W'
  refine ⟨?_, rfl, ⟨?_, ?_, ⟨by rw [pz1]; exact zn1, by omega⟩, d5.1, ?_, Or.inl zn7, fun z => absurd zn7 z⟩, ⟨WM, ?_, ?_, ?_, PM', b2.e (WL 2 (by decide) (by decide)), ?_, ?_, ?_, ?_, PM'.1, ?_⟩, ⟨pk_new hp hy n3 BW n2 WM PM' (fun k hk => ?_), ⟨?_, ?_, ?_, ?_⟩, ?_, LW, n5⟩, ⟨?_, ⟨?_, fun k hk => ?_⟩, ⟨?_, fun k hk => ?_⟩, ?_⟩, ⟨?_, fun z => absurd zn7 z⟩, ⟨?_, ?_, fun i hi => ?_⟩, ?_⟩
  · show W' 100 18 = 0
    rw [Wi 18 (by decide) (by decide) (by decide) (by decide), vi 18 (by decide) (by decide) (by decide)]; exact u18
  · obtain ⟨-, j2, j3⟩ := k1
    refine ⟨⟨by rw [p310, z4, ud_s]; rfl, by omega⟩, ?_, ?_⟩
    · unfold pN at *; rw [z1 311 (by decide) (by decide) (by decide) (by decide)]; exact j2
    · unfold pN at *; rw [z1 312 (by decide) (by decide) (by decide) (by decide)]; exact j3
  · refine ⟨⟨by rw [p303, z3, ud_s]; rfl, by omega⟩, ?_⟩
    have := k2.2
    unfold pN at *
    rw [z3, ud_o (by decide)]; exact this
  · intro k hk; rw [p303] at hk; omega
  · have a : pN W' 100 24 = 0 := pN_mk (by omega) W24
    have b : pN W' 100 25 = 0 := pN_mk (by omega) W25
    exact ⟨⟨by rw [a]; exact W24, by omega⟩, by rw [b]; exact W25, by omega⟩
  · unfold TkI hasT pN at *
    rw [Wi 20 (by decide) (by decide) (by decide) (by decide), WL 34 (by decide) (by decide)]; exact lt
  · have a : pN W' 100 26 = 0 := pN_mk (by omega) W26
    refine ⟨⟨by rw [a]; exact W26, by omega⟩, ?_⟩
    have := m4.2
    unfold pN at *
    rw [WL 14 (by decide) (by decide), vk 14 (by omega)]; exact this
  · right
    exact ⟨0, by omega, by rw [Wk 0 (by decide), g206]; rfl⟩
  · rw [show pN W' 100 19 = pN L 100 19 by unfold pN; rw [Wi 19 (by decide) (by decide) (by decide) (by decide)], ← cn.1]; exact d5.1
  · exact hR.w.of (fun k a b => by rw [WL k (by omega) (by omega), vk k (by omega)])
  · have := hR.1.2.2
    unfold VvI pN at *
    rw [Wi 50 (by decide) (by decide) (by decide) (by decide), vi 50 (by decide) (by decide) (by decide)]; exact this
  · have a : pN W' 100 32 = 0 := pN_mk (by omega) w32
    rw [a]; exact ⟨w32, by omega⟩
  · have := (LW.2.1 k hk).1
    exact this
  · rw [Wi 44 (by decide) (by decide) (by decide) (by decide), vi 44 (by decide) (by decide) (by decide)]; exact rx.1.1
  · rw [n3 30 (by omega), i22]; exact heq.2.1
  · rw [n3 30 (by omega), i23]; exact heq.2.2
  · obtain ⟨o, o1, o2⟩ := ho
    rw [n3 30 (by omega), heq.2.2, o2, nI_toInt (by omega)]; omega
  · intro k hk
    obtain ⟨v1, v2, v3, v4, -⟩ := BW.1 k (by omega)
    have e20 : pN L 100 20 = pN U 100 67 := by unfold pN; rw [BL.2.2.2.2.1]
    have g := hp.1.2.1 k (by omega)
    refine ⟨by rw [n3 2 (by omega), v2]; exact g.1.2.2, fun z => ?_⟩
    have z0 : Q 0 k = 1 := by
      have : pN Q 0 k = 1 := by unfold pN at *; rw [← n3 0 (by omega)]; exact z
      rw [(hy.1 k).1, this]; rfl
    rw [n3 4 (by omega), v4]; exact (g.2.2.1 z0).1.1
  · rw [z2]
    exact st.cg (fun _ _ => rfl) (fun i _ => by rw [Wk 0 (by decide)])
  · rw [z3, ud_s, W24]
  · rw [p303] at hk; omega
  · rw [z4, ud_s, W26]
  · rw [p310] at hk; omega
  · exact r4.cg (z1 305 (by decide) (by decide) (by decide) (by decide)) (by rw [WL 17 (by decide) (by decide), vk 17 (by omega)])
  · rw [zn7, W30]
  · rw [zn1, w32]
  · rw [Zn7 2 (by decide), r52, Wi 33 (by decide) (by decide) (by decide) (by decide), vi 33 (by decide) (by decide) (by decide)]
  · rw [pz1] at hi; omega
  · have wp := h.2.2.1.1.wP
    have e : ∀ k, k ≠ 40 → Y2 Q Y P k = P k := fun k hk => if_neg hk
    obtain ⟨⟨q0, q1, q12, q13, q14, -, -, -, q10, q11, -⟩, q18, -⟩ := wp
    exact ⟨q0.e (e 0 (by decide)), q1.e (e 1 (by decide)), q12.e (e 12 (by decide)), q13.e (e 13 (by decide)), q14.e (e 14 (by decide)), q10.e (e 10 (by decide)), q11.e (e 11 (by decide)), q18.e (e 18 (by decide))⟩
