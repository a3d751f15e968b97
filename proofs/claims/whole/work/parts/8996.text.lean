/-! a whole text, alike on both sides -/
theorem pc_15 {Z : Zf} : ∀ s, s < 4 → f_Plants_clear Z 15 s = -1 := by
  intro s hs
  have hc : s = 0 ∨ s = 1 ∨ s = 2 ∨ s = 3 := by omega
  unfold f_Plants_clear
  rw [f_Plants_clear_2, if_neg (by decide), f_Plants_clear_2, if_neg (by decide), f_Plants_clear_2, if_neg (by decide), f_Plants_clear_2, if_neg (by decide), f_Plants_clear_2, if_pos (by decide)]
  rcases hc with rfl | rfl | rfl | rfl <;> simp [u2, va_up, upd]
def rsZ (n : Nat) (Y : Zf) : Zf := u2 (u2 (u2 (u2 (u2 (u2 (u2 Y 40 3 (nI n)) 40 4 0) 40 0 (-1)) 40 1 0) 40 6 0) 40 7 0) 40 8 0
def rcZ (n : Nat) (Y : Zf) : Zf := mixK [30, 31, 0, 1, 2, 3, 4, 5, 6, 7, 8, 9, 10, 11, 12, 13, 14, 15, 16, 17] (f_Plan_clear (rsZ n Y)) (rsZ n Y)
theorem rt_eq {B : Nat → Int32} {n : Nat} {Y : Zf} (hn : n ≤ 900) : f_Reader_readText_5 B n Y = ((f_Reader_readText_58 B n 901 (va_up (rcZ n Y) 40 (f_Reader_nextToken B (rcZ n Y 40))) 0) 40 1, f_Reader_readText_58 B n 901 (va_up (rcZ n Y) 40 (f_Reader_nextToken B (rcZ n Y 40))) 0) := by
  have e : ¬ (900 : Int32) < nI n := by
    rw [show (900 : Int32) = nI 900 by decide, nI_ltI (by omega) (by omega)]; omega
  unfold f_Reader_readText_5
  rw [if_neg e]
  rfl
theorem rsk {n : Nat} {Y : Zf} {k : Nat} (h : k ≠ 40) : rsZ n Y k = Y k := by
  unfold rsZ
  rw [u2_k h, u2_k h, u2_k h, u2_k h, u2_k h, u2_k h, u2_k h]
theorem rs40 {n : Nat} {Y : Zf} : rsZ n Y 40 3 = nI n ∧ rsZ n Y 40 4 = 0 ∧ rsZ n Y 40 0 = -1 ∧ rsZ n Y 40 1 = 0 ∧ rsZ n Y 40 6 = 0 ∧ rsZ n Y 40 7 = 0 ∧ rsZ n Y 40 8 = 0 := by
  unfold rsZ
  simp [u2, va_up, upd]
theorem pck {Z : Zf} {k : Nat} (h : k ≠ 30 ∧ k ≠ 31 ∧ k ≠ 15 ∧ k ≠ 16 ∧ k ≠ 17) : f_Plan_clear Z k = Z k := by
  unfold f_Plan_clear
  rw [mix_o (by simp only [List.mem_cons, List.not_mem_nil, or_false]; omega), u2_k (by omega), u2_k (by omega), u2_k (by omega), u2_k (by omega), u2_k (by omega)]
theorem rck {n : Nat} {Y : Zf} {k : Nat} (h : k ≠ 30 ∧ k ≠ 31 ∧ k ≠ 15 ∧ k ≠ 16 ∧ k ≠ 17 ∧ k ≠ 40) : rcZ n Y k = Y k := by
  unfold rcZ
  by_cases q : k ∈ [30, 31, 0, 1, 2, 3, 4, 5, 6, 7, 8, 9, 10, 11, 12, 13, 14, 15, 16, 17]
  · rw [mx_in q, pck (by omega), rsk (by omega)]
  · rw [mix_o q, rsk (by omega)]
theorem rc40 {n : Nat} {Y : Zf} : rcZ n Y 40 = rsZ n Y 40 := by
  unfold rcZ
  exact mix_o (by decide)
theorem rc15 {n : Nat} {Y : Zf} {s : Nat} (hs : s < 4) : rcZ n Y 15 s = -1 := by
  unfold rcZ
  rw [mx_in (by decide)]
  unfold f_Plan_clear
  rw [mx_in (by decide)]
  exact pc_15 s hs
theorem rc30 {n : Nat} {Y : Zf} : rcZ n Y 30 0 = 2 ∧ rcZ n Y 30 1 = 3 ∧ rcZ n Y 30 2 = 2 ∧ rcZ n Y 30 3 = 0 ∧ rcZ n Y 31 0 = 0 := by
  unfold rcZ
  rw [mx_in (by decide), mx_in (by decide)]
  unfold f_Plan_clear
  rw [mix_o (by decide), mix_o (by decide)]
  simp [u2, va_up, upd]
def vsV (n : Nat) (W : Zf) : Zf := u2 (u2 (u2 (u2 (u2 (u2 (u2 (u2 (u2 (u2 (u2 (u2 W 100 32 0) 100 48 (nI n)) 100 46 0) 100 52 0) 100 33 (-1)) 100 70 2) 100 66 2) 100 69 3) 100 72 0) 100 71 0) 100 68 0) 100 67 0
theorem vsk {n : Nat} {W : Zf} {k : Nat} (h : k ≠ 100) : vsV n W k = W k := by
  unfold vsV
  rw [u2_k h, u2_k h, u2_k h, u2_k h, u2_k h, u2_k h, u2_k h, u2_k h, u2_k h, u2_k h, u2_k h, u2_k h]
theorem vsi {n : Nat} {W : Zf} : (vsV n W 100 32 = 0 ∧ vsV n W 100 48 = nI n ∧ vsV n W 100 46 = 0 ∧ vsV n W 100 52 = 0 ∧ vsV n W 100 33 = -1) ∧ (vsV n W 100 70 = 2 ∧ vsV n W 100 66 = 2 ∧ vsV n W 100 69 = 3 ∧ vsV n W 100 72 = 0 ∧ vsV n W 100 71 = 0 ∧ vsV n W 100 68 = 0 ∧ vsV n W 100 67 = 0) := by
  unfold vsV
  simp [u2, va_up, upd]
theorem vso {n : Nat} {W : Zf} {i : Nat} (h : i ≠ 32 ∧ i ≠ 33 ∧ i ≠ 46 ∧ i ≠ 48 ∧ i ≠ 52 ∧ (i < 66 ∨ 72 < i)) : vsV n W 100 i = W 100 i := by
  unfold vsV
  rw [u2_i (by omega) rfl, u2_i (by omega) rfl, u2_i (by omega) rfl, u2_i (by omega) rfl, u2_i (by omega) rfl, u2_i (by omega) rfl, u2_i (by omega) rfl, u2_i (by omega) rfl, u2_i (by omega) rfl, u2_i (by omega) rfl, u2_i (by omega) rfl, u2_i (by omega) rfl]
/-- what a text has told -/
def TxR (B : Nat → Int32) (n : Nat) (W Q U : Zf) : Prop := ((∀ k, k < 53 → U k = W k) ∧ (∀ i, i < 46 → i ≠ 32 → i ≠ 33 → U 100 i = W 100 i) ∧ U 100 32 = 0) ∧ RdM U ∧ YQ Q ∧ ((Kc B (Q 40) U ∧ ∃ c, PlR c Q U) ∨ Bad (Q 40) U)
theorem txt_rel {B : Nat → Int32} {x : Int32} {n : Nat} {Y W : Zf} (hn : n ≤ 900) (hy : YQ Y) (hT : ∀ i, i < n → ByR (B i) (W 31 i)) (hw : wfM W) (h2 : isN W 2 60) (hI : RwI W) (hv : VvI W) : ∃ Q U, f_Reader_readText_5 B n Y = (Q 40 1, Q) ∧ f_Mod_bus_32 x W n = f_Mod_bus_179 x U n ∧ TxR B n W Q U := by
  obtain ⟨⟨s32, s48, s46, s52, s33⟩, s70, s66, s69, s72, s71, s68, s67⟩ := vsi (n := n) (W := W)
  have fl : ∀ k, k ≠ 100 → vsV n W k = W k := fun k hk => vsk hk
  have sw : wfM (vsV n W) := hw.of (fl _ (by decide)) (fl _ (by decide)) (fl _ (by decide)) (fl _ (by decide)) (fl _ (by decide)) (fl _ (by decide)) (fl _ (by decide)) (fl _ (by decide)) (fl _ (by decide)) (vso (by decide)) (vso (by decide)) (vso (by decide))
  have s2 : isN (vsV n W) 2 60 := h2.e (fl 2 (by decide))
  have sI : RwI (vsV n W) := hI.of (fun k _ _ => fl k (by omega))
  have sv : VvI (vsV n W) := by unfold VvI pN at *; rw [vso (by decide)]; exact hv
  obtain ⟨b1, b2, b3⟩ := bus_112 (x := x) (n := n) sw s2 sI ⟨⟨s66, s67, s68⟩, ⟨s46, s48, s52⟩, hn, sv⟩
  have bk := bus_94 (x := x) (n := n) (fu 5) (vsV n W) 0 (Nat.zero_le _) (by rw [fu_eq]; omega)
  have eb : f_Mod_bus_32 x W n = f_Mod_bus_116 x 902 (s_Mod_go (f_Mod_bus_94 x (fu 5) (vsV n W) n 0)) n := by
    show f_Mod_bus_112 x (f_Mod_bus_94 x (fu 5) (vsV n W) n 0) n = _
    unfold f_Mod_bus_112
    rw [fu_eq 902]
  rw [eb, rt_eq hn]
  generalize f_Mod_bus_94 x (fu 5) (vsV n W) n 0 = V at b1 b2 b3 bk ⊢
  obtain ⟨bk, bm⟩ := bk
  have e100 : V 100 = vsV n W 100 := bk 100 (by decide)
  obtain ⟨r3, r4, r0, r1, r6, r7, r8⟩ := rs40 (n := n) (Y := Y)
  obtain ⟨y0, y1, y2, y3, y4⟩ := rc30 (n := n) (Y := Y)
  have hb3 : GoI V := b3.1
  obtain ⟨g1, g2, g3, g4⟩ := go_s hb3
  have v31 : V 31 = W 31 := (bk 31 (by decide)).trans (fl 31 (by decide))
  obtain ⟨c1, c2⟩ := go_rel (B := B) (R := rcZ n Y 40) (V := V) (n := n) (p := 0) (by rw [rc40]; exact r1) (by rw [rc40]; exact r3) (by rw [rc40]; exact r4) (by rw [e100]; exact s48) (by rw [e100]; exact s46) (by omega) hn (fun i hi => by rw [v31]; exact hT i hi)
  have kt : Kt B (rcZ n Y 40) (s_Mod_go V) := by
    refine ⟨⟨by rw [rc40]; exact r1, ?_⟩, g1, ⟨?_, ?_⟩, c1, c2⟩
    · rw [g2.2 52 (by unfold goK; decide), e100]; exact s52
    · intro i hi
      have : pN (s_Mod_go V) 100 48 = n := pN_mk (by omega) (by rw [g2.2 48 (by unfold goK; decide), e100]; exact s48)
      rw [this] at hi
      rw [g2.1 31 (by decide), v31]; exact hT i hi
    · rw [rc40, r0, g2.2 33 (by unfold goK; decide), e100]; exact s33.symm
  have n67 : pN V 100 67 = 0 := pN_mk (by omega) (by rw [e100]; exact s67)
  have n68 : pN V 100 68 = 0 := pN_mk (by omega) (by rw [e100]; exact s68)
  have pl : PlR 0 (rcZ n Y) V := by
    refine ⟨⟨⟨?_, ?_⟩, fun k hk => by omega, fun l hl => by omega, ⟨fun k w hk _ => by omega, fun k hk => by omega⟩, fun l m hl _ => by omega, fun l hl => by omega⟩, fun s hs => ⟨?_, fun q => absurd (rc15 hs) q⟩, ⟨⟨?_, ?_, ?_⟩, ⟨2, by omega, ?_⟩, ⟨2, by omega, ?_⟩⟩, ⟨?_, ?_⟩, Or.inl ⟨?_, ?_, ?_⟩⟩
    · rw [y3, e100]; exact s67.symm
    · rw [y4, e100]; exact s68.symm
    · rw [rc15 hs]; exact (bm s (by omega) hs).symm
    · rw [y0, e100]; exact s66.symm
    · rw [y1, e100]; exact s69.symm
    · rw [y2, e100]; exact s70.symm
    · rw [e100, s66]; decide
    · rw [e100, s70]; decide
    · rw [rc40]; exact r6
    · rw [e100]; exact s72
    · rw [rc40]; exact r7
    · rw [rc40]; exact r8
    · rw [e100]; exact s71
  have rg : RM V (s_Mod_go V) := (RM.self b3).rw ((RW.self hb3).go)
  have lp : Lp B 0 (va_up (rcZ n Y) 40 (f_Reader_nextToken B (rcZ n Y 40))) (s_Mod_go V) := by
    refine ⟨(hy.fr (fun k hk => rck (by omega))).r, rg.1, Or.inl ⟨by rw [up_same]; exact kt.nx, pl.kg g2 c2, ?_⟩⟩
    rcases g4 with z | z
    · exact Or.inl z
    · right; omega
  obtain ⟨Q, U, i1, i2, i3, i4, i5⟩ := lp_all (x := x) (n := n) (m := n) 901 0 _ _ (by omega) lp (mu_lt g1)
  rw [i1]
  refine ⟨Q, U, rfl, i2, ⟨?_, ?_, ?_⟩, i3.1, i4, i5⟩
  · intro k hk
    rw [(rg.trans i3).2.1.1 k hk, bk k (by omega), fl k (by omega)]
  · intro i h1 h2 h3
    rw [(rg.trans i3).2.1.2 i h1 h3, e100, vso (by omega)]
  · rw [(rg.trans i3).2.1.2 32 (by omega) (by omega), e100]; exact s32
