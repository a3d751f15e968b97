/-! the reader over its plan (written by wip/whole/c_reader3.py) -/
theorem fail_f {x : Int32} {R : Nat → Int32} (hx : x ≠ 0) : f_Reader_fail x R 1 ≠ 0 := by
  rw [f_Reader_fail]
  split
  · exact hx
  · assumption
theorem fail_g {x : Int32} {R : Nat → Int32} (h : f_Reader_fail x R 1 = 0) (hx : x ≠ 0) : R 1 = 0 := absurd h (fail_f hx)
theorem tr_f (B : Nat → Int32) (lo hi : Int32) : ∀ (t : Nat) (R : Nat → Int32), f_Reader_takeRow_L B lo hi t R 1 = R 1 := by
  intro t
  induction t with
  | zero => intro R; rfl
  | succ t ih =>
    intro R
    rw [f_Reader_takeRow_L]
    repeat' split
    all_goals first | rfl | (rw [ih]; rfl)
theorem nx_f (B R : Nat → Int32) : f_Reader_nextToken B R 1 = R 1 := by
  have h8 : ∀ (t : Nat) (R : Nat → Int32), f_Reader_nextToken_8 B t R 1 = R 1 := by
    intro t
    induction t with
    | zero => intro R; rfl
    | succ t ih =>
      intro R
      rw [f_Reader_nextToken_8]
      repeat' split
      all_goals first | rfl | (rw [ih]; rfl)
  have h105 : ∀ (R : Nat → Int32) sg, f_Reader_nextToken_105 B R sg 1 = R 1 := by
    intro R sg
    have h2 : ∀ lo hi v, f_Reader_takeRow B lo hi (upd R 9 v) 1 = R 1 := fun lo hi v => by rw [f_Reader_takeRow, tr_f]; rfl
    rw [f_Reader_nextToken_105]
    repeat' split
    all_goals first | rfl | exact h2 _ _ _
  rw [f_Reader_nextToken]
  split
  · rw [f_Reader_nextToken_60, f_Reader_nextToken_68]
    split
    · rw [f_Reader_nextToken_85, h105]
      show f_Reader_nextToken_8 B 901 R 1 = R 1
      exact h8 _ _
    · show f_Reader_nextToken_8 B 901 R 1 = R 1
      exact h8 _ _
  · rfl
theorem rn_g {B : Nat → Int32} {lo hi : Int32} {R : Nat → Int32} (h : (f_Reader_readNumber B lo hi R).2 1 = 0) : R 1 = 0 := by
  rw [f_Reader_readNumber, f_Reader_readNumber_4] at h
  rw [← nx_f B R]
  generalize f_Reader_nextToken B R = R1 at h
  have h39 : ∀ (Y : Nat → Int32) nu, (f_Reader_readNumber_39 B lo hi Y nu).2 1 = 0 → Y 1 = 0 := by
    intro Y nu hy
    rw [f_Reader_readNumber_39] at hy
    split at hy <;> exact hy
  split at h
  · rw [f_Reader_readNumber_24] at h
    split at h
    · exact fail_g (h39 _ _ h) (by decide)
    · split at h
      · exact h39 _ _ h
      · exact fail_g (h39 _ _ h) (by decide)
  · exact fail_g h (by decide)
def rnN (B : Nat → Int32) (lo hi : Nat) (R : Nat → Int32) : Nat := ((f_Reader_readNumber B (nI lo) (nI hi) R).1).toNatClampNeg
theorem rn_nat {B : Nat → Int32} {lo hi : Nat} {R : Nat → Int32} (h : lo ≤ hi) (hh : hi < 2000) : (f_Reader_readNumber B (nI lo) (nI hi) R).1 = nI (rnN B lo hi R) ∧ lo ≤ rnN B lo hi R ∧ rnN B lo hi R ≤ hi := by
  have key : ∃ j, (f_Reader_readNumber B (nI lo) (nI hi) R).1 = nI j ∧ lo ≤ j ∧ j ≤ hi := by
    have h39 : ∀ (Y : Nat → Int32) nu, Y 1 ≠ 0 → (f_Reader_readNumber_39 B (nI lo) (nI hi) Y nu).1 = nI lo := by
      intro Y nu hy
      rw [f_Reader_readNumber_39, if_neg hy]
    rw [f_Reader_readNumber, f_Reader_readNumber_4]
    generalize f_Reader_nextToken B R = R1
    split
    · rw [f_Reader_readNumber_24]
      split
      · exact ⟨lo, h39 _ _ (fail_f (by decide)), Nat.le_refl _, h⟩
      · rename_i q1
        split
        · rename_i q2
          rw [f_Reader_readNumber_39]
          split
          · have a1 : (nI lo).toInt ≤ (f_Reader_numberOfToken B R1).toInt := i_le.mp (Int32.not_lt.mp q1)
            have a2 := i_le.mp q2
            rw [nI_toInt (by omega)] at a1 a2
            refine ⟨(f_Reader_numberOfToken B R1).toInt.toNat, ?_, by omega, by omega⟩
            apply Int32.toInt_inj.mp
            show (f_Reader_numberOfToken B R1).toInt = _
            rw [nI_toInt (by omega)]; omega
          · exact ⟨lo, rfl, Nat.le_refl _, h⟩
        · exact ⟨lo, h39 _ _ (fail_f (by decide)), Nat.le_refl _, h⟩
    · exact ⟨lo, rfl, Nat.le_refl _, h⟩
  obtain ⟨j, e, h1, h2⟩ := key
  have e2 : rnN B lo hi R = j := by unfold rnN; rw [e, nI_clamp (by omega)]
  rw [e2]
  exact ⟨e, h1, h2⟩
theorem ri_up {Z : Nat → Nat → Int32} {k : Nat} {R : Nat → Int32} (h : RI R) : RI (va_up Z k R k) := by rw [up_same]; exact h
theorem ri_u2 {Z : Nat → Nat → Int32} {a k i : Nat} {v : Int32} (h : RI (Z a)) (hne : a ≠ k) : RI (u2 Z k i v a) := by unfold u2; rw [up_ne hne rfl]; exact h
theorem ri_40 {Z : Nat → Nat → Int32} {i : Nat} {v : Int32} (h : RI (Z 40)) (h3 : 3 ≠ i) (h4 : 4 ≠ i) (h10 : 10 ≠ i) : RI (u2 Z 40 i v 40) := by unfold u2; rw [up_same]; exact h.put v h3 h4 h10
theorem zn01 {x : Int32} (h : x = 0 ∨ x = 1) : vp_nar .boolean x = x := by rcases h with rfl | rfl <;> decide
theorem q_rn {g : GG} {h : Hp} (hst : (gl g).stackTraces = false) {r y p : Nat} (hnd : [r].Nodup) {B : Nat → Int32} (hy : ∀ l : List (Nat × va_E), l.map Prod.fst = [r] → ov h l y = some (aB g 900 B)) (lo hi : Nat) (R : Nat → Int32) (hm : h r = some (.inr (7, [.int (R 0), .int (R 1), .ref y, .int (R 3), .int (R 4), .ref p, .int (R 6), .int (R 7), .int (R 8), .int (R 9), .int (R 10)]))) (hi0 : RI R) (h1 : lo ≤ hi) (h2 : hi < 2000) : PM g M_Reader_readNumber 2 0 0 [.ref r, .int (nI lo), .int (nI hi)] h (RetV (some (.int (nI (rnN B lo hi R)))) (ov h [(r, (fun R => (.inr (7, [.int (R 0), .int (R 1), .ref y, .int (R 3), .int (R 4), .ref p, .int (R 6), .int (R 7), .int (R 8), .int (R 9), .int (R 10)]) : va_E)) (f_Reader_readNumber B (nI lo) (nI hi) R).2)])) := by
  rw [← (rn_nat h1 h2).1]; exact q_Reader_readNumber hst hnd hy (nI lo) (nI hi) R hm hi0
/-- what the reader's methods stand on -/
def RdC (g : GG) (h : Hp) (r y p : Nat) (ad : Nat → Nat) (B : Nat → Int32) : Prop := (gK (rdL g r y p ad)).Nodup ∧ (∀ l : List (Nat × va_E), l.map Prod.fst = gK (rdL g r y p ad) → ov h l y = some (aB g 900 B)) ∧ y ∉ [r] ∧ (∀ l : List (Nat × va_E), l.map Prod.fst = gK (rdL g r y p ad) → ov h l (ad 26) = some (.inr (6, [.ref (ad 15), .ref (ad 16), .ref (ad 17)]))) ∧ ad 26 ∉ gK (ptL g ad) ∧ ad 26 ∉ gK (rdL g r y p ad)
theorem RdC.up {g : GG} {h : Hp} {r y p : Nat} {ad : Nat → Nat} {B : Nat → Int32} (H : RdC g h r y p ad B) {l0 : List (Nat × va_E)} (h0 : l0.map Prod.fst = gK (rdL g r y p ad)) : RdC g (ov h l0) r y p ad B := by
  obtain ⟨a, b, c, d, e, f⟩ := H
  exact ⟨a, fun l hl => by rw [ov_same a h0 hl]; exact b l hl, c, fun l hl => by rw [ov_same a h0 hl]; exact d l hl, e, f⟩
/-- where the reader stands, and how many blocks, links there are -/
def WR (Z : Nat → Nat → Int32) : Prop := (Z 30 3 = nI (pN Z 30 3) ∧ pN Z 30 3 < 11) ∧ (Z 31 0 = nI (pN Z 31 0) ∧ pN Z 31 0 < 13)
def IZ (Z : Nat → Nat → Int32) : Prop := RI (Z 40) ∧ WR Z
theorem wr_of {Z Y : Nat → Nat → Int32} (h : WR Z) (h1 : Y 30 3 = Z 30 3) (h2 : Y 31 0 = Z 31 0) : WR Y := by
  unfold WR pN at *
  rw [h1, h2]; exact h
theorem iz_up {Z : Nat → Nat → Int32} {R : Nat → Int32} (h : IZ Z) (hr : RI R) : IZ (va_up Z 40 R) := ⟨ri_up hr, wr_of h.2 rfl rfl⟩
theorem iz_u2 {Z : Nat → Nat → Int32} {k i : Nat} {v : Int32} (h : IZ Z) (h1 : 30 ≠ k) (h2 : 31 ≠ k) (h3 : 40 ≠ k) : IZ (u2 Z k i v) := ⟨ri_u2 h.1 h3, wr_of h.2 (by unfold u2; rw [up_ne h1 rfl]) (by unfold u2; rw [up_ne h2 rfl])⟩
theorem iz_30 {Z : Nat → Nat → Int32} {i : Nat} {v : Int32} (h : IZ Z) (hi : 3 ≠ i) : IZ (u2 Z 30 i v) := ⟨ri_u2 h.1 (by decide), wr_of h.2 (by unfold u2; rw [up_same]; simp [upd, hi]) rfl⟩
theorem iz_40 {Z : Nat → Nat → Int32} {i : Nat} {v : Int32} (h : IZ Z) (h3 : 3 ≠ i) (h4 : 4 ≠ i) (h10 : 10 ≠ i) : IZ (u2 Z 40 i v) := ⟨ri_40 h.1 h3 h4 h10, wr_of h.2 rfl rfl⟩
theorem u40 {Z : Nat → Nat → Int32} {R : Nat → Int32} (h : va_up Z 40 R 40 1 = 0) : R 1 = 0 := by rw [up_same] at h; exact h
theorem bk_up {Z : Nat → Nat → Int32} {R : Nat → Int32} {k i n : Nat} (hk : k ≠ 40) (h : Z 40 1 = 0 → pN Z k i < n) (hr : R 1 = 0 → Z 40 1 = 0) : va_up Z 40 R 40 1 = 0 → pN (va_up Z 40 R) k i < n := by
  intro q
  have := h (hr (u40 q))
  unfold pN at this ⊢
  rw [up_ne hk rfl]; exact this
theorem bk_fail {Z : Nat → Nat → Int32} {x : Int32} {P : Prop} (hx : x ≠ 0) : va_up Z 40 (f_Reader_fail x (Z 40)) 40 1 = 0 → P := fun q => absurd (u40 q) (fail_f hx)
theorem nx_g {B R : Nat → Int32} (h : f_Reader_nextToken B R 1 = 0) : R 1 = 0 := by rw [nx_f] at h; exact h
theorem rc_g {B : Nat → Int32} {i j : Nat} {R : Nat → Int32} (h : (f_Reader_readChoice B i j R).2 1 = 0) : R 1 = 0 := by
  rw [f_Reader_readChoice, f_Reader_readChoice_4, f_Reader_readChoice_10] at h
  rw [← nx_f B R]
  split at h
  · split at h
    · exact fail_g h (by decide)
    · exact h
  · exact h
def f_Reader_readDevices_12 (B : Nat → Int32) (Z : Nat → Nat → Int32) : (Nat → Nat → Int32) :=
  u2 (va_up Z 40 ((f_Reader_readNumber B (nI 1) (nI 5) (Z 40)).2)) 30 0 (nI (rnN B 1 5 (Z 40)))
set_option maxRecDepth 4000 in
theorem w_Reader_readDevices_12 {g : GG} {Q : QT} {h : Hp} {kc ks : Nat} (hst : (gl g).stackTraces = false) {r y p : Nat} {ad : Nat → Nat} {B : Nat → Int32} (hc : RdC g h r y p ad B)  (Z : Nat → Nat → Int32) (hi0 : IZ Z) (hk : Q (.inl none) (ov h (gO (rdL g r y p ad) (f_Reader_readDevices_12 B Z)))) : PW g M_Reader_readDevices 3 kc ks Q 12 [.ref (r)] [] (ov h (gO (rdL g r y p ad) Z)) := by
  have nds : [r].Nodup := List.pairwise_singleton _ r
  have hnd := hc.1
  have hy := hc.2.1
  have hry := hc.2.2.1
  have hpl := hc.2.2.2.1
  have hz0 := hi0.2.1.2
  have hz1 := hi0.2.2.2
  refine pw_aload_n e_Reader_readDevices_12 rfl ?_
  refine pw_getf e_Reader_readDevices_13 fl_Reader_31 (gO_get hnd (i := 0) rfl) rfl ?_
  refine pw_aload_n e_Reader_readDevices_16 rfl ?_
  refine pw_iconst (v := nI 1) e_Reader_readDevices_17 (by decide) ?_
  refine pw_iconst (v := nI 5) e_Reader_readDevices_18 (by decide) ?_
  have hb1 := (rn_nat (B := B) (lo := 1) (hi := 5) (R := (Z 40)) (by decide) (by decide)).2
  refine pw_detV (As := [.int (nI (1)), .int (nI (5))]) e_Reader_readDevices_19 li_Reader_104 rfl (gO_get hnd (i := 0) rfl) (q_rn hst nds (fun l hl => ov_ne hry (hy _ (gO_fst _ _)) hl) 1 5 (Z 40) (gO_get hnd (i := 0) rfl) hi0.1 (by decide) (by decide)) rfl (by decide) (Nat.le_of_ble_eq_true rfl) rfl ?_
  refine pw_oneG (i := 0) hnd (rd_x _ _ _ _ _) rfl rfl ?_
  refine pw_putG (i := 1) (ps := 0) (x := nI (rnN B 1 5 (Z 40))) e_Reader_readDevices_22 fp_Reader_107 hnd (rd_x _ _ _ _ _) rfl (Nat.le_of_ble_eq_true rfl) rfl rfl rfl ?_
  refine pw_vret e_Reader_readDevices_25 rfl ?_
  rw [f_Reader_readDevices_12] at hk
  exact hk
theorem z_Reader_readDevices_12 {B : Nat → Int32} {Z : Nat → Nat → Int32} (hi0 : IZ Z) : IZ (f_Reader_readDevices_12 B Z) := by
  have hz0 := hi0.2.1.2
  have hz1 := hi0.2.2.2
  rw [f_Reader_readDevices_12]
  have hb1 := (rn_nat (B := B) (lo := 1) (hi := 5) (R := (Z 40)) (by decide) (by decide)).2
  exact (iz_30 (iz_up hi0 (rn_RI hi0.1)) (by decide))
def f_Reader_readDevices (B : Nat → Int32) (Z : Nat → Nat → Int32) : (Nat → Nat → Int32) :=
  if (Z 40 6) ≤ 0 then f_Reader_readDevices_12 B Z else f_Reader_readDevices_12 B (va_up Z 40 (f_Reader_fail 4 (Z 40)))
set_option maxRecDepth 4000 in
theorem w_Reader_readDevices_0 {g : GG} {Q : QT} {h : Hp} {kc ks : Nat} (hst : (gl g).stackTraces = false) {r y p : Nat} {ad : Nat → Nat} {B : Nat → Int32} (hc : RdC g h r y p ad B)  (Z : Nat → Nat → Int32) (hi0 : IZ Z) (hk : Q (.inl none) (ov h (gO (rdL g r y p ad) (f_Reader_readDevices B Z)))) : PW g M_Reader_readDevices 3 kc ks Q 0 [.ref (r)] [] (ov h (gO (rdL g r y p ad) Z)) := by
  have nds : [r].Nodup := List.pairwise_singleton _ r
  have hnd := hc.1
  have hy := hc.2.1
  have hry := hc.2.2.1
  have hpl := hc.2.2.2.1
  have hz0 := hi0.2.1.2
  have hz1 := hi0.2.2.2
  refine pw_aload_n e_Reader_readDevices_0 rfl ?_
  refine pw_getf e_Reader_readDevices_1 fl_Reader_35 (gO_get hnd (i := 0) rfl) rfl ?_
  refine pw_if_le (tgt := 12) e_Reader_readDevices_4 (by decide) (fun (H1 : (Z 40 6) ≤ 0) => ?_) (fun (H1 : ¬ (Z 40 6) ≤ 0) => ?_)
  · refine w_Reader_readDevices_12 hst hc Z hi0 ?_
    rw [f_Reader_readDevices, if_pos H1] at hk
    exact hk
  · refine pw_aload_n e_Reader_readDevices_7 rfl ?_
    refine pw_iconst (v := nI 4) e_Reader_readDevices_8 (by decide) ?_
    refine pw_detV (As := [.int (nI (4))]) e_Reader_readDevices_9 li_Reader_100 rfl (gO_get hnd (i := 0) rfl) (q_Reader_fail hst nds 4 (Z 40) (gO_get hnd (i := 0) rfl)) rfl (by decide) (Nat.le_of_ble_eq_true rfl) rfl ?_
    refine pw_oneG (i := 0) hnd (rd_x _ _ _ _ _) rfl rfl ?_
    refine w_Reader_readDevices_12 hst hc (va_up Z 40 (f_Reader_fail 4 (Z 40))) (iz_up hi0 (fail_RI hi0.1)) ?_
    rw [f_Reader_readDevices, if_neg H1] at hk
    exact hk
theorem q_Reader_readDevices {g : GG} {h : Hp} (hst : (gl g).stackTraces = false) {r y p : Nat} {ad : Nat → Nat} {B : Nat → Int32} (hc : RdC g h r y p ad B)  (Z : Nat → Nat → Int32) (hm : ∀ q ∈ gO (rdL g r y p ad) Z, h q.1 = some q.2) (hi0 : IZ Z) : PM g M_Reader_readDevices 3 0 0 [.ref (r)] h (RetV none (ov h (gO (rdL g r y p ad) (f_Reader_readDevices B Z)))) := by
  refine PM.of hst (by decide) rfl (fun v hv => ?_) (Nat.le_of_ble_eq_true rfl) ?_
  · simp only [List.mem_cons, List.not_mem_nil, or_false] at hv; rcases hv with rfl <;> rfl
  · have hq := w_Reader_readDevices_0 (g := g) (Q := RetV none (ov h (gO (rdL g r y p ad) (f_Reader_readDevices B Z)))) (h := h) (kc := 0) (ks := 0) hst hc Z hi0 ?_
    · rw [ov_self hm] at hq; exact hq
    · exact ⟨rfl, rfl⟩
theorem z_Reader_readDevices {B : Nat → Int32} {Z : Nat → Nat → Int32} (hi0 : IZ Z) : IZ (f_Reader_readDevices B Z) := by
  have hz0 := hi0.2.1.2
  have hz1 := hi0.2.2.2
  rw [f_Reader_readDevices]
  by_cases H1 : (Z 40 6) ≤ 0
  · rw [if_pos H1]
    exact z_Reader_readDevices_12 hi0
  · rw [if_neg H1]
    exact z_Reader_readDevices_12 (iz_up hi0 (fail_RI hi0.1))

def f_Reader_readOld_17 (B : Nat → Int32) (Z : Nat → Nat → Int32) : (Nat → Nat → Int32) :=
  u2 (va_up Z 40 ((f_Reader_readNumber B (nI 1) (nI 9) (Z 40)).2)) 30 1 (nI (rnN B 1 9 (Z 40)))
set_option maxRecDepth 4000 in
theorem w_Reader_readOld_17 {g : GG} {Q : QT} {h : Hp} {kc ks : Nat} (hst : (gl g).stackTraces = false) {r y p : Nat} {ad : Nat → Nat} {B : Nat → Int32} (hc : RdC g h r y p ad B)  (Z : Nat → Nat → Int32) (hi0 : IZ Z) (hk : Q (.inl none) (ov h (gO (rdL g r y p ad) (f_Reader_readOld_17 B Z)))) : PW g M_Reader_readOld 3 kc ks Q 17 [.ref (r)] [] (ov h (gO (rdL g r y p ad) Z)) := by
  have nds : [r].Nodup := List.pairwise_singleton _ r
  have hnd := hc.1
  have hy := hc.2.1
  have hry := hc.2.2.1
  have hpl := hc.2.2.2.1
  have hz0 := hi0.2.1.2
  have hz1 := hi0.2.2.2
  refine pw_aload_n e_Reader_readOld_17 rfl ?_
  refine pw_getf e_Reader_readOld_18 fl_Reader_31 (gO_get hnd (i := 0) rfl) rfl ?_
  refine pw_aload_n e_Reader_readOld_21 rfl ?_
  refine pw_iconst (v := nI 1) e_Reader_readOld_22 (by decide) ?_
  refine pw_bipush (v := nI 9) e_Reader_readOld_23 (by decide) ?_
  have hb1 := (rn_nat (B := B) (lo := 1) (hi := 9) (R := (Z 40)) (by decide) (by decide)).2
  refine pw_detV (As := [.int (nI (1)), .int (nI (9))]) e_Reader_readOld_25 li_Reader_104 rfl (gO_get hnd (i := 0) rfl) (q_rn hst nds (fun l hl => ov_ne hry (hy _ (gO_fst _ _)) hl) 1 9 (Z 40) (gO_get hnd (i := 0) rfl) hi0.1 (by decide) (by decide)) rfl (by decide) (Nat.le_of_ble_eq_true rfl) rfl ?_
  refine pw_oneG (i := 0) hnd (rd_x _ _ _ _ _) rfl rfl ?_
  refine pw_putG (i := 1) (ps := 1) (x := nI (rnN B 1 9 (Z 40))) e_Reader_readOld_28 fp_Reader_109 hnd (rd_x _ _ _ _ _) rfl (Nat.le_of_ble_eq_true rfl) rfl rfl rfl ?_
  refine pw_vret e_Reader_readOld_31 rfl ?_
  rw [f_Reader_readOld_17] at hk
  exact hk
theorem z_Reader_readOld_17 {B : Nat → Int32} {Z : Nat → Nat → Int32} (hi0 : IZ Z) : IZ (f_Reader_readOld_17 B Z) := by
  have hz0 := hi0.2.1.2
  have hz1 := hi0.2.2.2
  rw [f_Reader_readOld_17]
  have hb1 := (rn_nat (B := B) (lo := 1) (hi := 9) (R := (Z 40)) (by decide) (by decide)).2
  exact (iz_30 (iz_up hi0 (rn_RI hi0.1)) (by decide))
def f_Reader_readOld_12 (B : Nat → Int32) (Z : Nat → Nat → Int32) : (Nat → Nat → Int32) :=
  f_Reader_readOld_17 B (u2 Z 40 7 1)
set_option maxRecDepth 4000 in
theorem w_Reader_readOld_12 {g : GG} {Q : QT} {h : Hp} {kc ks : Nat} (hst : (gl g).stackTraces = false) {r y p : Nat} {ad : Nat → Nat} {B : Nat → Int32} (hc : RdC g h r y p ad B)  (Z : Nat → Nat → Int32) (hi0 : IZ Z) (hk : Q (.inl none) (ov h (gO (rdL g r y p ad) (f_Reader_readOld_12 B Z)))) : PW g M_Reader_readOld 3 kc ks Q 12 [.ref (r)] [] (ov h (gO (rdL g r y p ad) Z)) := by
  have nds : [r].Nodup := List.pairwise_singleton _ r
  have hnd := hc.1
  have hy := hc.2.1
  have hry := hc.2.2.1
  have hpl := hc.2.2.2.1
  have hz0 := hi0.2.1.2
  have hz1 := hi0.2.2.2
  refine pw_aload_n e_Reader_readOld_12 rfl ?_
  refine pw_iconst (v := nI 1) e_Reader_readOld_13 (by decide) ?_
  refine pw_putG (i := 0) (ps := 7) (x := 1) e_Reader_readOld_14 fp_Reader_38 hnd (rd_x _ _ _ _ _) rfl (Nat.le_of_ble_eq_true rfl) (by decide) rfl rfl ?_
  refine w_Reader_readOld_17 hst hc (u2 Z 40 7 1) (iz_40 hi0 (by decide) (by decide) (by decide)) ?_
  rw [f_Reader_readOld_12] at hk
  exact hk
theorem z_Reader_readOld_12 {B : Nat → Int32} {Z : Nat → Nat → Int32} (hi0 : IZ Z) : IZ (f_Reader_readOld_12 B Z) := by
  have hz0 := hi0.2.1.2
  have hz1 := hi0.2.2.2
  rw [f_Reader_readOld_12]
  exact z_Reader_readOld_17 (iz_40 hi0 (by decide) (by decide) (by decide))
def f_Reader_readOld (B : Nat → Int32) (Z : Nat → Nat → Int32) : (Nat → Nat → Int32) :=
  if (Z 40 7) = 0 then f_Reader_readOld_12 B Z else f_Reader_readOld_12 B (va_up Z 40 (f_Reader_fail 4 (Z 40)))
set_option maxRecDepth 4000 in
theorem w_Reader_readOld_0 {g : GG} {Q : QT} {h : Hp} {kc ks : Nat} (hst : (gl g).stackTraces = false) {r y p : Nat} {ad : Nat → Nat} {B : Nat → Int32} (hc : RdC g h r y p ad B)  (Z : Nat → Nat → Int32) (hi0 : IZ Z) (hk : Q (.inl none) (ov h (gO (rdL g r y p ad) (f_Reader_readOld B Z)))) : PW g M_Reader_readOld 3 kc ks Q 0 [.ref (r)] [] (ov h (gO (rdL g r y p ad) Z)) := by
  have nds : [r].Nodup := List.pairwise_singleton _ r
  have hnd := hc.1
  have hy := hc.2.1
  have hry := hc.2.2.1
  have hpl := hc.2.2.2.1
  have hz0 := hi0.2.1.2
  have hz1 := hi0.2.2.2
  refine pw_aload_n e_Reader_readOld_0 rfl ?_
  refine pw_getf e_Reader_readOld_1 fl_Reader_38 (gO_get hnd (i := 0) rfl) rfl ?_
  refine pw_if_eq (tgt := 12) e_Reader_readOld_4 (by decide) (fun (H1 : (Z 40 7) = 0) => ?_) (fun (H1 : ¬ (Z 40 7) = 0) => ?_)
  · refine w_Reader_readOld_12 hst hc Z hi0 ?_
    rw [f_Reader_readOld, if_pos H1] at hk
    exact hk
  · refine pw_aload_n e_Reader_readOld_7 rfl ?_
    refine pw_iconst (v := nI 4) e_Reader_readOld_8 (by decide) ?_
    refine pw_detV (As := [.int (nI (4))]) e_Reader_readOld_9 li_Reader_100 rfl (gO_get hnd (i := 0) rfl) (q_Reader_fail hst nds 4 (Z 40) (gO_get hnd (i := 0) rfl)) rfl (by decide) (Nat.le_of_ble_eq_true rfl) rfl ?_
    refine pw_oneG (i := 0) hnd (rd_x _ _ _ _ _) rfl rfl ?_
    refine w_Reader_readOld_12 hst hc (va_up Z 40 (f_Reader_fail 4 (Z 40))) (iz_up hi0 (fail_RI hi0.1)) ?_
    rw [f_Reader_readOld, if_neg H1] at hk
    exact hk
theorem q_Reader_readOld {g : GG} {h : Hp} (hst : (gl g).stackTraces = false) {r y p : Nat} {ad : Nat → Nat} {B : Nat → Int32} (hc : RdC g h r y p ad B)  (Z : Nat → Nat → Int32) (hm : ∀ q ∈ gO (rdL g r y p ad) Z, h q.1 = some q.2) (hi0 : IZ Z) : PM g M_Reader_readOld 3 0 0 [.ref (r)] h (RetV none (ov h (gO (rdL g r y p ad) (f_Reader_readOld B Z)))) := by
  refine PM.of hst (by decide) rfl (fun v hv => ?_) (Nat.le_of_ble_eq_true rfl) ?_
  · simp only [List.mem_cons, List.not_mem_nil, or_false] at hv; rcases hv with rfl <;> rfl
  · have hq := w_Reader_readOld_0 (g := g) (Q := RetV none (ov h (gO (rdL g r y p ad) (f_Reader_readOld B Z)))) (h := h) (kc := 0) (ks := 0) hst hc Z hi0 ?_
    · rw [ov_self hm] at hq; exact hq
    · exact ⟨rfl, rfl⟩
theorem z_Reader_readOld {B : Nat → Int32} {Z : Nat → Nat → Int32} (hi0 : IZ Z) : IZ (f_Reader_readOld B Z) := by
  have hz0 := hi0.2.1.2
  have hz1 := hi0.2.2.2
  rw [f_Reader_readOld]
  by_cases H1 : (Z 40 7) = 0
  · rw [if_pos H1]
    exact z_Reader_readOld_12 hi0
  · rw [if_neg H1]
    exact z_Reader_readOld_12 (iz_up hi0 (fail_RI hi0.1))

def f_Reader_readOver_17 (B : Nat → Int32) (Z : Nat → Nat → Int32) : (Nat → Nat → Int32) :=
  u2 (va_up Z 40 ((f_Reader_readNumber B (nI 0) (nI 9) (Z 40)).2)) 30 2 (nI (rnN B 0 9 (Z 40)))
set_option maxRecDepth 4000 in
theorem w_Reader_readOver_17 {g : GG} {Q : QT} {h : Hp} {kc ks : Nat} (hst : (gl g).stackTraces = false) {r y p : Nat} {ad : Nat → Nat} {B : Nat → Int32} (hc : RdC g h r y p ad B)  (Z : Nat → Nat → Int32) (hi0 : IZ Z) (hk : Q (.inl none) (ov h (gO (rdL g r y p ad) (f_Reader_readOver_17 B Z)))) : PW g M_Reader_readOver 3 kc ks Q 17 [.ref (r)] [] (ov h (gO (rdL g r y p ad) Z)) := by
  have nds : [r].Nodup := List.pairwise_singleton _ r
  have hnd := hc.1
  have hy := hc.2.1
  have hry := hc.2.2.1
  have hpl := hc.2.2.2.1
  have hz0 := hi0.2.1.2
  have hz1 := hi0.2.2.2
  refine pw_aload_n e_Reader_readOver_17 rfl ?_
  refine pw_getf e_Reader_readOver_18 fl_Reader_31 (gO_get hnd (i := 0) rfl) rfl ?_
  refine pw_aload_n e_Reader_readOver_21 rfl ?_
  refine pw_iconst (v := nI 0) e_Reader_readOver_22 (by decide) ?_
  refine pw_bipush (v := nI 9) e_Reader_readOver_23 (by decide) ?_
  have hb1 := (rn_nat (B := B) (lo := 0) (hi := 9) (R := (Z 40)) (by decide) (by decide)).2
  refine pw_detV (As := [.int (nI (0)), .int (nI (9))]) e_Reader_readOver_25 li_Reader_104 rfl (gO_get hnd (i := 0) rfl) (q_rn hst nds (fun l hl => ov_ne hry (hy _ (gO_fst _ _)) hl) 0 9 (Z 40) (gO_get hnd (i := 0) rfl) hi0.1 (by decide) (by decide)) rfl (by decide) (Nat.le_of_ble_eq_true rfl) rfl ?_
  refine pw_oneG (i := 0) hnd (rd_x _ _ _ _ _) rfl rfl ?_
  refine pw_putG (i := 1) (ps := 2) (x := nI (rnN B 0 9 (Z 40))) e_Reader_readOver_28 fp_Reader_111 hnd (rd_x _ _ _ _ _) rfl (Nat.le_of_ble_eq_true rfl) rfl rfl rfl ?_
  refine pw_vret e_Reader_readOver_31 rfl ?_
  rw [f_Reader_readOver_17] at hk
  exact hk
theorem z_Reader_readOver_17 {B : Nat → Int32} {Z : Nat → Nat → Int32} (hi0 : IZ Z) : IZ (f_Reader_readOver_17 B Z) := by
  have hz0 := hi0.2.1.2
  have hz1 := hi0.2.2.2
  rw [f_Reader_readOver_17]
  have hb1 := (rn_nat (B := B) (lo := 0) (hi := 9) (R := (Z 40)) (by decide) (by decide)).2
  exact (iz_30 (iz_up hi0 (rn_RI hi0.1)) (by decide))
def f_Reader_readOver_12 (B : Nat → Int32) (Z : Nat → Nat → Int32) : (Nat → Nat → Int32) :=
  f_Reader_readOver_17 B (u2 Z 40 8 1)
set_option maxRecDepth 4000 in
theorem w_Reader_readOver_12 {g : GG} {Q : QT} {h : Hp} {kc ks : Nat} (hst : (gl g).stackTraces = false) {r y p : Nat} {ad : Nat → Nat} {B : Nat → Int32} (hc : RdC g h r y p ad B)  (Z : Nat → Nat → Int32) (hi0 : IZ Z) (hk : Q (.inl none) (ov h (gO (rdL g r y p ad) (f_Reader_readOver_12 B Z)))) : PW g M_Reader_readOver 3 kc ks Q 12 [.ref (r)] [] (ov h (gO (rdL g r y p ad) Z)) := by
  have nds : [r].Nodup := List.pairwise_singleton _ r
  have hnd := hc.1
  have hy := hc.2.1
  have hry := hc.2.2.1
  have hpl := hc.2.2.2.1
  have hz0 := hi0.2.1.2
  have hz1 := hi0.2.2.2
  refine pw_aload_n e_Reader_readOver_12 rfl ?_
  refine pw_iconst (v := nI 1) e_Reader_readOver_13 (by decide) ?_
  refine pw_putG (i := 0) (ps := 8) (x := 1) e_Reader_readOver_14 fp_Reader_42 hnd (rd_x _ _ _ _ _) rfl (Nat.le_of_ble_eq_true rfl) (by decide) rfl rfl ?_
  refine w_Reader_readOver_17 hst hc (u2 Z 40 8 1) (iz_40 hi0 (by decide) (by decide) (by decide)) ?_
  rw [f_Reader_readOver_12] at hk
  exact hk
theorem z_Reader_readOver_12 {B : Nat → Int32} {Z : Nat → Nat → Int32} (hi0 : IZ Z) : IZ (f_Reader_readOver_12 B Z) := by
  have hz0 := hi0.2.1.2
  have hz1 := hi0.2.2.2
  rw [f_Reader_readOver_12]
  exact z_Reader_readOver_17 (iz_40 hi0 (by decide) (by decide) (by decide))
def f_Reader_readOver (B : Nat → Int32) (Z : Nat → Nat → Int32) : (Nat → Nat → Int32) :=
  if (Z 40 8) = 0 then f_Reader_readOver_12 B Z else f_Reader_readOver_12 B (va_up Z 40 (f_Reader_fail 4 (Z 40)))
set_option maxRecDepth 4000 in
theorem w_Reader_readOver_0 {g : GG} {Q : QT} {h : Hp} {kc ks : Nat} (hst : (gl g).stackTraces = false) {r y p : Nat} {ad : Nat → Nat} {B : Nat → Int32} (hc : RdC g h r y p ad B)  (Z : Nat → Nat → Int32) (hi0 : IZ Z) (hk : Q (.inl none) (ov h (gO (rdL g r y p ad) (f_Reader_readOver B Z)))) : PW g M_Reader_readOver 3 kc ks Q 0 [.ref (r)] [] (ov h (gO (rdL g r y p ad) Z)) := by
  have nds : [r].Nodup := List.pairwise_singleton _ r
  have hnd := hc.1
  have hy := hc.2.1
  have hry := hc.2.2.1
  have hpl := hc.2.2.2.1
  have hz0 := hi0.2.1.2
  have hz1 := hi0.2.2.2
  refine pw_aload_n e_Reader_readOver_0 rfl ?_
  refine pw_getf e_Reader_readOver_1 fl_Reader_42 (gO_get hnd (i := 0) rfl) rfl ?_
  refine pw_if_eq (tgt := 12) e_Reader_readOver_4 (by decide) (fun (H1 : (Z 40 8) = 0) => ?_) (fun (H1 : ¬ (Z 40 8) = 0) => ?_)
  · refine w_Reader_readOver_12 hst hc Z hi0 ?_
    rw [f_Reader_readOver, if_pos H1] at hk
    exact hk
  · refine pw_aload_n e_Reader_readOver_7 rfl ?_
    refine pw_iconst (v := nI 4) e_Reader_readOver_8 (by decide) ?_
    refine pw_detV (As := [.int (nI (4))]) e_Reader_readOver_9 li_Reader_100 rfl (gO_get hnd (i := 0) rfl) (q_Reader_fail hst nds 4 (Z 40) (gO_get hnd (i := 0) rfl)) rfl (by decide) (Nat.le_of_ble_eq_true rfl) rfl ?_
    refine pw_oneG (i := 0) hnd (rd_x _ _ _ _ _) rfl rfl ?_
    refine w_Reader_readOver_12 hst hc (va_up Z 40 (f_Reader_fail 4 (Z 40))) (iz_up hi0 (fail_RI hi0.1)) ?_
    rw [f_Reader_readOver, if_neg H1] at hk
    exact hk
theorem q_Reader_readOver {g : GG} {h : Hp} (hst : (gl g).stackTraces = false) {r y p : Nat} {ad : Nat → Nat} {B : Nat → Int32} (hc : RdC g h r y p ad B)  (Z : Nat → Nat → Int32) (hm : ∀ q ∈ gO (rdL g r y p ad) Z, h q.1 = some q.2) (hi0 : IZ Z) : PM g M_Reader_readOver 3 0 0 [.ref (r)] h (RetV none (ov h (gO (rdL g r y p ad) (f_Reader_readOver B Z)))) := by
  refine PM.of hst (by decide) rfl (fun v hv => ?_) (Nat.le_of_ble_eq_true rfl) ?_
  · simp only [List.mem_cons, List.not_mem_nil, or_false] at hv; rcases hv with rfl <;> rfl
  · have hq := w_Reader_readOver_0 (g := g) (Q := RetV none (ov h (gO (rdL g r y p ad) (f_Reader_readOver B Z)))) (h := h) (kc := 0) (ks := 0) hst hc Z hi0 ?_
    · rw [ov_self hm] at hq; exact hq
    · exact ⟨rfl, rfl⟩
theorem z_Reader_readOver {B : Nat → Int32} {Z : Nat → Nat → Int32} (hi0 : IZ Z) : IZ (f_Reader_readOver B Z) := by
  have hz0 := hi0.2.1.2
  have hz1 := hi0.2.2.2
  rw [f_Reader_readOver]
  by_cases H1 : (Z 40 8) = 0
  · rw [if_pos H1]
    exact z_Reader_readOver_12 hi0
  · rw [if_neg H1]
    exact z_Reader_readOver_12 (iz_up hi0 (fail_RI hi0.1))

def f_Reader_readPlant_53 (B : Nat → Int32) (Z : Nat → Nat → Int32) (sn : Nat) (ac : Nat) (gn : Nat) (la : Nat) : (Nat → Nat → Int32) :=
  if (Z 40 1) = 0 then u2 (u2 (u2 Z 15 sn (nI (ac))) 16 sn (nI (gn))) 17 sn (nI (la)) else Z
set_option maxRecDepth 4000 in
theorem w_Reader_readPlant_53 {g : GG} {Q : QT} {h : Hp} {kc ks : Nat} (hst : (gl g).stackTraces = false) {r y p : Nat} {ad : Nat → Nat} {B : Nat → Int32} (hc : RdC g h r y p ad B)  (Z : Nat → Nat → Int32) (sn : Nat) (ac : Nat) (gn : Nat) (la : Nat) (hi0 : IZ Z) (hs4 : sn < 4) (hk : Q (.inl none) (ov h (gO (rdL g r y p ad) (f_Reader_readPlant_53 B Z sn ac gn la)))) : PW g M_Reader_readPlant 3 kc ks Q 53 [.ref (r), .int (nI (sn)), .int (nI (ac)), .int (nI (gn)), .int (nI (la))] [] (ov h (gO (rdL g r y p ad) Z)) := by
  have nds : [r].Nodup := List.pairwise_singleton _ r
  have hnd := hc.1
  have hy := hc.2.1
  have hry := hc.2.2.1
  have hpl := hc.2.2.2.1
  have hz0 := hi0.2.1.2
  have hz1 := hi0.2.2.2
  refine pw_aload_n e_Reader_readPlant_53 rfl ?_
  refine pw_getf e_Reader_readPlant_54 fl_Reader_15 (gO_get hnd (i := 0) rfl) rfl ?_
  refine pw_if_ne (tgt := 100) e_Reader_readPlant_57 (by decide) (fun (H1 : ¬ (Z 40 1) = 0) => ?_) (fun (H1 : (Z 40 1) = 0) => ?_)
  · refine pw_vret e_Reader_readPlant_100 rfl ?_
    rw [f_Reader_readPlant_53, if_neg H1] at hk
    exact hk
  · refine pw_aload_n e_Reader_readPlant_60 rfl ?_
    refine pw_getf e_Reader_readPlant_61 fl_Reader_31 (gO_get hnd (i := 0) rfl) rfl ?_
    refine pw_getf e_Reader_readPlant_64 fl_Reader_113 (gO_get hnd (i := 1) rfl) rfl ?_
    refine pw_getf e_Reader_readPlant_67 fl_Reader_117 (hpl _ (gO_fst _ _)) rfl ?_
    refine pw_iload_n e_Reader_readPlant_70 rfl ?_
    refine pw_iload_n e_Reader_readPlant_71 rfl ?_
    refine pw_iastG (i := 18) e_Reader_readPlant_72 hnd (rd_x _ _ _ _ _) rfl (by omega) (by decide) ?_
    refine pw_aload_n e_Reader_readPlant_73 rfl ?_
    refine pw_getf e_Reader_readPlant_74 fl_Reader_31 (gO_get hnd (i := 0) rfl) rfl ?_
    refine pw_getf e_Reader_readPlant_77 fl_Reader_113 (gO_get hnd (i := 1) rfl) rfl ?_
    refine pw_getf e_Reader_readPlant_80 fl_Reader_123 (hpl _ (gO_fst _ _)) rfl ?_
    refine pw_iload_n e_Reader_readPlant_83 rfl ?_
    refine pw_iload_n e_Reader_readPlant_84 rfl ?_
    refine pw_iastG (i := 19) e_Reader_readPlant_85 hnd (rd_x _ _ _ _ _) rfl (by omega) (by decide) ?_
    refine pw_aload_n e_Reader_readPlant_86 rfl ?_
    refine pw_getf e_Reader_readPlant_87 fl_Reader_31 (gO_get hnd (i := 0) rfl) rfl ?_
    refine pw_getf e_Reader_readPlant_90 fl_Reader_113 (gO_get hnd (i := 1) rfl) rfl ?_
    refine pw_getf e_Reader_readPlant_93 fl_Reader_126 (hpl _ (gO_fst _ _)) rfl ?_
    refine pw_iload_n e_Reader_readPlant_96 rfl ?_
    refine pw_iload e_Reader_readPlant_97 rfl ?_
    refine pw_iastG (i := 20) e_Reader_readPlant_99 hnd (rd_x _ _ _ _ _) rfl (by omega) (by decide) ?_
    refine pw_vret e_Reader_readPlant_100 rfl ?_
    rw [f_Reader_readPlant_53, if_pos H1] at hk
    exact hk
theorem z_Reader_readPlant_53 {B : Nat → Int32} {Z : Nat → Nat → Int32} {sn : Nat} {ac : Nat} {gn : Nat} {la : Nat} (hi0 : IZ Z) (hs4 : sn < 4) : IZ (f_Reader_readPlant_53 B Z sn ac gn la) := by
  have hz0 := hi0.2.1.2
  have hz1 := hi0.2.2.2
  rw [f_Reader_readPlant_53]
  by_cases H1 : (Z 40 1) = 0
  · rw [if_pos H1]
    exact (iz_u2 (iz_u2 (iz_u2 hi0 (by decide) (by decide) (by decide)) (by decide) (by decide) (by decide)) (by decide) (by decide) (by decide))
  · rw [if_neg H1]
    exact hi0
def f_Reader_readPlant_44 (B : Nat → Int32) (Z : Nat → Nat → Int32) (sn : Nat) (ac : Nat) (gn : Nat) : (Nat → Nat → Int32) :=
  f_Reader_readPlant_53 B (va_up Z 40 ((f_Reader_readNumber B (nI 1) (nI 50) (Z 40)).2)) sn ac gn (rnN B 1 50 (Z 40))
set_option maxRecDepth 4000 in
theorem w_Reader_readPlant_44 {g : GG} {Q : QT} {h : Hp} {kc ks : Nat} (hst : (gl g).stackTraces = false) {r y p : Nat} {ad : Nat → Nat} {B : Nat → Int32} (hc : RdC g h r y p ad B)  (Z : Nat → Nat → Int32) (sn : Nat) (ac : Nat) (gn : Nat) (hi0 : IZ Z) (hs4 : sn < 4) (hk : Q (.inl none) (ov h (gO (rdL g r y p ad) (f_Reader_readPlant_44 B Z sn ac gn)))) : PW g M_Reader_readPlant 3 kc ks Q 44 [.ref (r), .int (nI (sn)), .int (nI (ac)), .int (nI (gn)), .retAddr 0] [] (ov h (gO (rdL g r y p ad) Z)) := by
  have nds : [r].Nodup := List.pairwise_singleton _ r
  have hnd := hc.1
  have hy := hc.2.1
  have hry := hc.2.2.1
  have hpl := hc.2.2.2.1
  have hz0 := hi0.2.1.2
  have hz1 := hi0.2.2.2
  refine pw_aload_n e_Reader_readPlant_44 rfl ?_
  refine pw_iconst (v := nI 1) e_Reader_readPlant_45 (by decide) ?_
  refine pw_bipush (v := nI 50) e_Reader_readPlant_46 (by decide) ?_
  have hb1 := (rn_nat (B := B) (lo := 1) (hi := 50) (R := (Z 40)) (by decide) (by decide)).2
  refine pw_detV (As := [.int (nI (1)), .int (nI (50))]) e_Reader_readPlant_48 li_Reader_104 rfl (gO_get hnd (i := 0) rfl) (q_rn hst nds (fun l hl => ov_ne hry (hy _ (gO_fst _ _)) hl) 1 50 (Z 40) (gO_get hnd (i := 0) rfl) hi0.1 (by decide) (by decide)) rfl (by decide) (Nat.le_of_ble_eq_true rfl) rfl ?_
  refine pw_oneG (i := 0) hnd (rd_x _ _ _ _ _) rfl rfl ?_
  refine pw_istore (ls2 := [_, _, _, _, _]) e_Reader_readPlant_51 (by decide) rfl ?_
  refine w_Reader_readPlant_53 hst hc (va_up Z 40 ((f_Reader_readNumber B (nI 1) (nI 50) (Z 40)).2)) sn ac gn (rnN B 1 50 (Z 40)) (iz_up hi0 (rn_RI hi0.1)) (by omega) ?_
  rw [f_Reader_readPlant_44] at hk
  exact hk
theorem z_Reader_readPlant_44 {B : Nat → Int32} {Z : Nat → Nat → Int32} {sn : Nat} {ac : Nat} {gn : Nat} (hi0 : IZ Z) (hs4 : sn < 4) : IZ (f_Reader_readPlant_44 B Z sn ac gn) := by
  have hz0 := hi0.2.1.2
  have hz1 := hi0.2.2.2
  rw [f_Reader_readPlant_44]
  have hb1 := (rn_nat (B := B) (lo := 1) (hi := 50) (R := (Z 40)) (by decide) (by decide)).2
  exact z_Reader_readPlant_53 (iz_up hi0 (rn_RI hi0.1)) (by omega)
def f_Reader_readPlant_35 (B : Nat → Int32) (Z : Nat → Nat → Int32) (sn : Nat) (ac : Nat) : (Nat → Nat → Int32) :=
  f_Reader_readPlant_44 B (va_up Z 40 ((f_Reader_readNumber B (nI 0) (nI 300) (Z 40)).2)) sn ac (rnN B 0 300 (Z 40))
set_option maxRecDepth 4000 in
theorem w_Reader_readPlant_35 {g : GG} {Q : QT} {h : Hp} {kc ks : Nat} (hst : (gl g).stackTraces = false) {r y p : Nat} {ad : Nat → Nat} {B : Nat → Int32} (hc : RdC g h r y p ad B)  (Z : Nat → Nat → Int32) (sn : Nat) (ac : Nat) (hi0 : IZ Z) (hs4 : sn < 4) (hk : Q (.inl none) (ov h (gO (rdL g r y p ad) (f_Reader_readPlant_35 B Z sn ac)))) : PW g M_Reader_readPlant 3 kc ks Q 35 [.ref (r), .int (nI (sn)), .int (nI (ac)), .retAddr 0, .retAddr 0] [] (ov h (gO (rdL g r y p ad) Z)) := by
  have nds : [r].Nodup := List.pairwise_singleton _ r
  have hnd := hc.1
  have hy := hc.2.1
  have hry := hc.2.2.1
  have hpl := hc.2.2.2.1
  have hz0 := hi0.2.1.2
  have hz1 := hi0.2.2.2
  refine pw_aload_n e_Reader_readPlant_35 rfl ?_
  refine pw_iconst (v := nI 0) e_Reader_readPlant_36 (by decide) ?_
  refine pw_sipush (v := nI 300) e_Reader_readPlant_37 (by decide) ?_
  have hb1 := (rn_nat (B := B) (lo := 0) (hi := 300) (R := (Z 40)) (by decide) (by decide)).2
  refine pw_detV (As := [.int (nI (0)), .int (nI (300))]) e_Reader_readPlant_40 li_Reader_104 rfl (gO_get hnd (i := 0) rfl) (q_rn hst nds (fun l hl => ov_ne hry (hy _ (gO_fst _ _)) hl) 0 300 (Z 40) (gO_get hnd (i := 0) rfl) hi0.1 (by decide) (by decide)) rfl (by decide) (Nat.le_of_ble_eq_true rfl) rfl ?_
  refine pw_oneG (i := 0) hnd (rd_x _ _ _ _ _) rfl rfl ?_
  refine pw_istore_n (ls2 := [_, _, _, _, _]) e_Reader_readPlant_43 (by decide) rfl ?_
  refine w_Reader_readPlant_44 hst hc (va_up Z 40 ((f_Reader_readNumber B (nI 0) (nI 300) (Z 40)).2)) sn ac (rnN B 0 300 (Z 40)) (iz_up hi0 (rn_RI hi0.1)) (by omega) ?_
  rw [f_Reader_readPlant_35] at hk
  exact hk
theorem z_Reader_readPlant_35 {B : Nat → Int32} {Z : Nat → Nat → Int32} {sn : Nat} {ac : Nat} (hi0 : IZ Z) (hs4 : sn < 4) : IZ (f_Reader_readPlant_35 B Z sn ac) := by
  have hz0 := hi0.2.1.2
  have hz1 := hi0.2.2.2
  rw [f_Reader_readPlant_35]
  have hb1 := (rn_nat (B := B) (lo := 0) (hi := 300) (R := (Z 40)) (by decide) (by decide)).2
  exact z_Reader_readPlant_44 (iz_up hi0 (rn_RI hi0.1)) (by omega)
def f_Reader_readPlant_28 (B : Nat → Int32) (Z : Nat → Nat → Int32) (sn : Nat) : (Nat → Nat → Int32) :=
  f_Reader_readPlant_35 B (va_up Z 40 ((f_Reader_readNumber B (nI 0) (nI 3) (Z 40)).2)) sn (rnN B 0 3 (Z 40))
set_option maxRecDepth 4000 in
theorem w_Reader_readPlant_28 {g : GG} {Q : QT} {h : Hp} {kc ks : Nat} (hst : (gl g).stackTraces = false) {r y p : Nat} {ad : Nat → Nat} {B : Nat → Int32} (hc : RdC g h r y p ad B)  (Z : Nat → Nat → Int32) (sn : Nat) (hi0 : IZ Z) (hs4 : sn < 4) (hk : Q (.inl none) (ov h (gO (rdL g r y p ad) (f_Reader_readPlant_28 B Z sn)))) : PW g M_Reader_readPlant 3 kc ks Q 28 [.ref (r), .int (nI (sn)), .retAddr 0, .retAddr 0, .retAddr 0] [] (ov h (gO (rdL g r y p ad) Z)) := by
  have nds : [r].Nodup := List.pairwise_singleton _ r
  have hnd := hc.1
  have hy := hc.2.1
  have hry := hc.2.2.1
  have hpl := hc.2.2.2.1
  have hz0 := hi0.2.1.2
  have hz1 := hi0.2.2.2
  refine pw_aload_n e_Reader_readPlant_28 rfl ?_
  refine pw_iconst (v := nI 0) e_Reader_readPlant_29 (by decide) ?_
  refine pw_iconst (v := nI 3) e_Reader_readPlant_30 (by decide) ?_
  have hb1 := (rn_nat (B := B) (lo := 0) (hi := 3) (R := (Z 40)) (by decide) (by decide)).2
  refine pw_detV (As := [.int (nI (0)), .int (nI (3))]) e_Reader_readPlant_31 li_Reader_104 rfl (gO_get hnd (i := 0) rfl) (q_rn hst nds (fun l hl => ov_ne hry (hy _ (gO_fst _ _)) hl) 0 3 (Z 40) (gO_get hnd (i := 0) rfl) hi0.1 (by decide) (by decide)) rfl (by decide) (Nat.le_of_ble_eq_true rfl) rfl ?_
  refine pw_oneG (i := 0) hnd (rd_x _ _ _ _ _) rfl rfl ?_
  refine pw_istore_n (ls2 := [_, _, _, _, _]) e_Reader_readPlant_34 (by decide) rfl ?_
  refine w_Reader_readPlant_35 hst hc (va_up Z 40 ((f_Reader_readNumber B (nI 0) (nI 3) (Z 40)).2)) sn (rnN B 0 3 (Z 40)) (iz_up hi0 (rn_RI hi0.1)) (by omega) ?_
  rw [f_Reader_readPlant_28] at hk
  exact hk
theorem z_Reader_readPlant_28 {B : Nat → Int32} {Z : Nat → Nat → Int32} {sn : Nat} (hi0 : IZ Z) (hs4 : sn < 4) : IZ (f_Reader_readPlant_28 B Z sn) := by
  have hz0 := hi0.2.1.2
  have hz1 := hi0.2.2.2
  rw [f_Reader_readPlant_28]
  have hb1 := (rn_nat (B := B) (lo := 0) (hi := 3) (R := (Z 40)) (by decide) (by decide)).2
  exact z_Reader_readPlant_35 (iz_up hi0 (rn_RI hi0.1)) (by omega)
def f_Reader_readPlant_7 (B : Nat → Int32) (Z : Nat → Nat → Int32) (sn : Nat) : (Nat → Nat → Int32) :=
  if ((Z 15) sn) = ((-1)) then f_Reader_readPlant_28 B Z sn else f_Reader_readPlant_28 B (va_up Z 40 (f_Reader_fail 4 (Z 40))) sn
set_option maxRecDepth 4000 in
theorem w_Reader_readPlant_7 {g : GG} {Q : QT} {h : Hp} {kc ks : Nat} (hst : (gl g).stackTraces = false) {r y p : Nat} {ad : Nat → Nat} {B : Nat → Int32} (hc : RdC g h r y p ad B)  (Z : Nat → Nat → Int32) (sn : Nat) (hi0 : IZ Z) (hs4 : sn < 4) (hk : Q (.inl none) (ov h (gO (rdL g r y p ad) (f_Reader_readPlant_7 B Z sn)))) : PW g M_Reader_readPlant 3 kc ks Q 7 [.ref (r), .int (nI (sn)), .retAddr 0, .retAddr 0, .retAddr 0] [] (ov h (gO (rdL g r y p ad) Z)) := by
  have nds : [r].Nodup := List.pairwise_singleton _ r
  have hnd := hc.1
  have hy := hc.2.1
  have hry := hc.2.2.1
  have hpl := hc.2.2.2.1
  have hz0 := hi0.2.1.2
  have hz1 := hi0.2.2.2
  refine pw_aload_n e_Reader_readPlant_7 rfl ?_
  refine pw_getf e_Reader_readPlant_8 fl_Reader_31 (gO_get hnd (i := 0) rfl) rfl ?_
  refine pw_getf e_Reader_readPlant_11 fl_Reader_113 (gO_get hnd (i := 1) rfl) rfl ?_
  refine pw_getf e_Reader_readPlant_14 fl_Reader_117 (hpl _ (gO_fst _ _)) rfl ?_
  refine pw_iload_n e_Reader_readPlant_17 rfl ?_
  refine pw_ialdN e_Reader_readPlant_18 (gO_get hnd (i := 18) rfl) (by omega) (by decide) ?_
  refine pw_iconst (v := (-1)) e_Reader_readPlant_19 (by decide) ?_
  refine pw_icmp_eq (tgt := 28) e_Reader_readPlant_20 (by decide) (fun (H1 : ((Z 15) sn) = ((-1))) => ?_) (fun (H1 : ¬ ((Z 15) sn) = ((-1))) => ?_)
  · refine w_Reader_readPlant_28 hst hc Z sn hi0 (by omega) ?_
    rw [f_Reader_readPlant_7, if_pos H1] at hk
    exact hk
  · refine pw_aload_n e_Reader_readPlant_23 rfl ?_
    refine pw_iconst (v := nI 4) e_Reader_readPlant_24 (by decide) ?_
    refine pw_detV (As := [.int (nI (4))]) e_Reader_readPlant_25 li_Reader_100 rfl (gO_get hnd (i := 0) rfl) (q_Reader_fail hst nds 4 (Z 40) (gO_get hnd (i := 0) rfl)) rfl (by decide) (Nat.le_of_ble_eq_true rfl) rfl ?_
    refine pw_oneG (i := 0) hnd (rd_x _ _ _ _ _) rfl rfl ?_
    refine w_Reader_readPlant_28 hst hc (va_up Z 40 (f_Reader_fail 4 (Z 40))) sn (iz_up hi0 (fail_RI hi0.1)) (by omega) ?_
    rw [f_Reader_readPlant_7, if_neg H1] at hk
    exact hk
theorem z_Reader_readPlant_7 {B : Nat → Int32} {Z : Nat → Nat → Int32} {sn : Nat} (hi0 : IZ Z) (hs4 : sn < 4) : IZ (f_Reader_readPlant_7 B Z sn) := by
  have hz0 := hi0.2.1.2
  have hz1 := hi0.2.2.2
  rw [f_Reader_readPlant_7]
  by_cases H1 : ((Z 15) sn) = ((-1))
  · rw [if_pos H1]
    exact z_Reader_readPlant_28 hi0 (by omega)
  · rw [if_neg H1]
    exact z_Reader_readPlant_28 (iz_up hi0 (fail_RI hi0.1)) (by omega)
def f_Reader_readPlant (B : Nat → Int32) (Z : Nat → Nat → Int32) : (Nat → Nat → Int32) :=
  f_Reader_readPlant_7 B (va_up Z 40 ((f_Reader_readNumber B (nI 0) (nI 3) (Z 40)).2)) (rnN B 0 3 (Z 40))
set_option maxRecDepth 4000 in
theorem w_Reader_readPlant_0 {g : GG} {Q : QT} {h : Hp} {kc ks : Nat} (hst : (gl g).stackTraces = false) {r y p : Nat} {ad : Nat → Nat} {B : Nat → Int32} (hc : RdC g h r y p ad B)  (Z : Nat → Nat → Int32) (hi0 : IZ Z) (hk : Q (.inl none) (ov h (gO (rdL g r y p ad) (f_Reader_readPlant B Z)))) : PW g M_Reader_readPlant 3 kc ks Q 0 [.ref (r), .retAddr 0, .retAddr 0, .retAddr 0, .retAddr 0] [] (ov h (gO (rdL g r y p ad) Z)) := by
  have nds : [r].Nodup := List.pairwise_singleton _ r
  have hnd := hc.1
  have hy := hc.2.1
  have hry := hc.2.2.1
  have hpl := hc.2.2.2.1
  have hz0 := hi0.2.1.2
  have hz1 := hi0.2.2.2
  refine pw_aload_n e_Reader_readPlant_0 rfl ?_
  refine pw_iconst (v := nI 0) e_Reader_readPlant_1 (by decide) ?_
  refine pw_iconst (v := nI 3) e_Reader_readPlant_2 (by decide) ?_
  have hb1 := (rn_nat (B := B) (lo := 0) (hi := 3) (R := (Z 40)) (by decide) (by decide)).2
  refine pw_detV (As := [.int (nI (0)), .int (nI (3))]) e_Reader_readPlant_3 li_Reader_104 rfl (gO_get hnd (i := 0) rfl) (q_rn hst nds (fun l hl => ov_ne hry (hy _ (gO_fst _ _)) hl) 0 3 (Z 40) (gO_get hnd (i := 0) rfl) hi0.1 (by decide) (by decide)) rfl (by decide) (Nat.le_of_ble_eq_true rfl) rfl ?_
  refine pw_oneG (i := 0) hnd (rd_x _ _ _ _ _) rfl rfl ?_
  refine pw_istore_n (ls2 := [_, _, _, _, _]) e_Reader_readPlant_6 (by decide) rfl ?_
  refine w_Reader_readPlant_7 hst hc (va_up Z 40 ((f_Reader_readNumber B (nI 0) (nI 3) (Z 40)).2)) (rnN B 0 3 (Z 40)) (iz_up hi0 (rn_RI hi0.1)) (by omega) ?_
  rw [f_Reader_readPlant] at hk
  exact hk
theorem q_Reader_readPlant {g : GG} {h : Hp} (hst : (gl g).stackTraces = false) {r y p : Nat} {ad : Nat → Nat} {B : Nat → Int32} (hc : RdC g h r y p ad B)  (Z : Nat → Nat → Int32) (hm : ∀ q ∈ gO (rdL g r y p ad) Z, h q.1 = some q.2) (hi0 : IZ Z) : PM g M_Reader_readPlant 3 0 0 [.ref (r)] h (RetV none (ov h (gO (rdL g r y p ad) (f_Reader_readPlant B Z)))) := by
  refine PM.of hst (by decide) rfl (fun v hv => ?_) (Nat.le_of_ble_eq_true rfl) ?_
  · simp only [List.mem_cons, List.not_mem_nil, or_false] at hv; rcases hv with rfl <;> rfl
  · have hq := w_Reader_readPlant_0 (g := g) (Q := RetV none (ov h (gO (rdL g r y p ad) (f_Reader_readPlant B Z)))) (h := h) (kc := 0) (ks := 0) hst hc Z hi0 ?_
    · rw [ov_self hm] at hq; exact hq
    · exact ⟨rfl, rfl⟩
theorem z_Reader_readPlant {B : Nat → Int32} {Z : Nat → Nat → Int32} (hi0 : IZ Z) : IZ (f_Reader_readPlant B Z) := by
  have hz0 := hi0.2.1.2
  have hz1 := hi0.2.2.2
  rw [f_Reader_readPlant]
  have hb1 := (rn_nat (B := B) (lo := 0) (hi := 3) (R := (Z 40)) (by decide) (by decide)).2
  exact z_Reader_readPlant_7 (iz_up hi0 (rn_RI hi0.1)) (by omega)

def f_Reader_readBlockNumber_8 (B : Nat → Int32) (Z : Nat → Nat → Int32) (nu : Nat) : Int32 × (Nat → Nat → Int32) :=
  if nu < (pN Z 30 3) then (nI (nu), Z) else (nI (nu), va_up Z 40 (f_Reader_fail 3 (Z 40)))
set_option maxRecDepth 4000 in
theorem w_Reader_readBlockNumber_8 {g : GG} {Q : QT} {h : Hp} {kc ks : Nat} (hst : (gl g).stackTraces = false) {r y p : Nat} {ad : Nat → Nat} {B : Nat → Int32} (hc : RdC g h r y p ad B)  (Z : Nat → Nat → Int32) (nu : Nat) (hi0 : IZ Z) (hn9 : nu < 10) (hk : Q (.inl (some (.int (f_Reader_readBlockNumber_8 B Z nu).1))) (ov h (gO (rdL g r y p ad) ((f_Reader_readBlockNumber_8 B Z nu).2)))) : PW g M_Reader_readBlockNumber 3 kc ks Q 8 [.ref (r), .int (nI (nu))] [] (ov h (gO (rdL g r y p ad) Z)) := by
  have nds : [r].Nodup := List.pairwise_singleton _ r
  have hnd := hc.1
  have hy := hc.2.1
  have hry := hc.2.2.1
  have hpl := hc.2.2.2.1
  have hz0 := hi0.2.1.2
  have hz1 := hi0.2.2.2
  refine pw_iload_n e_Reader_readBlockNumber_8 rfl ?_
  refine pw_aload_n e_Reader_readBlockNumber_9 rfl ?_
  refine pw_getf e_Reader_readBlockNumber_10 fl_Reader_31 (gO_get hnd (i := 0) rfl) rfl ?_
  refine pw_getf e_Reader_readBlockNumber_13 fl_Reader_129 (gO_get hnd (i := 1) rfl) rfl ?_
  rw [show Z 30 3 = nI (pN Z 30 3) from hi0.2.1.1]
  refine pw_icmp_ltN (tgt := 24) e_Reader_readBlockNumber_16 (by decide) (by omega) (by omega) (fun (H1 : nu < (pN Z 30 3)) => ?_) (fun (H1 : (pN Z 30 3) ≤ nu) => ?_)
  · refine pw_iload_n e_Reader_readBlockNumber_24 rfl ?_
    refine pw_iret e_Reader_readBlockNumber_25 rfl rfl ?_
    rw [f_Reader_readBlockNumber_8, if_pos H1] at hk
    exact hk
  · refine pw_aload_n e_Reader_readBlockNumber_19 rfl ?_
    refine pw_iconst (v := nI 3) e_Reader_readBlockNumber_20 (by decide) ?_
    refine pw_detV (As := [.int (nI (3))]) e_Reader_readBlockNumber_21 li_Reader_100 rfl (gO_get hnd (i := 0) rfl) (q_Reader_fail hst nds 3 (Z 40) (gO_get hnd (i := 0) rfl)) rfl (by decide) (Nat.le_of_ble_eq_true rfl) rfl ?_
    refine pw_oneG (i := 0) hnd (rd_x _ _ _ _ _) rfl rfl ?_
    refine pw_iload_n e_Reader_readBlockNumber_24 rfl ?_
    refine pw_iret e_Reader_readBlockNumber_25 rfl rfl ?_
    rw [f_Reader_readBlockNumber_8, if_neg (Nat.not_lt.mpr H1)] at hk
    exact hk
theorem z_Reader_readBlockNumber_8 {B : Nat → Int32} {Z : Nat → Nat → Int32} {nu : Nat} (hi0 : IZ Z) (hn9 : nu < 10) : IZ (f_Reader_readBlockNumber_8 B Z nu).2 := by
  have hz0 := hi0.2.1.2
  have hz1 := hi0.2.2.2
  rw [f_Reader_readBlockNumber_8]
  by_cases H1 : nu < (pN Z 30 3)
  · rw [if_pos H1]
    exact hi0
  · rw [if_neg H1]
    exact (iz_up hi0 (fail_RI hi0.1))
def f_Reader_readBlockNumber (B : Nat → Int32) (Z : Nat → Nat → Int32) : Int32 × (Nat → Nat → Int32) :=
  f_Reader_readBlockNumber_8 B (va_up Z 40 ((f_Reader_readNumber B (nI 0) (nI 9) (Z 40)).2)) (rnN B 0 9 (Z 40))
set_option maxRecDepth 4000 in
theorem w_Reader_readBlockNumber_0 {g : GG} {Q : QT} {h : Hp} {kc ks : Nat} (hst : (gl g).stackTraces = false) {r y p : Nat} {ad : Nat → Nat} {B : Nat → Int32} (hc : RdC g h r y p ad B)  (Z : Nat → Nat → Int32) (hi0 : IZ Z) (hk : Q (.inl (some (.int (f_Reader_readBlockNumber B Z).1))) (ov h (gO (rdL g r y p ad) ((f_Reader_readBlockNumber B Z).2)))) : PW g M_Reader_readBlockNumber 3 kc ks Q 0 [.ref (r), .retAddr 0] [] (ov h (gO (rdL g r y p ad) Z)) := by
  have nds : [r].Nodup := List.pairwise_singleton _ r
  have hnd := hc.1
  have hy := hc.2.1
  have hry := hc.2.2.1
  have hpl := hc.2.2.2.1
  have hz0 := hi0.2.1.2
  have hz1 := hi0.2.2.2
  refine pw_aload_n e_Reader_readBlockNumber_0 rfl ?_
  refine pw_iconst (v := nI 0) e_Reader_readBlockNumber_1 (by decide) ?_
  refine pw_bipush (v := nI 9) e_Reader_readBlockNumber_2 (by decide) ?_
  have hb1 := (rn_nat (B := B) (lo := 0) (hi := 9) (R := (Z 40)) (by decide) (by decide)).2
  refine pw_detV (As := [.int (nI (0)), .int (nI (9))]) e_Reader_readBlockNumber_4 li_Reader_104 rfl (gO_get hnd (i := 0) rfl) (q_rn hst nds (fun l hl => ov_ne hry (hy _ (gO_fst _ _)) hl) 0 9 (Z 40) (gO_get hnd (i := 0) rfl) hi0.1 (by decide) (by decide)) rfl (by decide) (Nat.le_of_ble_eq_true rfl) rfl ?_
  refine pw_oneG (i := 0) hnd (rd_x _ _ _ _ _) rfl rfl ?_
  refine pw_istore_n (ls2 := [_, _]) e_Reader_readBlockNumber_7 (by decide) rfl ?_
  refine w_Reader_readBlockNumber_8 hst hc (va_up Z 40 ((f_Reader_readNumber B (nI 0) (nI 9) (Z 40)).2)) (rnN B 0 9 (Z 40)) (iz_up hi0 (rn_RI hi0.1)) (by omega) ?_
  rw [f_Reader_readBlockNumber] at hk
  exact hk
theorem q_Reader_readBlockNumber {g : GG} {h : Hp} (hst : (gl g).stackTraces = false) {r y p : Nat} {ad : Nat → Nat} {B : Nat → Int32} (hc : RdC g h r y p ad B)  (Z : Nat → Nat → Int32) (hm : ∀ q ∈ gO (rdL g r y p ad) Z, h q.1 = some q.2) (hi0 : IZ Z) : PM g M_Reader_readBlockNumber 3 0 0 [.ref (r)] h (RetV (some (.int (f_Reader_readBlockNumber B Z).1)) (ov h (gO (rdL g r y p ad) ((f_Reader_readBlockNumber B Z).2)))) := by
  refine PM.of hst (by decide) rfl (fun v hv => ?_) (Nat.le_of_ble_eq_true rfl) ?_
  · simp only [List.mem_cons, List.not_mem_nil, or_false] at hv; rcases hv with rfl <;> rfl
  · have hq := w_Reader_readBlockNumber_0 (g := g) (Q := RetV (some (.int (f_Reader_readBlockNumber B Z).1)) (ov h (gO (rdL g r y p ad) ((f_Reader_readBlockNumber B Z).2)))) (h := h) (kc := 0) (ks := 0) hst hc Z hi0 ?_
    · rw [ov_self hm] at hq; exact hq
    · exact ⟨rfl, rfl⟩
theorem z_Reader_readBlockNumber {B : Nat → Int32} {Z : Nat → Nat → Int32} (hi0 : IZ Z) : IZ (f_Reader_readBlockNumber B Z).2 := by
  have hz0 := hi0.2.1.2
  have hz1 := hi0.2.2.2
  rw [f_Reader_readBlockNumber]
  have hb1 := (rn_nat (B := B) (lo := 0) (hi := 9) (R := (Z 40)) (by decide) (by decide)).2
  exact z_Reader_readBlockNumber_8 (iz_up hi0 (rn_RI hi0.1)) (by omega)

theorem rbn_g (B : Nat → Int32) (Z : Nat → Nat → Int32) : (f_Reader_readBlockNumber B Z).1 = nI (rnN B 0 9 (Z 40)) := by
  rw [f_Reader_readBlockNumber, f_Reader_readBlockNumber_8]
  split <;> rfl
def rbN (B : Nat → Int32) (Z : Nat → Nat → Int32) : Nat := rnN B 0 9 (Z 40)
theorem rbn_nat (B : Nat → Int32) {Z : Nat → Nat → Int32} : rbN B Z ≤ 9 := (rn_nat (B := B) (lo := 0) (hi := 9) (R := Z 40) (by decide) (by decide)).2.2
theorem q_rbn {g : GG} {h : Hp} (hst : (gl g).stackTraces = false) {r y p : Nat} {ad : Nat → Nat} {B : Nat → Int32} (hc : RdC g h r y p ad B) (Z : Nat → Nat → Int32) (hm : ∀ q ∈ gO (rdL g r y p ad) Z, h q.1 = some q.2) (hi0 : IZ Z) : PM g M_Reader_readBlockNumber 3 0 0 [.ref r] h (RetV (some (.int (nI (rbN B Z)))) (ov h (gO (rdL g r y p ad) (f_Reader_readBlockNumber B Z).2))) := by
  show PM g M_Reader_readBlockNumber 3 0 0 [.ref r] h (RetV (some (.int (nI (rnN B 0 9 (Z 40))))) _)
  rw [← rbn_g]; exact q_Reader_readBlockNumber hst hc Z hm hi0
theorem rbn_cases (B : Nat → Int32) (Z : Nat → Nat → Int32) : ∃ R, (f_Reader_readBlockNumber B Z).2 = va_up Z 40 R ∧ (RI (Z 40) → RI R) ∧ (R 1 = 0 → Z 40 1 = 0) := by
  rw [f_Reader_readBlockNumber, f_Reader_readBlockNumber_8]
  split
  · exact ⟨_, rfl, fun h => rn_RI h, fun h => rn_g h⟩
  · refine ⟨f_Reader_fail 3 ((f_Reader_readNumber B (nI 0) (nI 9) (Z 40)).2), ?_, fun h => fail_RI (rn_RI h), fun h => absurd h (fail_f (by decide))⟩
    rw [up_same]
    exact up_up _ _ _ _
theorem iz_rbn {B : Nat → Int32} {Z : Nat → Nat → Int32} (h : IZ Z) : IZ (f_Reader_readBlockNumber B Z).2 := by
  obtain ⟨R, e, h1, -⟩ := rbn_cases B Z
  rw [e]; exact iz_up h (h1 h.1)
theorem bk_rbn {B : Nat → Int32} {Z : Nat → Nat → Int32} {n : Nat} (h : Z 40 1 = 0 → pN Z 31 0 < n) : (f_Reader_readBlockNumber B Z).2 40 1 = 0 → pN (f_Reader_readBlockNumber B Z).2 31 0 < n := by
  obtain ⟨R, e, -, h2⟩ := rbn_cases B Z
  rw [e]; exact bk_up (by decide) h h2
def f_Reader_readPid_68 (B : Nat → Int32) (b : Nat) (Z : Nat → Nat → Int32) : (Nat → Nat → Int32) :=
  u2 (va_up Z 40 ((f_Reader_readChoice B 6 7 (Z 40)).2)) 8 b ((f_Reader_readChoice B 6 7 (Z 40)).1)
set_option maxRecDepth 4000 in
theorem w_Reader_readPid_68 {g : GG} {Q : QT} {h : Hp} {kc ks : Nat} (hst : (gl g).stackTraces = false) {r y p : Nat} {ad : Nat → Nat} {B : Nat → Int32} (hc : RdC g h r y p ad B) (b : Nat) (hb : b < 10)  (Z : Nat → Nat → Int32) (hi0 : IZ Z) (hk : Q (.inl none) (ov h (gO (rdL g r y p ad) (f_Reader_readPid_68 B b Z)))) : PW g M_Reader_readPid 6 kc ks Q 68 [.ref (r), .int (nI (b))] [] (ov h (gO (rdL g r y p ad) Z)) := by
  have nds : [r].Nodup := List.pairwise_singleton _ r
  have hnd := hc.1
  have hy := hc.2.1
  have hry := hc.2.2.1
  have hpl := hc.2.2.2.1
  have hz0 := hi0.2.1.2
  have hz1 := hi0.2.2.2
  refine pw_aload_n e_Reader_readPid_68 rfl ?_
  refine pw_getf e_Reader_readPid_69 fl_Reader_31 (gO_get hnd (i := 0) rfl) rfl ?_
  refine pw_getf e_Reader_readPid_72 fl_Reader_177 (gO_get hnd (i := 1) rfl) rfl ?_
  refine pw_iload_n e_Reader_readPid_75 rfl ?_
  refine pw_aload_n e_Reader_readPid_76 rfl ?_
  refine pw_ldcS (i := 6) e_Reader_readPid_77 rfl (by decide) (by decide) ?_
  refine pw_ldcS (i := 7) e_Reader_readPid_79 rfl (by decide) (by decide) ?_
  refine pw_detV (As := [.ref (gk g 6), .ref (gk g 7)]) e_Reader_readPid_81 li_Reader_162 rfl (gO_get hnd (i := 0) rfl) (q_Reader_readChoice hst nds (fun l hl => ov_ne hry (hy _ (gO_fst _ _)) hl) 6 7 (by decide) (by decide) (Z 40) (gO_get hnd (i := 0) rfl) hi0.1) rfl (by decide) (Nat.le_of_ble_eq_true rfl) rfl ?_
  refine pw_oneG (i := 0) hnd (rd_x _ _ _ _ _) rfl rfl ?_
  refine pw_zastG (i := 11) e_Reader_readPid_84 hnd (rd_x _ _ _ _ _) rfl (by omega) (by decide) (zn01 (rc01 _ _ _ _)) ?_
  refine pw_vret e_Reader_readPid_85 rfl ?_
  rw [f_Reader_readPid_68] at hk
  exact hk
theorem z_Reader_readPid_68 {B : Nat → Int32} {b : Nat} {Z : Nat → Nat → Int32} (hi0 : IZ Z) : IZ (f_Reader_readPid_68 B b Z) := by
  have hz0 := hi0.2.1.2
  have hz1 := hi0.2.2.2
  rw [f_Reader_readPid_68]
  exact (iz_u2 (iz_up hi0 (rc_RI hi0.1)) (by decide) (by decide) (by decide))
def f_Reader_readPid_43 (B : Nat → Int32) (b : Nat) (Z : Nat → Nat → Int32) : (Nat → Nat → Int32) :=
  if ((f_Reader_readChoice B 4 5 (Z 40)).1) = 0 then f_Reader_readPid_68 B b (u2 (va_up Z 40 ((f_Reader_readChoice B 4 5 (Z 40)).2)) 7 b 2) else f_Reader_readPid_68 B b (u2 (va_up Z 40 ((f_Reader_readChoice B 4 5 (Z 40)).2)) 7 b 1)
set_option maxRecDepth 4000 in
theorem w_Reader_readPid_43 {g : GG} {Q : QT} {h : Hp} {kc ks : Nat} (hst : (gl g).stackTraces = false) {r y p : Nat} {ad : Nat → Nat} {B : Nat → Int32} (hc : RdC g h r y p ad B) (b : Nat) (hb : b < 10)  (Z : Nat → Nat → Int32) (hi0 : IZ Z) (hk : Q (.inl none) (ov h (gO (rdL g r y p ad) (f_Reader_readPid_43 B b Z)))) : PW g M_Reader_readPid 6 kc ks Q 43 [.ref (r), .int (nI (b))] [] (ov h (gO (rdL g r y p ad) Z)) := by
  have nds : [r].Nodup := List.pairwise_singleton _ r
  have hnd := hc.1
  have hy := hc.2.1
  have hry := hc.2.2.1
  have hpl := hc.2.2.2.1
  have hz0 := hi0.2.1.2
  have hz1 := hi0.2.2.2
  refine pw_aload_n e_Reader_readPid_43 rfl ?_
  refine pw_getf e_Reader_readPid_44 fl_Reader_31 (gO_get hnd (i := 0) rfl) rfl ?_
  refine pw_getf e_Reader_readPid_47 fl_Reader_170 (gO_get hnd (i := 1) rfl) rfl ?_
  refine pw_iload_n e_Reader_readPid_50 rfl ?_
  refine pw_aload_n e_Reader_readPid_51 rfl ?_
  refine pw_ldcS (i := 4) e_Reader_readPid_52 rfl (by decide) (by decide) ?_
  refine pw_ldcS (i := 5) e_Reader_readPid_54 rfl (by decide) (by decide) ?_
  refine pw_detV (As := [.ref (gk g 4), .ref (gk g 5)]) e_Reader_readPid_56 li_Reader_162 rfl (gO_get hnd (i := 0) rfl) (q_Reader_readChoice hst nds (fun l hl => ov_ne hry (hy _ (gO_fst _ _)) hl) 4 5 (by decide) (by decide) (Z 40) (gO_get hnd (i := 0) rfl) hi0.1) rfl (by decide) (Nat.le_of_ble_eq_true rfl) rfl ?_
  refine pw_oneG (i := 0) hnd (rd_x _ _ _ _ _) rfl rfl ?_
  refine pw_if_eq (tgt := 66) e_Reader_readPid_59 (by decide) (fun (H1 : ((f_Reader_readChoice B 4 5 (Z 40)).1) = 0) => ?_) (fun (H1 : ¬ ((f_Reader_readChoice B 4 5 (Z 40)).1) = 0) => ?_)
  · refine pw_iconst (v := nI 2) e_Reader_readPid_66 (by decide) ?_
    refine pw_iastG (i := 10) e_Reader_readPid_67 hnd (rd_x _ _ _ _ _) rfl (by omega) (by decide) ?_
    refine w_Reader_readPid_68 hst hc b hb (u2 (va_up Z 40 ((f_Reader_readChoice B 4 5 (Z 40)).2)) 7 b 2) (iz_u2 (iz_up hi0 (rc_RI hi0.1)) (by decide) (by decide) (by decide)) ?_
    rw [f_Reader_readPid_43, if_pos H1] at hk
    exact hk
  · refine pw_iconst (v := nI 1) e_Reader_readPid_62 (by decide) ?_
    refine pw_goto (tgt := 67) e_Reader_readPid_63 (by decide) ?_
    refine pw_iastG (i := 10) e_Reader_readPid_67 hnd (rd_x _ _ _ _ _) rfl (by omega) (by decide) ?_
    refine w_Reader_readPid_68 hst hc b hb (u2 (va_up Z 40 ((f_Reader_readChoice B 4 5 (Z 40)).2)) 7 b 1) (iz_u2 (iz_up hi0 (rc_RI hi0.1)) (by decide) (by decide) (by decide)) ?_
    rw [f_Reader_readPid_43, if_neg H1] at hk
    exact hk
theorem z_Reader_readPid_43 {B : Nat → Int32} {b : Nat} {Z : Nat → Nat → Int32} (hi0 : IZ Z) : IZ (f_Reader_readPid_43 B b Z) := by
  have hz0 := hi0.2.1.2
  have hz1 := hi0.2.2.2
  rw [f_Reader_readPid_43]
  by_cases H1 : ((f_Reader_readChoice B 4 5 (Z 40)).1) = 0
  · rw [if_pos H1]
    exact z_Reader_readPid_68 (iz_u2 (iz_up hi0 (rc_RI hi0.1)) (by decide) (by decide) (by decide))
  · rw [if_neg H1]
    exact z_Reader_readPid_68 (iz_u2 (iz_up hi0 (rc_RI hi0.1)) (by decide) (by decide) (by decide))
def f_Reader_readPid_27 (B : Nat → Int32) (b : Nat) (Z : Nat → Nat → Int32) : (Nat → Nat → Int32) :=
  f_Reader_readPid_43 B b (u2 (va_up Z 40 ((f_Reader_readNumber B (nI 0) (nI 100) (Z 40)).2)) 5 b (nI (rnN B 0 100 (Z 40))))
set_option maxRecDepth 4000 in
theorem w_Reader_readPid_27 {g : GG} {Q : QT} {h : Hp} {kc ks : Nat} (hst : (gl g).stackTraces = false) {r y p : Nat} {ad : Nat → Nat} {B : Nat → Int32} (hc : RdC g h r y p ad B) (b : Nat) (hb : b < 10)  (Z : Nat → Nat → Int32) (hi0 : IZ Z) (hk : Q (.inl none) (ov h (gO (rdL g r y p ad) (f_Reader_readPid_27 B b Z)))) : PW g M_Reader_readPid 6 kc ks Q 27 [.ref (r), .int (nI (b))] [] (ov h (gO (rdL g r y p ad) Z)) := by
  have nds : [r].Nodup := List.pairwise_singleton _ r
  have hnd := hc.1
  have hy := hc.2.1
  have hry := hc.2.2.1
  have hpl := hc.2.2.2.1
  have hz0 := hi0.2.1.2
  have hz1 := hi0.2.2.2
  refine pw_aload_n e_Reader_readPid_27 rfl ?_
  refine pw_getf e_Reader_readPid_28 fl_Reader_31 (gO_get hnd (i := 0) rfl) rfl ?_
  refine pw_getf e_Reader_readPid_31 fl_Reader_167 (gO_get hnd (i := 1) rfl) rfl ?_
  refine pw_iload_n e_Reader_readPid_34 rfl ?_
  refine pw_aload_n e_Reader_readPid_35 rfl ?_
  refine pw_iconst (v := nI 0) e_Reader_readPid_36 (by decide) ?_
  refine pw_bipush (v := nI 100) e_Reader_readPid_37 (by decide) ?_
  have hb1 := (rn_nat (B := B) (lo := 0) (hi := 100) (R := (Z 40)) (by decide) (by decide)).2
  refine pw_detV (As := [.int (nI (0)), .int (nI (100))]) e_Reader_readPid_39 li_Reader_104 rfl (gO_get hnd (i := 0) rfl) (q_rn hst nds (fun l hl => ov_ne hry (hy _ (gO_fst _ _)) hl) 0 100 (Z 40) (gO_get hnd (i := 0) rfl) hi0.1 (by decide) (by decide)) rfl (by decide) (Nat.le_of_ble_eq_true rfl) rfl ?_
  refine pw_oneG (i := 0) hnd (rd_x _ _ _ _ _) rfl rfl ?_
  refine pw_iastG (i := 8) e_Reader_readPid_42 hnd (rd_x _ _ _ _ _) rfl (by omega) (by decide) ?_
  refine w_Reader_readPid_43 hst hc b hb (u2 (va_up Z 40 ((f_Reader_readNumber B (nI 0) (nI 100) (Z 40)).2)) 5 b (nI (rnN B 0 100 (Z 40)))) (iz_u2 (iz_up hi0 (rn_RI hi0.1)) (by decide) (by decide) (by decide)) ?_
  rw [f_Reader_readPid_27] at hk
  exact hk
theorem z_Reader_readPid_27 {B : Nat → Int32} {b : Nat} {Z : Nat → Nat → Int32} (hi0 : IZ Z) : IZ (f_Reader_readPid_27 B b Z) := by
  have hz0 := hi0.2.1.2
  have hz1 := hi0.2.2.2
  rw [f_Reader_readPid_27]
  have hb1 := (rn_nat (B := B) (lo := 0) (hi := 100) (R := (Z 40)) (by decide) (by decide)).2
  exact z_Reader_readPid_43 (iz_u2 (iz_up hi0 (rn_RI hi0.1)) (by decide) (by decide) (by decide))
def f_Reader_readPid_10 (B : Nat → Int32) (b : Nat) (Z : Nat → Nat → Int32) : (Nat → Nat → Int32) :=
  f_Reader_readPid_27 B b (u2 (va_up Z 40 ((f_Reader_readNumber B (nI 0) (nI 300) (Z 40)).2)) 4 b (nI (rnN B 0 300 (Z 40))))
set_option maxRecDepth 4000 in
theorem w_Reader_readPid_10 {g : GG} {Q : QT} {h : Hp} {kc ks : Nat} (hst : (gl g).stackTraces = false) {r y p : Nat} {ad : Nat → Nat} {B : Nat → Int32} (hc : RdC g h r y p ad B) (b : Nat) (hb : b < 10)  (Z : Nat → Nat → Int32) (hi0 : IZ Z) (hk : Q (.inl none) (ov h (gO (rdL g r y p ad) (f_Reader_readPid_10 B b Z)))) : PW g M_Reader_readPid 6 kc ks Q 10 [.ref (r), .int (nI (b))] [] (ov h (gO (rdL g r y p ad) Z)) := by
  have nds : [r].Nodup := List.pairwise_singleton _ r
  have hnd := hc.1
  have hy := hc.2.1
  have hry := hc.2.2.1
  have hpl := hc.2.2.2.1
  have hz0 := hi0.2.1.2
  have hz1 := hi0.2.2.2
  refine pw_aload_n e_Reader_readPid_10 rfl ?_
  refine pw_getf e_Reader_readPid_11 fl_Reader_31 (gO_get hnd (i := 0) rfl) rfl ?_
  refine pw_getf e_Reader_readPid_14 fl_Reader_166 (gO_get hnd (i := 1) rfl) rfl ?_
  refine pw_iload_n e_Reader_readPid_17 rfl ?_
  refine pw_aload_n e_Reader_readPid_18 rfl ?_
  refine pw_iconst (v := nI 0) e_Reader_readPid_19 (by decide) ?_
  refine pw_sipush (v := nI 300) e_Reader_readPid_20 (by decide) ?_
  have hb1 := (rn_nat (B := B) (lo := 0) (hi := 300) (R := (Z 40)) (by decide) (by decide)).2
  refine pw_detV (As := [.int (nI (0)), .int (nI (300))]) e_Reader_readPid_23 li_Reader_104 rfl (gO_get hnd (i := 0) rfl) (q_rn hst nds (fun l hl => ov_ne hry (hy _ (gO_fst _ _)) hl) 0 300 (Z 40) (gO_get hnd (i := 0) rfl) hi0.1 (by decide) (by decide)) rfl (by decide) (Nat.le_of_ble_eq_true rfl) rfl ?_
  refine pw_oneG (i := 0) hnd (rd_x _ _ _ _ _) rfl rfl ?_
  refine pw_iastG (i := 7) e_Reader_readPid_26 hnd (rd_x _ _ _ _ _) rfl (by omega) (by decide) ?_
  refine w_Reader_readPid_27 hst hc b hb (u2 (va_up Z 40 ((f_Reader_readNumber B (nI 0) (nI 300) (Z 40)).2)) 4 b (nI (rnN B 0 300 (Z 40)))) (iz_u2 (iz_up hi0 (rn_RI hi0.1)) (by decide) (by decide) (by decide)) ?_
  rw [f_Reader_readPid_10] at hk
  exact hk
theorem z_Reader_readPid_10 {B : Nat → Int32} {b : Nat} {Z : Nat → Nat → Int32} (hi0 : IZ Z) : IZ (f_Reader_readPid_10 B b Z) := by
  have hz0 := hi0.2.1.2
  have hz1 := hi0.2.2.2
  rw [f_Reader_readPid_10]
  have hb1 := (rn_nat (B := B) (lo := 0) (hi := 300) (R := (Z 40)) (by decide) (by decide)).2
  exact z_Reader_readPid_27 (iz_u2 (iz_up hi0 (rn_RI hi0.1)) (by decide) (by decide) (by decide))
def f_Reader_readPid (B : Nat → Int32) (b : Nat) (Z : Nat → Nat → Int32) : (Nat → Nat → Int32) :=
  f_Reader_readPid_10 B b (u2 Z 0 b 1)
set_option maxRecDepth 4000 in
theorem w_Reader_readPid_0 {g : GG} {Q : QT} {h : Hp} {kc ks : Nat} (hst : (gl g).stackTraces = false) {r y p : Nat} {ad : Nat → Nat} {B : Nat → Int32} (hc : RdC g h r y p ad B) (b : Nat) (hb : b < 10)  (Z : Nat → Nat → Int32) (hi0 : IZ Z) (hk : Q (.inl none) (ov h (gO (rdL g r y p ad) (f_Reader_readPid B b Z)))) : PW g M_Reader_readPid 6 kc ks Q 0 [.ref (r), .int (nI (b))] [] (ov h (gO (rdL g r y p ad) Z)) := by
  have nds : [r].Nodup := List.pairwise_singleton _ r
  have hnd := hc.1
  have hy := hc.2.1
  have hry := hc.2.2.1
  have hpl := hc.2.2.2.1
  have hz0 := hi0.2.1.2
  have hz1 := hi0.2.2.2
  refine pw_aload_n e_Reader_readPid_0 rfl ?_
  refine pw_getf e_Reader_readPid_1 fl_Reader_31 (gO_get hnd (i := 0) rfl) rfl ?_
  refine pw_getf e_Reader_readPid_4 fl_Reader_137 (gO_get hnd (i := 1) rfl) rfl ?_
  refine pw_iload_n e_Reader_readPid_7 rfl ?_
  refine pw_iconst (v := nI 1) e_Reader_readPid_8 (by decide) ?_
  refine pw_iastG (i := 3) e_Reader_readPid_9 hnd (rd_x _ _ _ _ _) rfl (by omega) (by decide) ?_
  refine w_Reader_readPid_10 hst hc b hb (u2 Z 0 b 1) (iz_u2 hi0 (by decide) (by decide) (by decide)) ?_
  rw [f_Reader_readPid] at hk
  exact hk
theorem q_Reader_readPid {g : GG} {h : Hp} (hst : (gl g).stackTraces = false) {r y p : Nat} {ad : Nat → Nat} {B : Nat → Int32} (hc : RdC g h r y p ad B) (b : Nat) (hb : b < 10)  (Z : Nat → Nat → Int32) (hm : ∀ q ∈ gO (rdL g r y p ad) Z, h q.1 = some q.2) (hi0 : IZ Z) : PM g M_Reader_readPid 6 0 0 [.ref (r), .int (nI (b))] h (RetV none (ov h (gO (rdL g r y p ad) (f_Reader_readPid B b Z)))) := by
  refine PM.of hst (by decide) rfl (fun v hv => ?_) (Nat.le_of_ble_eq_true rfl) ?_
  · simp only [List.mem_cons, List.not_mem_nil, or_false] at hv; rcases hv with rfl | rfl <;> rfl
  · have hq := w_Reader_readPid_0 (g := g) (Q := RetV none (ov h (gO (rdL g r y p ad) (f_Reader_readPid B b Z)))) (h := h) (kc := 0) (ks := 0) hst hc b hb Z hi0 ?_
    · rw [ov_self hm] at hq; exact hq
    · exact ⟨rfl, rfl⟩
theorem z_Reader_readPid {B : Nat → Int32} {b : Nat} {Z : Nat → Nat → Int32} (hi0 : IZ Z) : IZ (f_Reader_readPid B b Z) := by
  have hz0 := hi0.2.1.2
  have hz1 := hi0.2.2.2
  rw [f_Reader_readPid]
  exact z_Reader_readPid_10 (iz_u2 hi0 (by decide) (by decide) (by decide))

