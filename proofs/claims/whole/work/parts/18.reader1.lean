/-! the reader, what it does with itself alone (written by wip/whole/c_reader.py) -/
/-- where the reader stands: 0 ≤ tokenAt ≤ at ≤ length ≤ 900 -/
def RI (R : Nat → Int32) : Prop := 0 ≤ R 10 ∧ R 10 ≤ R 4 ∧ R 4 ≤ R 3 ∧ R 3 ≤ 900
theorem i_le {a b : Int32} : a ≤ b ↔ a.toInt ≤ b.toInt := Int32.le_iff_toInt_le
theorem i_lt {a b : Int32} : a < b ↔ a.toInt < b.toInt := Int32.lt_iff_toInt_lt
theorem i_in {x : Int32} {n : Nat} (h0 : 0 ≤ x) (h1 : x.toInt < n) : vp_in x n := vp_in_iff.mpr ⟨by have := i_le.mp h0; simpa using this, h1⟩
theorem i_inc {x y : Int32} (h1 : x < y) : (x + 1).toInt = x.toInt + 1 := by
  have h := i_lt.mp h1
  have e := Int32.toInt_lt y
  rw [Int32.toInt_add]
  have h3 := Int32.le_toInt x
  rw [show (1 : Int32).toInt = 1 by decide]
  exact Int.bmod_eq_of_le (by omega) (by omega)
theorem RI.at {R : Nat → Int32} (h : RI R) (hlt : ¬ R 3 ≤ R 4) : vp_in (R 4) 900 := by
  obtain ⟨a, b, c, d⟩ := h
  have a' := i_le.mp a; have b' := i_le.mp b; have d' := i_le.mp d
  have e : (900 : Int32).toInt = 900 := by decide
  have z : (0 : Int32).toInt = 0 := by decide
  rw [i_le] at hlt
  exact i_in (i_le.mpr (by omega)) (by omega)
theorem RI.inc {R : Nat → Int32} (h : RI R) (hlt : ¬ R 3 ≤ R 4) : RI (upd R 4 (R 4 + 1)) := by
  obtain ⟨a, b, c, d⟩ := h
  have hl : R 4 < R 3 := Int32.not_le.mp hlt
  have e := i_inc hl
  have b' := i_le.mp b; have hl' := i_lt.mp hl
  refine ⟨a, ?_, ?_, d⟩
  · show R 10 ≤ R 4 + 1
    rw [i_le, e]; omega
  · show R 4 + 1 ≤ R 3
    rw [i_le, e]; omega
theorem RI.tok {R : Nat → Int32} (h : RI R) (v : Int32) : RI (upd R 9 v) := h
theorem RI.put {R : Nat → Int32} (h : RI R) {k : Nat} (v : Int32) (h3 : 3 ≠ k) (h4 : 4 ≠ k) (h10 : 10 ≠ k) : RI (upd R k v) := by
  unfold RI upd
  simp only [h3, h4, h10, if_false]
  exact h
theorem RI.tokAt {R : Nat → Int32} (h : RI R) : RI (upd R 10 (R 4)) := by
  obtain ⟨a, b, c, d⟩ := h
  exact ⟨Int32.le_trans a b, Int32.le_refl _, c, d⟩
def f_Reader_fail (x : Int32) (R : Nat → Int32) : (Nat → Int32) :=
  if (R 1) = 0 then upd (upd R 1 x) 0 ((upd R 1 x) 10) else R
set_option maxRecDepth 4000 in
theorem w_Reader_fail_0 {g : GG} {Q : QT} {h : Hp} {kc ks : Nat} (hst : (gl g).stackTraces = false) {r y p : Nat} (hnd : [r].Nodup) (x : Int32)  (R : Nat → Int32) (hk : Q (.inl none) (ov h [(r, .inr (7, [.int ((f_Reader_fail x R) 0), .int ((f_Reader_fail x R) 1), .ref y, .int ((f_Reader_fail x R) 3), .int ((f_Reader_fail x R) 4), .ref p, .int ((f_Reader_fail x R) 6), .int ((f_Reader_fail x R) 7), .int ((f_Reader_fail x R) 8), .int ((f_Reader_fail x R) 9), .int ((f_Reader_fail x R) 10)]))])) : PW g M_Reader_fail 0 kc ks Q 0 [.ref (r), .int (x)] [] (ov h [(r, .inr (7, [.int (R 0), .int (R 1), .ref y, .int (R 3), .int (R 4), .ref p, .int (R 6), .int (R 7), .int (R 8), .int (R 9), .int (R 10)]))]) := by
  refine pw_aload_n e_Reader_fail_0 rfl ?_
  refine pw_getf e_Reader_fail_1 fl_Reader_15 (ov_get hnd rfl (i := 0) rfl) rfl ?_
  refine pw_if_ne (tgt := 20) e_Reader_fail_4 (by decide) (fun (H1 : ¬ (R 1) = 0) => ?_) (fun (H1 : (R 1) = 0) => ?_)
  · refine pw_vret e_Reader_fail_20 rfl ?_
    rw [f_Reader_fail, if_neg H1] at hk
    exact hk
  · refine pw_aload_n e_Reader_fail_7 rfl ?_
    refine pw_iload_n e_Reader_fail_8 rfl ?_
    refine pw_putO (i := 0) (l2 := [(r, .inr (7, [.int ((upd R 1 x) 0), .int ((upd R 1 x) 1), .ref y, .int ((upd R 1 x) 3), .int ((upd R 1 x) 4), .ref p, .int ((upd R 1 x) 6), .int ((upd R 1 x) 7), .int ((upd R 1 x) 8), .int ((upd R 1 x) 9), .int ((upd R 1 x) 10)]))]) e_Reader_fail_9 fp_Reader_15 hnd rfl rfl (Nat.le_of_ble_eq_true rfl) rfl rfl rfl ?_
    refine pw_aload_n e_Reader_fail_12 rfl ?_
    refine pw_aload_n e_Reader_fail_13 rfl ?_
    refine pw_getf e_Reader_fail_14 fl_Reader_48 (ov_get hnd rfl (i := 0) rfl) rfl ?_
    refine pw_putO (i := 0) (l2 := [(r, .inr (7, [.int ((upd (upd R 1 x) 0 ((upd R 1 x) 10)) 0), .int ((upd (upd R 1 x) 0 ((upd R 1 x) 10)) 1), .ref y, .int ((upd (upd R 1 x) 0 ((upd R 1 x) 10)) 3), .int ((upd (upd R 1 x) 0 ((upd R 1 x) 10)) 4), .ref p, .int ((upd (upd R 1 x) 0 ((upd R 1 x) 10)) 6), .int ((upd (upd R 1 x) 0 ((upd R 1 x) 10)) 7), .int ((upd (upd R 1 x) 0 ((upd R 1 x) 10)) 8), .int ((upd (upd R 1 x) 0 ((upd R 1 x) 10)) 9), .int ((upd (upd R 1 x) 0 ((upd R 1 x) 10)) 10)]))]) e_Reader_fail_17 fp_Reader_9 hnd rfl rfl (Nat.le_of_ble_eq_true rfl) rfl rfl rfl ?_
    refine pw_vret e_Reader_fail_20 rfl ?_
    rw [f_Reader_fail, if_pos H1] at hk
    exact hk
theorem q_Reader_fail {g : GG} {h : Hp} (hst : (gl g).stackTraces = false) {r y p : Nat} (hnd : [r].Nodup) (x : Int32)  (R : Nat → Int32) (hm_r : h r = some (.inr (7, [.int (R 0), .int (R 1), .ref y, .int (R 3), .int (R 4), .ref p, .int (R 6), .int (R 7), .int (R 8), .int (R 9), .int (R 10)]))) : PM g M_Reader_fail 0 0 0 [.ref (r), .int (x)] h (RetV none (ov h [(r, .inr (7, [.int ((f_Reader_fail x R) 0), .int ((f_Reader_fail x R) 1), .ref y, .int ((f_Reader_fail x R) 3), .int ((f_Reader_fail x R) 4), .ref p, .int ((f_Reader_fail x R) 6), .int ((f_Reader_fail x R) 7), .int ((f_Reader_fail x R) 8), .int ((f_Reader_fail x R) 9), .int ((f_Reader_fail x R) 10)]))])) := by
  refine PM.of hst (by decide) rfl (fun v hv => ?_) (Nat.le_of_ble_eq_true rfl) ?_
  · simp only [List.mem_cons, List.not_mem_nil, or_false] at hv; rcases hv with rfl | rfl <;> rfl
  · have hq := w_Reader_fail_0 (g := g) (Q := RetV none (ov h [(r, .inr (7, [.int ((f_Reader_fail x R) 0), .int ((f_Reader_fail x R) 1), .ref y, .int ((f_Reader_fail x R) 3), .int ((f_Reader_fail x R) 4), .ref p, .int ((f_Reader_fail x R) 6), .int ((f_Reader_fail x R) 7), .int ((f_Reader_fail x R) 8), .int ((f_Reader_fail x R) 9), .int ((f_Reader_fail x R) 10)]))])) (h := h) (kc := 0) (ks := 0) (y := y) (p := p) hst hnd x R ?_
    · rw [ov_self (l := [(r, .inr (7, [.int (R 0), .int (R 1), .ref y, .int (R 3), .int (R 4), .ref p, .int (R 6), .int (R 7), .int (R 8), .int (R 9), .int (R 10)]))]) (by simp only [List.mem_cons, List.not_mem_nil, or_false]; rintro q (rfl) <;> assumption)] at hq; exact hq
    · exact ⟨rfl, rfl⟩

def mu (R : Nat → Int32) : Nat := ((R 3).toInt - (R 4).toInt).toNat
theorem RI.mu0 {R : Nat → Int32} (h : RI R) : mu R < 901 := by
  obtain ⟨a, b, c, d⟩ := h
  have a' := i_le.mp a; have b' := i_le.mp b; have d' := i_le.mp d
  have e : (900 : Int32).toInt = 900 := by decide
  have z : (0 : Int32).toInt = 0 := by decide
  unfold mu
  omega
theorem RI.muS {R : Nat → Int32} {t : Nat} (hlt : ¬ R 3 ≤ R 4) (ht : mu R < t + 1) : mu (upd R 4 (R 4 + 1)) < t := by
  have hl : R 4 < R 3 := Int32.not_le.mp hlt
  have e := i_inc hl
  have hl' := i_lt.mp hl
  unfold mu at ht ⊢
  show ((R 3).toInt - (R 4 + 1).toInt).toNat < t
  rw [e]
  omega
def f_Reader_takeRow_L (B : Nat → Int32) (lo hi : Int32) : Nat → (Nat → Int32) → (Nat → Int32)
  | 0, R => R
  | t + 1, R => if (R 3) ≤ (R 4) then R else if (B (R 4).toNatClampNeg) < lo then R else if hi < (B (R 4).toNatClampNeg) then R else f_Reader_takeRow_L B lo hi t (upd R 4 ((R 4) + 1))
set_option maxRecDepth 4000 in
theorem w_Reader_takeRow_L {g : GG} {Q : QT} {h : Hp} {kc ks : Nat} (hst : (gl g).stackTraces = false) {r y p : Nat} (hnd : [r].Nodup) {B : Nat → Int32} (hy : ∀ l : List (Nat × va_E), l.map Prod.fst = [r] → ov h l y = some (aB g 900 B)) (lo hi : Int32)  (t : Nat) : ∀ (R : Nat → Int32) (hi0 : RI R) (hlt : mu R < t) (hk : Q (.inl none) (ov h [(r, .inr (7, [.int ((f_Reader_takeRow_L B lo hi t R) 0), .int ((f_Reader_takeRow_L B lo hi t R) 1), .ref y, .int ((f_Reader_takeRow_L B lo hi t R) 3), .int ((f_Reader_takeRow_L B lo hi t R) 4), .ref p, .int ((f_Reader_takeRow_L B lo hi t R) 6), .int ((f_Reader_takeRow_L B lo hi t R) 7), .int ((f_Reader_takeRow_L B lo hi t R) 8), .int ((f_Reader_takeRow_L B lo hi t R) 9), .int ((f_Reader_takeRow_L B lo hi t R) 10)]))])), PW g M_Reader_takeRow 0 kc ks Q 0 [.ref (r), .int (lo), .int (hi)] [] (ov h [(r, .inr (7, [.int (R 0), .int (R 1), .ref y, .int (R 3), .int (R 4), .ref p, .int (R 6), .int (R 7), .int (R 8), .int (R 9), .int (R 10)]))]) := by
  induction t with
  | zero => intro R hi0 hlt _; exact absurd hlt (Nat.not_lt_zero _)
  | succ t ih =>
    intro R hi0 hlt hk
    refine pw_aload_n e_Reader_takeRow_0 rfl ?_
    refine pw_getf e_Reader_takeRow_1 fl_Reader_25 (ov_get hnd rfl (i := 0) rfl) rfl ?_
    refine pw_aload_n e_Reader_takeRow_4 rfl ?_
    refine pw_getf e_Reader_takeRow_5 fl_Reader_22 (ov_get hnd rfl (i := 0) rfl) rfl ?_
    refine pw_icmp_ge (tgt := 50) e_Reader_takeRow_8 (by decide) (fun (H1 : (R 3) ≤ (R 4)) => ?_) (fun (H1 : ¬ (R 3) ≤ (R 4)) => ?_)
    · refine pw_vret e_Reader_takeRow_50 rfl ?_
      rw [f_Reader_takeRow_L, if_pos H1] at hk
      exact hk
    · refine pw_aload_n e_Reader_takeRow_11 rfl ?_
      refine pw_getf e_Reader_takeRow_12 fl_Reader_18 (ov_get hnd rfl (i := 0) rfl) rfl ?_
      refine pw_aload_n e_Reader_takeRow_15 rfl ?_
      refine pw_getf e_Reader_takeRow_16 fl_Reader_25 (ov_get hnd rfl (i := 0) rfl) rfl ?_
      refine pw_bald e_Reader_takeRow_19 (hy _ rfl) (hi0.at (by assumption)) ?_
      refine pw_iload_n e_Reader_takeRow_20 rfl ?_
      refine pw_icmp_lt (tgt := 50) e_Reader_takeRow_21 (by decide) (fun (H2 : (B (R 4).toNatClampNeg) < lo) => ?_) (fun (H2 : ¬ (B (R 4).toNatClampNeg) < lo) => ?_)
      · refine pw_vret e_Reader_takeRow_50 rfl ?_
        rw [f_Reader_takeRow_L, if_neg H1, if_pos H2] at hk
        exact hk
      · refine pw_aload_n e_Reader_takeRow_24 rfl ?_
        refine pw_getf e_Reader_takeRow_25 fl_Reader_18 (ov_get hnd rfl (i := 0) rfl) rfl ?_
        refine pw_aload_n e_Reader_takeRow_28 rfl ?_
        refine pw_getf e_Reader_takeRow_29 fl_Reader_25 (ov_get hnd rfl (i := 0) rfl) rfl ?_
        refine pw_bald e_Reader_takeRow_32 (hy _ rfl) (hi0.at (by assumption)) ?_
        refine pw_iload_n e_Reader_takeRow_33 rfl ?_
        refine pw_icmp_gt (tgt := 50) e_Reader_takeRow_34 (by decide) (fun (H3 : hi < (B (R 4).toNatClampNeg)) => ?_) (fun (H3 : ¬ hi < (B (R 4).toNatClampNeg)) => ?_)
        · refine pw_vret e_Reader_takeRow_50 rfl ?_
          rw [f_Reader_takeRow_L, if_neg H1, if_neg H2, if_pos H3] at hk
          exact hk
        · refine pw_aload_n e_Reader_takeRow_37 rfl ?_
          refine pw_dup e_Reader_takeRow_38 rfl ?_
          refine pw_getf e_Reader_takeRow_39 fl_Reader_25 (ov_get hnd rfl (i := 0) rfl) rfl ?_
          refine pw_iconst (v := nI 1) e_Reader_takeRow_42 (by decide) ?_
          refine pw_iadd e_Reader_takeRow_43 ?_
          refine pw_putO (i := 0) (l2 := [(r, .inr (7, [.int ((upd R 4 ((R 4) + 1)) 0), .int ((upd R 4 ((R 4) + 1)) 1), .ref y, .int ((upd R 4 ((R 4) + 1)) 3), .int ((upd R 4 ((R 4) + 1)) 4), .ref p, .int ((upd R 4 ((R 4) + 1)) 6), .int ((upd R 4 ((R 4) + 1)) 7), .int ((upd R 4 ((R 4) + 1)) 8), .int ((upd R 4 ((R 4) + 1)) 9), .int ((upd R 4 ((R 4) + 1)) 10)]))]) e_Reader_takeRow_44 fp_Reader_25 hnd rfl rfl (Nat.le_of_ble_eq_true rfl) rfl rfl rfl ?_
          refine pw_goto (tgt := 0) e_Reader_takeRow_47 (by decide) ?_
          refine ih (upd R 4 ((R 4) + 1)) (hi0.inc (by assumption)) (RI.muS (by assumption) hlt) ?_
          rw [f_Reader_takeRow_L, if_neg H1, if_neg H2, if_neg H3] at hk
          exact hk
theorem tr_RI (B : Nat → Int32) (lo hi : Int32) : ∀ (t : Nat) (R : Nat → Int32), RI R → RI (f_Reader_takeRow_L B lo hi t R) := by
  intro t
  induction t with
  | zero => intro R h; exact h
  | succ t ih =>
    intro R h
    rw [f_Reader_takeRow_L]
    split
    · exact h
    · rename_i q
      split
      · exact h
      · split
        · exact h
        · exact ih _ (h.inc q)
def f_Reader_takeRow (B : Nat → Int32) (lo hi : Int32) (R : Nat → Int32) : (Nat → Int32) :=
  f_Reader_takeRow_L B lo hi 901 R
set_option maxRecDepth 4000 in
theorem w_Reader_takeRow_0 {g : GG} {Q : QT} {h : Hp} {kc ks : Nat} (hst : (gl g).stackTraces = false) {r y p : Nat} (hnd : [r].Nodup) {B : Nat → Int32} (hy : ∀ l : List (Nat × va_E), l.map Prod.fst = [r] → ov h l y = some (aB g 900 B)) (lo hi : Int32)  (R : Nat → Int32) (hi0 : RI R) (hk : Q (.inl none) (ov h [(r, .inr (7, [.int ((f_Reader_takeRow B lo hi R) 0), .int ((f_Reader_takeRow B lo hi R) 1), .ref y, .int ((f_Reader_takeRow B lo hi R) 3), .int ((f_Reader_takeRow B lo hi R) 4), .ref p, .int ((f_Reader_takeRow B lo hi R) 6), .int ((f_Reader_takeRow B lo hi R) 7), .int ((f_Reader_takeRow B lo hi R) 8), .int ((f_Reader_takeRow B lo hi R) 9), .int ((f_Reader_takeRow B lo hi R) 10)]))])) : PW g M_Reader_takeRow 0 kc ks Q 0 [.ref (r), .int (lo), .int (hi)] [] (ov h [(r, .inr (7, [.int (R 0), .int (R 1), .ref y, .int (R 3), .int (R 4), .ref p, .int (R 6), .int (R 7), .int (R 8), .int (R 9), .int (R 10)]))]) := by
  refine w_Reader_takeRow_L hst hnd hy lo hi 901 R hi0 hi0.mu0 ?_
  rw [f_Reader_takeRow] at hk
  exact hk
theorem q_Reader_takeRow {g : GG} {h : Hp} (hst : (gl g).stackTraces = false) {r y p : Nat} (hnd : [r].Nodup) {B : Nat → Int32} (hy : ∀ l : List (Nat × va_E), l.map Prod.fst = [r] → ov h l y = some (aB g 900 B)) (lo hi : Int32)  (R : Nat → Int32) (hm_r : h r = some (.inr (7, [.int (R 0), .int (R 1), .ref y, .int (R 3), .int (R 4), .ref p, .int (R 6), .int (R 7), .int (R 8), .int (R 9), .int (R 10)]))) (hi0 : RI R) : PM g M_Reader_takeRow 0 0 0 [.ref (r), .int (lo), .int (hi)] h (RetV none (ov h [(r, .inr (7, [.int ((f_Reader_takeRow B lo hi R) 0), .int ((f_Reader_takeRow B lo hi R) 1), .ref y, .int ((f_Reader_takeRow B lo hi R) 3), .int ((f_Reader_takeRow B lo hi R) 4), .ref p, .int ((f_Reader_takeRow B lo hi R) 6), .int ((f_Reader_takeRow B lo hi R) 7), .int ((f_Reader_takeRow B lo hi R) 8), .int ((f_Reader_takeRow B lo hi R) 9), .int ((f_Reader_takeRow B lo hi R) 10)]))])) := by
  refine PM.of hst (by decide) rfl (fun v hv => ?_) (Nat.le_of_ble_eq_true rfl) ?_
  · simp only [List.mem_cons, List.not_mem_nil, or_false] at hv; rcases hv with rfl | rfl | rfl <;> rfl
  · have hq := w_Reader_takeRow_0 (g := g) (Q := RetV none (ov h [(r, .inr (7, [.int ((f_Reader_takeRow B lo hi R) 0), .int ((f_Reader_takeRow B lo hi R) 1), .ref y, .int ((f_Reader_takeRow B lo hi R) 3), .int ((f_Reader_takeRow B lo hi R) 4), .ref p, .int ((f_Reader_takeRow B lo hi R) 6), .int ((f_Reader_takeRow B lo hi R) 7), .int ((f_Reader_takeRow B lo hi R) 8), .int ((f_Reader_takeRow B lo hi R) 9), .int ((f_Reader_takeRow B lo hi R) 10)]))])) (h := h) (kc := 0) (ks := 0) (p := p) hst hnd hy lo hi R hi0 ?_
    · rw [ov_self (l := [(r, .inr (7, [.int (R 0), .int (R 1), .ref y, .int (R 3), .int (R 4), .ref p, .int (R 6), .int (R 7), .int (R 8), .int (R 9), .int (R 10)]))]) (by simp only [List.mem_cons, List.not_mem_nil, or_false]; rintro q (rfl) <;> assumption)] at hq; exact hq
    · exact ⟨rfl, rfl⟩

/-- the same, whatever tokenAt is -/
def RJ (R : Nat → Int32) : Prop := 0 ≤ R 4 ∧ R 4 ≤ R 3 ∧ R 3 ≤ 900
theorem RI.rj {R : Nat → Int32} (h : RI R) : RJ R := ⟨Int32.le_trans h.1 h.2.1, h.2.2.1, h.2.2.2⟩
theorem RJ.tokAt {R : Nat → Int32} (h : RJ R) : RI (upd R 10 (R 4)) := ⟨h.1, Int32.le_refl _, h.2.1, h.2.2⟩
theorem RJ.at {R : Nat → Int32} (h : RJ R) (hlt : ¬ R 3 ≤ R 4) : vp_in (R 4) 900 := h.tokAt.at hlt
theorem RJ.inc {R : Nat → Int32} (h : RJ R) (hlt : ¬ R 3 ≤ R 4) : RJ (upd R 4 (R 4 + 1)) := (h.tokAt.inc hlt).rj
theorem RJ.mu0 {R : Nat → Int32} (h : RJ R) : mu R < 901 := h.tokAt.mu0
def f_Reader_nextToken_105 (B : Nat → Int32) (R : Nat → Int32) (sg : Int32) : (Nat → Int32) :=
  if sg < 97 then if sg < 48 then if sg = 59 then upd R 9 3 else upd R 9 4 else if 57 < sg then if sg = 59 then upd R 9 3 else upd R 9 4 else f_Reader_takeRow B 48 57 (upd R 9 2) else if 122 < sg then if sg < 48 then if sg = 59 then upd R 9 3 else upd R 9 4 else if 57 < sg then if sg = 59 then upd R 9 3 else upd R 9 4 else f_Reader_takeRow B 48 57 (upd R 9 2) else f_Reader_takeRow B 97 122 (upd R 9 1)
set_option maxRecDepth 4000 in
theorem w_Reader_nextToken_105 {g : GG} {Q : QT} {h : Hp} {kc ks : Nat} (hst : (gl g).stackTraces = false) {r y p : Nat} (hnd : [r].Nodup) {B : Nat → Int32} (hy : ∀ l : List (Nat × va_E), l.map Prod.fst = [r] → ov h l y = some (aB g 900 B))  (R : Nat → Int32) (sg : Int32) (hi0 : RI R) (hk : Q (.inl none) (ov h [(r, .inr (7, [.int ((f_Reader_nextToken_105 B R sg) 0), .int ((f_Reader_nextToken_105 B R sg) 1), .ref y, .int ((f_Reader_nextToken_105 B R sg) 3), .int ((f_Reader_nextToken_105 B R sg) 4), .ref p, .int ((f_Reader_nextToken_105 B R sg) 6), .int ((f_Reader_nextToken_105 B R sg) 7), .int ((f_Reader_nextToken_105 B R sg) 8), .int ((f_Reader_nextToken_105 B R sg) 9), .int ((f_Reader_nextToken_105 B R sg) 10)]))])) : PW g M_Reader_nextToken 1 kc ks Q 105 [.ref (r), .int (sg)] [] (ov h [(r, .inr (7, [.int (R 0), .int (R 1), .ref y, .int (R 3), .int (R 4), .ref p, .int (R 6), .int (R 7), .int (R 8), .int (R 9), .int (R 10)]))]) := by
  refine pw_iload_n e_Reader_nextToken_105 rfl ?_
  refine pw_bipush (v := nI 97) e_Reader_nextToken_106 (by decide) ?_
  refine pw_icmp_lt (tgt := 133) e_Reader_nextToken_108 (by decide) (fun (H1 : sg < 97) => ?_) (fun (H1 : ¬ sg < 97) => ?_)
  · refine pw_iload_n e_Reader_nextToken_133 rfl ?_
    refine pw_bipush (v := nI 48) e_Reader_nextToken_134 (by decide) ?_
    refine pw_icmp_lt (tgt := 161) e_Reader_nextToken_136 (by decide) (fun (H2 : sg < 48) => ?_) (fun (H2 : ¬ sg < 48) => ?_)
    · refine pw_aload_n e_Reader_nextToken_161 rfl ?_
      refine pw_iload_n e_Reader_nextToken_162 rfl ?_
      refine pw_bipush (v := nI 59) e_Reader_nextToken_163 (by decide) ?_
      refine pw_icmp_ne (tgt := 172) e_Reader_nextToken_165 (by decide) (fun (H3 : ¬ sg = 59) => ?_) (fun (H3 : sg = 59) => ?_)
      · refine pw_iconst (v := nI 4) e_Reader_nextToken_172 (by decide) ?_
        refine pw_putO (i := 0) (l2 := [(r, .inr (7, [.int ((upd R 9 4) 0), .int ((upd R 9 4) 1), .ref y, .int ((upd R 9 4) 3), .int ((upd R 9 4) 4), .ref p, .int ((upd R 9 4) 6), .int ((upd R 9 4) 7), .int ((upd R 9 4) 8), .int ((upd R 9 4) 9), .int ((upd R 9 4) 10)]))]) e_Reader_nextToken_173 fp_Reader_45 hnd rfl rfl (Nat.le_of_ble_eq_true rfl) rfl rfl rfl ?_
        refine pw_vret e_Reader_nextToken_176 rfl ?_
        rw [f_Reader_nextToken_105, if_pos H1, if_pos H2, if_neg H3] at hk
        exact hk
      · refine pw_iconst (v := nI 3) e_Reader_nextToken_168 (by decide) ?_
        refine pw_goto (tgt := 173) e_Reader_nextToken_169 (by decide) ?_
        refine pw_putO (i := 0) (l2 := [(r, .inr (7, [.int ((upd R 9 3) 0), .int ((upd R 9 3) 1), .ref y, .int ((upd R 9 3) 3), .int ((upd R 9 3) 4), .ref p, .int ((upd R 9 3) 6), .int ((upd R 9 3) 7), .int ((upd R 9 3) 8), .int ((upd R 9 3) 9), .int ((upd R 9 3) 10)]))]) e_Reader_nextToken_173 fp_Reader_45 hnd rfl rfl (Nat.le_of_ble_eq_true rfl) rfl rfl rfl ?_
        refine pw_vret e_Reader_nextToken_176 rfl ?_
        rw [f_Reader_nextToken_105, if_pos H1, if_pos H2, if_pos H3] at hk
        exact hk
    · refine pw_iload_n e_Reader_nextToken_139 rfl ?_
      refine pw_bipush (v := nI 57) e_Reader_nextToken_140 (by decide) ?_
      refine pw_icmp_gt (tgt := 161) e_Reader_nextToken_142 (by decide) (fun (H4 : 57 < sg) => ?_) (fun (H4 : ¬ 57 < sg) => ?_)
      · refine pw_aload_n e_Reader_nextToken_161 rfl ?_
        refine pw_iload_n e_Reader_nextToken_162 rfl ?_
        refine pw_bipush (v := nI 59) e_Reader_nextToken_163 (by decide) ?_
        refine pw_icmp_ne (tgt := 172) e_Reader_nextToken_165 (by decide) (fun (H5 : ¬ sg = 59) => ?_) (fun (H5 : sg = 59) => ?_)
        · refine pw_iconst (v := nI 4) e_Reader_nextToken_172 (by decide) ?_
          refine pw_putO (i := 0) (l2 := [(r, .inr (7, [.int ((upd R 9 4) 0), .int ((upd R 9 4) 1), .ref y, .int ((upd R 9 4) 3), .int ((upd R 9 4) 4), .ref p, .int ((upd R 9 4) 6), .int ((upd R 9 4) 7), .int ((upd R 9 4) 8), .int ((upd R 9 4) 9), .int ((upd R 9 4) 10)]))]) e_Reader_nextToken_173 fp_Reader_45 hnd rfl rfl (Nat.le_of_ble_eq_true rfl) rfl rfl rfl ?_
          refine pw_vret e_Reader_nextToken_176 rfl ?_
          rw [f_Reader_nextToken_105, if_pos H1, if_neg H2, if_pos H4, if_neg H5] at hk
          exact hk
        · refine pw_iconst (v := nI 3) e_Reader_nextToken_168 (by decide) ?_
          refine pw_goto (tgt := 173) e_Reader_nextToken_169 (by decide) ?_
          refine pw_putO (i := 0) (l2 := [(r, .inr (7, [.int ((upd R 9 3) 0), .int ((upd R 9 3) 1), .ref y, .int ((upd R 9 3) 3), .int ((upd R 9 3) 4), .ref p, .int ((upd R 9 3) 6), .int ((upd R 9 3) 7), .int ((upd R 9 3) 8), .int ((upd R 9 3) 9), .int ((upd R 9 3) 10)]))]) e_Reader_nextToken_173 fp_Reader_45 hnd rfl rfl (Nat.le_of_ble_eq_true rfl) rfl rfl rfl ?_
          refine pw_vret e_Reader_nextToken_176 rfl ?_
          rw [f_Reader_nextToken_105, if_pos H1, if_neg H2, if_pos H4, if_pos H5] at hk
          exact hk
      · refine pw_aload_n e_Reader_nextToken_145 rfl ?_
        refine pw_iconst (v := nI 2) e_Reader_nextToken_146 (by decide) ?_
        refine pw_putO (i := 0) (l2 := [(r, .inr (7, [.int ((upd R 9 2) 0), .int ((upd R 9 2) 1), .ref y, .int ((upd R 9 2) 3), .int ((upd R 9 2) 4), .ref p, .int ((upd R 9 2) 6), .int ((upd R 9 2) 7), .int ((upd R 9 2) 8), .int ((upd R 9 2) 9), .int ((upd R 9 2) 10)]))]) e_Reader_nextToken_147 fp_Reader_45 hnd rfl rfl (Nat.le_of_ble_eq_true rfl) rfl rfl rfl ?_
        refine pw_aload_n e_Reader_nextToken_150 rfl ?_
        refine pw_bipush (v := nI 48) e_Reader_nextToken_151 (by decide) ?_
        refine pw_bipush (v := nI 57) e_Reader_nextToken_153 (by decide) ?_
        refine pw_detV (As := [.int (nI (48)), .int (nI (57))]) e_Reader_nextToken_155 li_Reader_220 rfl (ov_get hnd rfl (i := 0) rfl) (q_Reader_takeRow hst hnd (fun l hl => by rw [ov_same hnd rfl hl]; exact hy l hl) 48 57 (upd R 9 2) (ov_get hnd rfl (i := 0) rfl) (hi0.tok _)) rfl (by decide) (Nat.le_of_ble_eq_true rfl) rfl ?_
        refine pw_same (l2 := [(r, .inr (7, [.int ((f_Reader_takeRow B 48 57 (upd R 9 2)) 0), .int ((f_Reader_takeRow B 48 57 (upd R 9 2)) 1), .ref y, .int ((f_Reader_takeRow B 48 57 (upd R 9 2)) 3), .int ((f_Reader_takeRow B 48 57 (upd R 9 2)) 4), .ref p, .int ((f_Reader_takeRow B 48 57 (upd R 9 2)) 6), .int ((f_Reader_takeRow B 48 57 (upd R 9 2)) 7), .int ((f_Reader_takeRow B 48 57 (upd R 9 2)) 8), .int ((f_Reader_takeRow B 48 57 (upd R 9 2)) 9), .int ((f_Reader_takeRow B 48 57 (upd R 9 2)) 10)]))]) hnd rfl rfl ?_
        refine pw_goto (tgt := 176) e_Reader_nextToken_158 (by decide) ?_
        refine pw_vret e_Reader_nextToken_176 rfl ?_
        rw [f_Reader_nextToken_105, if_pos H1, if_neg H2, if_neg H4] at hk
        exact hk
  · refine pw_iload_n e_Reader_nextToken_111 rfl ?_
    refine pw_bipush (v := nI 122) e_Reader_nextToken_112 (by decide) ?_
    refine pw_icmp_gt (tgt := 133) e_Reader_nextToken_114 (by decide) (fun (H6 : 122 < sg) => ?_) (fun (H6 : ¬ 122 < sg) => ?_)
    · refine pw_iload_n e_Reader_nextToken_133 rfl ?_
      refine pw_bipush (v := nI 48) e_Reader_nextToken_134 (by decide) ?_
      refine pw_icmp_lt (tgt := 161) e_Reader_nextToken_136 (by decide) (fun (H7 : sg < 48) => ?_) (fun (H7 : ¬ sg < 48) => ?_)
      · refine pw_aload_n e_Reader_nextToken_161 rfl ?_
        refine pw_iload_n e_Reader_nextToken_162 rfl ?_
        refine pw_bipush (v := nI 59) e_Reader_nextToken_163 (by decide) ?_
        refine pw_icmp_ne (tgt := 172) e_Reader_nextToken_165 (by decide) (fun (H8 : ¬ sg = 59) => ?_) (fun (H8 : sg = 59) => ?_)
        · refine pw_iconst (v := nI 4) e_Reader_nextToken_172 (by decide) ?_
          refine pw_putO (i := 0) (l2 := [(r, .inr (7, [.int ((upd R 9 4) 0), .int ((upd R 9 4) 1), .ref y, .int ((upd R 9 4) 3), .int ((upd R 9 4) 4), .ref p, .int ((upd R 9 4) 6), .int ((upd R 9 4) 7), .int ((upd R 9 4) 8), .int ((upd R 9 4) 9), .int ((upd R 9 4) 10)]))]) e_Reader_nextToken_173 fp_Reader_45 hnd rfl rfl (Nat.le_of_ble_eq_true rfl) rfl rfl rfl ?_
          refine pw_vret e_Reader_nextToken_176 rfl ?_
          rw [f_Reader_nextToken_105, if_neg H1, if_pos H6, if_pos H7, if_neg H8] at hk
          exact hk
        · refine pw_iconst (v := nI 3) e_Reader_nextToken_168 (by decide) ?_
          refine pw_goto (tgt := 173) e_Reader_nextToken_169 (by decide) ?_
          refine pw_putO (i := 0) (l2 := [(r, .inr (7, [.int ((upd R 9 3) 0), .int ((upd R 9 3) 1), .ref y, .int ((upd R 9 3) 3), .int ((upd R 9 3) 4), .ref p, .int ((upd R 9 3) 6), .int ((upd R 9 3) 7), .int ((upd R 9 3) 8), .int ((upd R 9 3) 9), .int ((upd R 9 3) 10)]))]) e_Reader_nextToken_173 fp_Reader_45 hnd rfl rfl (Nat.le_of_ble_eq_true rfl) rfl rfl rfl ?_
          refine pw_vret e_Reader_nextToken_176 rfl ?_
          rw [f_Reader_nextToken_105, if_neg H1, if_pos H6, if_pos H7, if_pos H8] at hk
          exact hk
      · refine pw_iload_n e_Reader_nextToken_139 rfl ?_
        refine pw_bipush (v := nI 57) e_Reader_nextToken_140 (by decide) ?_
        refine pw_icmp_gt (tgt := 161) e_Reader_nextToken_142 (by decide) (fun (H9 : 57 < sg) => ?_) (fun (H9 : ¬ 57 < sg) => ?_)
        · refine pw_aload_n e_Reader_nextToken_161 rfl ?_
          refine pw_iload_n e_Reader_nextToken_162 rfl ?_
          refine pw_bipush (v := nI 59) e_Reader_nextToken_163 (by decide) ?_
          refine pw_icmp_ne (tgt := 172) e_Reader_nextToken_165 (by decide) (fun (H10 : ¬ sg = 59) => ?_) (fun (H10 : sg = 59) => ?_)
          · refine pw_iconst (v := nI 4) e_Reader_nextToken_172 (by decide) ?_
            refine pw_putO (i := 0) (l2 := [(r, .inr (7, [.int ((upd R 9 4) 0), .int ((upd R 9 4) 1), .ref y, .int ((upd R 9 4) 3), .int ((upd R 9 4) 4), .ref p, .int ((upd R 9 4) 6), .int ((upd R 9 4) 7), .int ((upd R 9 4) 8), .int ((upd R 9 4) 9), .int ((upd R 9 4) 10)]))]) e_Reader_nextToken_173 fp_Reader_45 hnd rfl rfl (Nat.le_of_ble_eq_true rfl) rfl rfl rfl ?_
            refine pw_vret e_Reader_nextToken_176 rfl ?_
            rw [f_Reader_nextToken_105, if_neg H1, if_pos H6, if_neg H7, if_pos H9, if_neg H10] at hk
            exact hk
          · refine pw_iconst (v := nI 3) e_Reader_nextToken_168 (by decide) ?_
            refine pw_goto (tgt := 173) e_Reader_nextToken_169 (by decide) ?_
            refine pw_putO (i := 0) (l2 := [(r, .inr (7, [.int ((upd R 9 3) 0), .int ((upd R 9 3) 1), .ref y, .int ((upd R 9 3) 3), .int ((upd R 9 3) 4), .ref p, .int ((upd R 9 3) 6), .int ((upd R 9 3) 7), .int ((upd R 9 3) 8), .int ((upd R 9 3) 9), .int ((upd R 9 3) 10)]))]) e_Reader_nextToken_173 fp_Reader_45 hnd rfl rfl (Nat.le_of_ble_eq_true rfl) rfl rfl rfl ?_
            refine pw_vret e_Reader_nextToken_176 rfl ?_
            rw [f_Reader_nextToken_105, if_neg H1, if_pos H6, if_neg H7, if_pos H9, if_pos H10] at hk
            exact hk
        · refine pw_aload_n e_Reader_nextToken_145 rfl ?_
          refine pw_iconst (v := nI 2) e_Reader_nextToken_146 (by decide) ?_
          refine pw_putO (i := 0) (l2 := [(r, .inr (7, [.int ((upd R 9 2) 0), .int ((upd R 9 2) 1), .ref y, .int ((upd R 9 2) 3), .int ((upd R 9 2) 4), .ref p, .int ((upd R 9 2) 6), .int ((upd R 9 2) 7), .int ((upd R 9 2) 8), .int ((upd R 9 2) 9), .int ((upd R 9 2) 10)]))]) e_Reader_nextToken_147 fp_Reader_45 hnd rfl rfl (Nat.le_of_ble_eq_true rfl) rfl rfl rfl ?_
          refine pw_aload_n e_Reader_nextToken_150 rfl ?_
          refine pw_bipush (v := nI 48) e_Reader_nextToken_151 (by decide) ?_
          refine pw_bipush (v := nI 57) e_Reader_nextToken_153 (by decide) ?_
          refine pw_detV (As := [.int (nI (48)), .int (nI (57))]) e_Reader_nextToken_155 li_Reader_220 rfl (ov_get hnd rfl (i := 0) rfl) (q_Reader_takeRow hst hnd (fun l hl => by rw [ov_same hnd rfl hl]; exact hy l hl) 48 57 (upd R 9 2) (ov_get hnd rfl (i := 0) rfl) (hi0.tok _)) rfl (by decide) (Nat.le_of_ble_eq_true rfl) rfl ?_
          refine pw_same (l2 := [(r, .inr (7, [.int ((f_Reader_takeRow B 48 57 (upd R 9 2)) 0), .int ((f_Reader_takeRow B 48 57 (upd R 9 2)) 1), .ref y, .int ((f_Reader_takeRow B 48 57 (upd R 9 2)) 3), .int ((f_Reader_takeRow B 48 57 (upd R 9 2)) 4), .ref p, .int ((f_Reader_takeRow B 48 57 (upd R 9 2)) 6), .int ((f_Reader_takeRow B 48 57 (upd R 9 2)) 7), .int ((f_Reader_takeRow B 48 57 (upd R 9 2)) 8), .int ((f_Reader_takeRow B 48 57 (upd R 9 2)) 9), .int ((f_Reader_takeRow B 48 57 (upd R 9 2)) 10)]))]) hnd rfl rfl ?_
          refine pw_goto (tgt := 176) e_Reader_nextToken_158 (by decide) ?_
          refine pw_vret e_Reader_nextToken_176 rfl ?_
          rw [f_Reader_nextToken_105, if_neg H1, if_pos H6, if_neg H7, if_neg H9] at hk
          exact hk
    · refine pw_aload_n e_Reader_nextToken_117 rfl ?_
      refine pw_iconst (v := nI 1) e_Reader_nextToken_118 (by decide) ?_
      refine pw_putO (i := 0) (l2 := [(r, .inr (7, [.int ((upd R 9 1) 0), .int ((upd R 9 1) 1), .ref y, .int ((upd R 9 1) 3), .int ((upd R 9 1) 4), .ref p, .int ((upd R 9 1) 6), .int ((upd R 9 1) 7), .int ((upd R 9 1) 8), .int ((upd R 9 1) 9), .int ((upd R 9 1) 10)]))]) e_Reader_nextToken_119 fp_Reader_45 hnd rfl rfl (Nat.le_of_ble_eq_true rfl) rfl rfl rfl ?_
      refine pw_aload_n e_Reader_nextToken_122 rfl ?_
      refine pw_bipush (v := nI 97) e_Reader_nextToken_123 (by decide) ?_
      refine pw_bipush (v := nI 122) e_Reader_nextToken_125 (by decide) ?_
      refine pw_detV (As := [.int (nI (97)), .int (nI (122))]) e_Reader_nextToken_127 li_Reader_220 rfl (ov_get hnd rfl (i := 0) rfl) (q_Reader_takeRow hst hnd (fun l hl => by rw [ov_same hnd rfl hl]; exact hy l hl) 97 122 (upd R 9 1) (ov_get hnd rfl (i := 0) rfl) (hi0.tok _)) rfl (by decide) (Nat.le_of_ble_eq_true rfl) rfl ?_
      refine pw_same (l2 := [(r, .inr (7, [.int ((f_Reader_takeRow B 97 122 (upd R 9 1)) 0), .int ((f_Reader_takeRow B 97 122 (upd R 9 1)) 1), .ref y, .int ((f_Reader_takeRow B 97 122 (upd R 9 1)) 3), .int ((f_Reader_takeRow B 97 122 (upd R 9 1)) 4), .ref p, .int ((f_Reader_takeRow B 97 122 (upd R 9 1)) 6), .int ((f_Reader_takeRow B 97 122 (upd R 9 1)) 7), .int ((f_Reader_takeRow B 97 122 (upd R 9 1)) 8), .int ((f_Reader_takeRow B 97 122 (upd R 9 1)) 9), .int ((f_Reader_takeRow B 97 122 (upd R 9 1)) 10)]))]) hnd rfl rfl ?_
      refine pw_goto (tgt := 176) e_Reader_nextToken_130 (by decide) ?_
      refine pw_vret e_Reader_nextToken_176 rfl ?_
      rw [f_Reader_nextToken_105, if_neg H1, if_neg H6] at hk
      exact hk
def f_Reader_nextToken_85 (B : Nat → Int32) (R : Nat → Int32) : (Nat → Int32) :=
  f_Reader_nextToken_105 B (upd R 4 ((R 4) + 1)) (B (R 4).toNatClampNeg)
set_option maxRecDepth 4000 in
theorem w_Reader_nextToken_85 {g : GG} {Q : QT} {h : Hp} {kc ks : Nat} (hst : (gl g).stackTraces = false) {r y p : Nat} (hnd : [r].Nodup) {B : Nat → Int32} (hy : ∀ l : List (Nat × va_E), l.map Prod.fst = [r] → ov h l y = some (aB g 900 B))  (R : Nat → Int32) (hi0 : RI R) (hlt : ¬ R 3 ≤ R 4) (hk : Q (.inl none) (ov h [(r, .inr (7, [.int ((f_Reader_nextToken_85 B R) 0), .int ((f_Reader_nextToken_85 B R) 1), .ref y, .int ((f_Reader_nextToken_85 B R) 3), .int ((f_Reader_nextToken_85 B R) 4), .ref p, .int ((f_Reader_nextToken_85 B R) 6), .int ((f_Reader_nextToken_85 B R) 7), .int ((f_Reader_nextToken_85 B R) 8), .int ((f_Reader_nextToken_85 B R) 9), .int ((f_Reader_nextToken_85 B R) 10)]))])) : PW g M_Reader_nextToken 1 kc ks Q 85 [.ref (r), .retAddr 0] [] (ov h [(r, .inr (7, [.int (R 0), .int (R 1), .ref y, .int (R 3), .int (R 4), .ref p, .int (R 6), .int (R 7), .int (R 8), .int (R 9), .int (R 10)]))]) := by
  refine pw_aload_n e_Reader_nextToken_85 rfl ?_
  refine pw_getf e_Reader_nextToken_86 fl_Reader_18 (ov_get hnd rfl (i := 0) rfl) rfl ?_
  refine pw_aload_n e_Reader_nextToken_89 rfl ?_
  refine pw_getf e_Reader_nextToken_90 fl_Reader_25 (ov_get hnd rfl (i := 0) rfl) rfl ?_
  refine pw_bald e_Reader_nextToken_93 (hy _ rfl) (hi0.at hlt) ?_
  refine pw_istore_n (ls2 := [_, _]) e_Reader_nextToken_94 (by decide) rfl ?_
  refine pw_aload_n e_Reader_nextToken_95 rfl ?_
  refine pw_dup e_Reader_nextToken_96 rfl ?_
  refine pw_getf e_Reader_nextToken_97 fl_Reader_25 (ov_get hnd rfl (i := 0) rfl) rfl ?_
  refine pw_iconst (v := nI 1) e_Reader_nextToken_100 (by decide) ?_
  refine pw_iadd e_Reader_nextToken_101 ?_
  refine pw_putO (i := 0) (l2 := [(r, .inr (7, [.int ((upd R 4 ((R 4) + 1)) 0), .int ((upd R 4 ((R 4) + 1)) 1), .ref y, .int ((upd R 4 ((R 4) + 1)) 3), .int ((upd R 4 ((R 4) + 1)) 4), .ref p, .int ((upd R 4 ((R 4) + 1)) 6), .int ((upd R 4 ((R 4) + 1)) 7), .int ((upd R 4 ((R 4) + 1)) 8), .int ((upd R 4 ((R 4) + 1)) 9), .int ((upd R 4 ((R 4) + 1)) 10)]))]) e_Reader_nextToken_102 fp_Reader_25 hnd rfl rfl (Nat.le_of_ble_eq_true rfl) rfl rfl rfl ?_
  refine w_Reader_nextToken_105 hst hnd hy (upd R 4 ((R 4) + 1)) (B (R 4).toNatClampNeg) (hi0.inc hlt) ?_
  rw [f_Reader_nextToken_85] at hk
  exact hk
def f_Reader_nextToken_68 (B : Nat → Int32) (R : Nat → Int32) : (Nat → Int32) :=
  if (R 4) < (R 3) then f_Reader_nextToken_85 B R else upd R 9 0
set_option maxRecDepth 4000 in
theorem w_Reader_nextToken_68 {g : GG} {Q : QT} {h : Hp} {kc ks : Nat} (hst : (gl g).stackTraces = false) {r y p : Nat} (hnd : [r].Nodup) {B : Nat → Int32} (hy : ∀ l : List (Nat × va_E), l.map Prod.fst = [r] → ov h l y = some (aB g 900 B))  (R : Nat → Int32) (hi0 : RI R) (hk : Q (.inl none) (ov h [(r, .inr (7, [.int ((f_Reader_nextToken_68 B R) 0), .int ((f_Reader_nextToken_68 B R) 1), .ref y, .int ((f_Reader_nextToken_68 B R) 3), .int ((f_Reader_nextToken_68 B R) 4), .ref p, .int ((f_Reader_nextToken_68 B R) 6), .int ((f_Reader_nextToken_68 B R) 7), .int ((f_Reader_nextToken_68 B R) 8), .int ((f_Reader_nextToken_68 B R) 9), .int ((f_Reader_nextToken_68 B R) 10)]))])) : PW g M_Reader_nextToken 1 kc ks Q 68 [.ref (r), .retAddr 0] [] (ov h [(r, .inr (7, [.int (R 0), .int (R 1), .ref y, .int (R 3), .int (R 4), .ref p, .int (R 6), .int (R 7), .int (R 8), .int (R 9), .int (R 10)]))]) := by
  refine pw_aload_n e_Reader_nextToken_68 rfl ?_
  refine pw_getf e_Reader_nextToken_69 fl_Reader_25 (ov_get hnd rfl (i := 0) rfl) rfl ?_
  refine pw_aload_n e_Reader_nextToken_72 rfl ?_
  refine pw_getf e_Reader_nextToken_73 fl_Reader_22 (ov_get hnd rfl (i := 0) rfl) rfl ?_
  refine pw_icmp_lt (tgt := 85) e_Reader_nextToken_76 (by decide) (fun (H1 : (R 4) < (R 3)) => ?_) (fun (H1 : ¬ (R 4) < (R 3)) => ?_)
  · refine w_Reader_nextToken_85 hst hnd hy R hi0 (Int32.not_le.mpr H1) ?_
    rw [f_Reader_nextToken_68, if_pos H1] at hk
    exact hk
  · refine pw_aload_n e_Reader_nextToken_79 rfl ?_
    refine pw_iconst (v := nI 0) e_Reader_nextToken_80 (by decide) ?_
    refine pw_putO (i := 0) (l2 := [(r, .inr (7, [.int ((upd R 9 0) 0), .int ((upd R 9 0) 1), .ref y, .int ((upd R 9 0) 3), .int ((upd R 9 0) 4), .ref p, .int ((upd R 9 0) 6), .int ((upd R 9 0) 7), .int ((upd R 9 0) 8), .int ((upd R 9 0) 9), .int ((upd R 9 0) 10)]))]) e_Reader_nextToken_81 fp_Reader_45 hnd rfl rfl (Nat.le_of_ble_eq_true rfl) rfl rfl rfl ?_
    refine pw_vret e_Reader_nextToken_84 rfl ?_
    rw [f_Reader_nextToken_68, if_neg H1] at hk
    exact hk
def f_Reader_nextToken_60 (B : Nat → Int32) (R : Nat → Int32) : (Nat → Int32) :=
  f_Reader_nextToken_68 B (upd R 10 (R 4))
set_option maxRecDepth 4000 in
theorem w_Reader_nextToken_60 {g : GG} {Q : QT} {h : Hp} {kc ks : Nat} (hst : (gl g).stackTraces = false) {r y p : Nat} (hnd : [r].Nodup) {B : Nat → Int32} (hy : ∀ l : List (Nat × va_E), l.map Prod.fst = [r] → ov h l y = some (aB g 900 B))  (R : Nat → Int32) (hi0 : RJ R) (hk : Q (.inl none) (ov h [(r, .inr (7, [.int ((f_Reader_nextToken_60 B R) 0), .int ((f_Reader_nextToken_60 B R) 1), .ref y, .int ((f_Reader_nextToken_60 B R) 3), .int ((f_Reader_nextToken_60 B R) 4), .ref p, .int ((f_Reader_nextToken_60 B R) 6), .int ((f_Reader_nextToken_60 B R) 7), .int ((f_Reader_nextToken_60 B R) 8), .int ((f_Reader_nextToken_60 B R) 9), .int ((f_Reader_nextToken_60 B R) 10)]))])) : PW g M_Reader_nextToken 1 kc ks Q 60 [.ref (r), .retAddr 0] [] (ov h [(r, .inr (7, [.int (R 0), .int (R 1), .ref y, .int (R 3), .int (R 4), .ref p, .int (R 6), .int (R 7), .int (R 8), .int (R 9), .int (R 10)]))]) := by
  refine pw_aload_n e_Reader_nextToken_60 rfl ?_
  refine pw_aload_n e_Reader_nextToken_61 rfl ?_
  refine pw_getf e_Reader_nextToken_62 fl_Reader_25 (ov_get hnd rfl (i := 0) rfl) rfl ?_
  refine pw_putO (i := 0) (l2 := [(r, .inr (7, [.int ((upd R 10 (R 4)) 0), .int ((upd R 10 (R 4)) 1), .ref y, .int ((upd R 10 (R 4)) 3), .int ((upd R 10 (R 4)) 4), .ref p, .int ((upd R 10 (R 4)) 6), .int ((upd R 10 (R 4)) 7), .int ((upd R 10 (R 4)) 8), .int ((upd R 10 (R 4)) 9), .int ((upd R 10 (R 4)) 10)]))]) e_Reader_nextToken_65 fp_Reader_48 hnd rfl rfl (Nat.le_of_ble_eq_true rfl) rfl rfl rfl ?_
  refine w_Reader_nextToken_68 hst hnd hy (upd R 10 (R 4)) hi0.tokAt ?_
  rw [f_Reader_nextToken_60] at hk
  exact hk
def f_Reader_nextToken_8 (B : Nat → Int32) : Nat → (Nat → Int32) → (Nat → Int32)
  | 0, R => R
  | t + 1, R => if (R 3) ≤ (R 4) then R else if (B (R 4).toNatClampNeg) = 32 then f_Reader_nextToken_8 B t (upd R 4 ((R 4) + 1)) else if (B (R 4).toNatClampNeg) = 10 then f_Reader_nextToken_8 B t (upd R 4 ((R 4) + 1)) else R
set_option maxRecDepth 4000 in
theorem w_Reader_nextToken_8 {g : GG} {Q : QT} {h : Hp} {kc ks : Nat} (hst : (gl g).stackTraces = false) {r y p : Nat} (hnd : [r].Nodup) {B : Nat → Int32} (hy : ∀ l : List (Nat × va_E), l.map Prod.fst = [r] → ov h l y = some (aB g 900 B))  (t : Nat) : ∀ (R : Nat → Int32) (hi0 : RJ R) (hlt : mu R < t) (hk : PW g M_Reader_nextToken 1 kc ks Q 60 [.ref (r), .retAddr 0] [] (ov h [(r, .inr (7, [.int ((f_Reader_nextToken_8 B t R) 0), .int ((f_Reader_nextToken_8 B t R) 1), .ref y, .int ((f_Reader_nextToken_8 B t R) 3), .int ((f_Reader_nextToken_8 B t R) 4), .ref p, .int ((f_Reader_nextToken_8 B t R) 6), .int ((f_Reader_nextToken_8 B t R) 7), .int ((f_Reader_nextToken_8 B t R) 8), .int ((f_Reader_nextToken_8 B t R) 9), .int ((f_Reader_nextToken_8 B t R) 10)]))])), PW g M_Reader_nextToken 1 kc ks Q 8 [.ref (r), .retAddr 0] [] (ov h [(r, .inr (7, [.int (R 0), .int (R 1), .ref y, .int (R 3), .int (R 4), .ref p, .int (R 6), .int (R 7), .int (R 8), .int (R 9), .int (R 10)]))]) := by
  induction t with
  | zero => intro R hi0 hlt _; exact absurd hlt (Nat.not_lt_zero _)
  | succ t ih =>
    intro R hi0 hlt hk
    refine pw_aload_n e_Reader_nextToken_8 rfl ?_
    refine pw_getf e_Reader_nextToken_9 fl_Reader_25 (ov_get hnd rfl (i := 0) rfl) rfl ?_
    refine pw_aload_n e_Reader_nextToken_12 rfl ?_
    refine pw_getf e_Reader_nextToken_13 fl_Reader_22 (ov_get hnd rfl (i := 0) rfl) rfl ?_
    refine pw_icmp_ge (tgt := 60) e_Reader_nextToken_16 (by decide) (fun (H1 : (R 3) ≤ (R 4)) => ?_) (fun (H1 : ¬ (R 3) ≤ (R 4)) => ?_)
    · rw [f_Reader_nextToken_8, if_pos H1] at hk
      exact hk
    · refine pw_aload_n e_Reader_nextToken_19 rfl ?_
      refine pw_getf e_Reader_nextToken_20 fl_Reader_18 (ov_get hnd rfl (i := 0) rfl) rfl ?_
      refine pw_aload_n e_Reader_nextToken_23 rfl ?_
      refine pw_getf e_Reader_nextToken_24 fl_Reader_25 (ov_get hnd rfl (i := 0) rfl) rfl ?_
      refine pw_bald e_Reader_nextToken_27 (hy _ rfl) (hi0.at (by assumption)) ?_
      refine pw_bipush (v := nI 32) e_Reader_nextToken_28 (by decide) ?_
      refine pw_icmp_eq (tgt := 47) e_Reader_nextToken_30 (by decide) (fun (H2 : (B (R 4).toNatClampNeg) = 32) => ?_) (fun (H2 : ¬ (B (R 4).toNatClampNeg) = 32) => ?_)
      · refine pw_aload_n e_Reader_nextToken_47 rfl ?_
        refine pw_dup e_Reader_nextToken_48 rfl ?_
        refine pw_getf e_Reader_nextToken_49 fl_Reader_25 (ov_get hnd rfl (i := 0) rfl) rfl ?_
        refine pw_iconst (v := nI 1) e_Reader_nextToken_52 (by decide) ?_
        refine pw_iadd e_Reader_nextToken_53 ?_
        refine pw_putO (i := 0) (l2 := [(r, .inr (7, [.int ((upd R 4 ((R 4) + 1)) 0), .int ((upd R 4 ((R 4) + 1)) 1), .ref y, .int ((upd R 4 ((R 4) + 1)) 3), .int ((upd R 4 ((R 4) + 1)) 4), .ref p, .int ((upd R 4 ((R 4) + 1)) 6), .int ((upd R 4 ((R 4) + 1)) 7), .int ((upd R 4 ((R 4) + 1)) 8), .int ((upd R 4 ((R 4) + 1)) 9), .int ((upd R 4 ((R 4) + 1)) 10)]))]) e_Reader_nextToken_54 fp_Reader_25 hnd rfl rfl (Nat.le_of_ble_eq_true rfl) rfl rfl rfl ?_
        refine pw_goto (tgt := 8) e_Reader_nextToken_57 (by decide) ?_
        refine ih (upd R 4 ((R 4) + 1)) (hi0.inc (by assumption)) (RI.muS (by assumption) hlt) ?_
        rw [f_Reader_nextToken_8, if_neg H1, if_pos H2] at hk
        exact hk
      · refine pw_aload_n e_Reader_nextToken_33 rfl ?_
        refine pw_getf e_Reader_nextToken_34 fl_Reader_18 (ov_get hnd rfl (i := 0) rfl) rfl ?_
        refine pw_aload_n e_Reader_nextToken_37 rfl ?_
        refine pw_getf e_Reader_nextToken_38 fl_Reader_25 (ov_get hnd rfl (i := 0) rfl) rfl ?_
        refine pw_bald e_Reader_nextToken_41 (hy _ rfl) (hi0.at (by assumption)) ?_
        refine pw_bipush (v := nI 10) e_Reader_nextToken_42 (by decide) ?_
        refine pw_icmp_ne (tgt := 60) e_Reader_nextToken_44 (by decide) (fun (H3 : ¬ (B (R 4).toNatClampNeg) = 10) => ?_) (fun (H3 : (B (R 4).toNatClampNeg) = 10) => ?_)
        · rw [f_Reader_nextToken_8, if_neg H1, if_neg H2, if_neg H3] at hk
          exact hk
        · refine pw_aload_n e_Reader_nextToken_47 rfl ?_
          refine pw_dup e_Reader_nextToken_48 rfl ?_
          refine pw_getf e_Reader_nextToken_49 fl_Reader_25 (ov_get hnd rfl (i := 0) rfl) rfl ?_
          refine pw_iconst (v := nI 1) e_Reader_nextToken_52 (by decide) ?_
          refine pw_iadd e_Reader_nextToken_53 ?_
          refine pw_putO (i := 0) (l2 := [(r, .inr (7, [.int ((upd R 4 ((R 4) + 1)) 0), .int ((upd R 4 ((R 4) + 1)) 1), .ref y, .int ((upd R 4 ((R 4) + 1)) 3), .int ((upd R 4 ((R 4) + 1)) 4), .ref p, .int ((upd R 4 ((R 4) + 1)) 6), .int ((upd R 4 ((R 4) + 1)) 7), .int ((upd R 4 ((R 4) + 1)) 8), .int ((upd R 4 ((R 4) + 1)) 9), .int ((upd R 4 ((R 4) + 1)) 10)]))]) e_Reader_nextToken_54 fp_Reader_25 hnd rfl rfl (Nat.le_of_ble_eq_true rfl) rfl rfl rfl ?_
          refine pw_goto (tgt := 8) e_Reader_nextToken_57 (by decide) ?_
          refine ih (upd R 4 ((R 4) + 1)) (hi0.inc (by assumption)) (RI.muS (by assumption) hlt) ?_
          rw [f_Reader_nextToken_8, if_neg H1, if_neg H2, if_pos H3] at hk
          exact hk
theorem nt_RJ (B : Nat → Int32) : ∀ (t : Nat) (R : Nat → Int32), RJ R → RJ (f_Reader_nextToken_8 B t R) := by
  intro t
  induction t with
  | zero => intro R h; exact h
  | succ t ih =>
    intro R h
    rw [f_Reader_nextToken_8]
    split
    · exact h
    · rename_i q
      split
      · exact ih _ (h.inc q)
      · split
        · exact ih _ (h.inc q)
        · exact h
def f_Reader_nextToken (B : Nat → Int32) (R : Nat → Int32) : (Nat → Int32) :=
  if (R 1) = 0 then f_Reader_nextToken_60 B (f_Reader_nextToken_8 B 901 R) else R
set_option maxRecDepth 4000 in
theorem w_Reader_nextToken_0 {g : GG} {Q : QT} {h : Hp} {kc ks : Nat} (hst : (gl g).stackTraces = false) {r y p : Nat} (hnd : [r].Nodup) {B : Nat → Int32} (hy : ∀ l : List (Nat × va_E), l.map Prod.fst = [r] → ov h l y = some (aB g 900 B))  (R : Nat → Int32) (hi0 : RJ R) (hk : Q (.inl none) (ov h [(r, .inr (7, [.int ((f_Reader_nextToken B R) 0), .int ((f_Reader_nextToken B R) 1), .ref y, .int ((f_Reader_nextToken B R) 3), .int ((f_Reader_nextToken B R) 4), .ref p, .int ((f_Reader_nextToken B R) 6), .int ((f_Reader_nextToken B R) 7), .int ((f_Reader_nextToken B R) 8), .int ((f_Reader_nextToken B R) 9), .int ((f_Reader_nextToken B R) 10)]))])) : PW g M_Reader_nextToken 1 kc ks Q 0 [.ref (r), .retAddr 0] [] (ov h [(r, .inr (7, [.int (R 0), .int (R 1), .ref y, .int (R 3), .int (R 4), .ref p, .int (R 6), .int (R 7), .int (R 8), .int (R 9), .int (R 10)]))]) := by
  refine pw_aload_n e_Reader_nextToken_0 rfl ?_
  refine pw_getf e_Reader_nextToken_1 fl_Reader_15 (ov_get hnd rfl (i := 0) rfl) rfl ?_
  refine pw_if_eq (tgt := 8) e_Reader_nextToken_4 (by decide) (fun (H1 : (R 1) = 0) => ?_) (fun (H1 : ¬ (R 1) = 0) => ?_)
  · refine w_Reader_nextToken_8 hst hnd hy 901 R hi0 hi0.mu0 ?_
    refine w_Reader_nextToken_60 hst hnd hy (f_Reader_nextToken_8 B 901 R) (nt_RJ B _ _ hi0) ?_
    rw [f_Reader_nextToken, if_pos H1] at hk
    exact hk
  · refine pw_vret e_Reader_nextToken_7 rfl ?_
    rw [f_Reader_nextToken, if_neg H1] at hk
    exact hk
theorem q_Reader_nextToken {g : GG} {h : Hp} (hst : (gl g).stackTraces = false) {r y p : Nat} (hnd : [r].Nodup) {B : Nat → Int32} (hy : ∀ l : List (Nat × va_E), l.map Prod.fst = [r] → ov h l y = some (aB g 900 B))  (R : Nat → Int32) (hm_r : h r = some (.inr (7, [.int (R 0), .int (R 1), .ref y, .int (R 3), .int (R 4), .ref p, .int (R 6), .int (R 7), .int (R 8), .int (R 9), .int (R 10)]))) (hi0 : RJ R) : PM g M_Reader_nextToken 1 0 0 [.ref (r)] h (RetV none (ov h [(r, .inr (7, [.int ((f_Reader_nextToken B R) 0), .int ((f_Reader_nextToken B R) 1), .ref y, .int ((f_Reader_nextToken B R) 3), .int ((f_Reader_nextToken B R) 4), .ref p, .int ((f_Reader_nextToken B R) 6), .int ((f_Reader_nextToken B R) 7), .int ((f_Reader_nextToken B R) 8), .int ((f_Reader_nextToken B R) 9), .int ((f_Reader_nextToken B R) 10)]))])) := by
  refine PM.of hst (by decide) rfl (fun v hv => ?_) (Nat.le_of_ble_eq_true rfl) ?_
  · simp only [List.mem_cons, List.not_mem_nil, or_false] at hv; rcases hv with rfl <;> rfl
  · have hq := w_Reader_nextToken_0 (g := g) (Q := RetV none (ov h [(r, .inr (7, [.int ((f_Reader_nextToken B R) 0), .int ((f_Reader_nextToken B R) 1), .ref y, .int ((f_Reader_nextToken B R) 3), .int ((f_Reader_nextToken B R) 4), .ref p, .int ((f_Reader_nextToken B R) 6), .int ((f_Reader_nextToken B R) 7), .int ((f_Reader_nextToken B R) 8), .int ((f_Reader_nextToken B R) 9), .int ((f_Reader_nextToken B R) 10)]))])) (h := h) (kc := 0) (ks := 0) (p := p) hst hnd hy R hi0 ?_
    · rw [ov_self (l := [(r, .inr (7, [.int (R 0), .int (R 1), .ref y, .int (R 3), .int (R 4), .ref p, .int (R 6), .int (R 7), .int (R 8), .int (R 9), .int (R 10)]))]) (by simp only [List.mem_cons, List.not_mem_nil, or_false]; rintro q (rfl) <;> assumption)] at hq; exact hq
    · exact ⟨rfl, rfl⟩

theorem t1_RI {B : Nat → Int32} {R : Nat → Int32} {lo hi : Int32} (h : RI R) : RI (f_Reader_takeRow B lo hi R) := by
  rw [f_Reader_takeRow]; exact tr_RI B lo hi 901 _ h
theorem n105_RI {B : Nat → Int32} {R : Nat → Int32} {sg : Int32} (h : RI R) : RI (f_Reader_nextToken_105 B R sg) := by
  have h1 : ∀ v, RI (upd R 9 v) := fun v => h.tok v
  have h2 : ∀ lo hi v, RI (f_Reader_takeRow B lo hi (upd R 9 v)) := fun lo hi v => t1_RI (h1 v)
  rw [f_Reader_nextToken_105]
  generalize upd R 9 = u at h1 h2
  split
  · split
    · split
      · exact h1 _
      · exact h1 _
    · split
      · split
        · exact h1 _
        · exact h1 _
      · exact h2 _ _ _
  · split
    · split
      · split
        · exact h1 _
        · exact h1 _
      · split
        · split
          · exact h1 _
          · exact h1 _
        · exact h2 _ _ _
    · exact h2 _ _ _
theorem n85_RI {B : Nat → Int32} {R : Nat → Int32} (h : RI R) (hlt : ¬ R 3 ≤ R 4) : RI (f_Reader_nextToken_85 B R) := by
  rw [f_Reader_nextToken_85]; exact n105_RI (h.inc hlt)
theorem n68_RI {B : Nat → Int32} {R : Nat → Int32} (h : RI R) : RI (f_Reader_nextToken_68 B R) := by
  rw [f_Reader_nextToken_68]
  split
  · rename_i q; exact n85_RI h (Int32.not_le.mpr q)
  · exact h.tok _
theorem nx_RI {B : Nat → Int32} {R : Nat → Int32} (h : RI R) : RI (f_Reader_nextToken B R) := by
  rw [f_Reader_nextToken]
  split
  · rw [f_Reader_nextToken_60]; exact n68_RI (nt_RJ B 901 R h.rj).tokAt
  · exact h
theorem nx_RJ {B : Nat → Int32} {R : Nat → Int32} (h : RJ R) (h0 : R 1 = 0) : RI (f_Reader_nextToken B R) := by
  rw [f_Reader_nextToken, if_pos h0, f_Reader_nextToken_60]; exact n68_RI (nt_RJ B 901 R h).tokAt
theorem fail_RI {x : Int32} {R : Nat → Int32} (h : RI R) : RI (f_Reader_fail x R) := by
  rw [f_Reader_fail]
  split
  · exact (h.put _ (by decide) (by decide) (by decide)).put _ (by decide) (by decide) (by decide)
  · exact h
theorem nar01 {x : Int32} (h : x = 0 ∨ x = 1) : narrow .boolean (.int x) = .int x := by rcases h with rfl | rfl <;> decide
theorem RI.wd {R : Nat → Int32} {n k : Nat} (h : RI R) (he : R 4 - R 10 = nI n) (hn : n < 8) (hk : k < n) : vp_in (R 10 + nI k) 900 := by
  obtain ⟨a, b, c, d⟩ := h
  have a' := i_le.mp a; have b' := i_le.mp b; have c' := i_le.mp c; have d' := i_le.mp d
  have e : (900 : Int32).toInt = 900 := by decide
  have z : (0 : Int32).toInt = 0 := by decide
  have h1 : (R 4 - R 10).toInt = (R 4).toInt - (R 10).toInt := by
    rw [Int32.toInt_sub]; exact Int.bmod_eq_of_le (by omega) (by omega)
  rw [he, nI_toInt (by omega)] at h1
  have h2 : (R 10 + nI k).toInt = (R 10).toInt + k := by
    rw [Int32.toInt_add, nI_toInt (by omega)]; exact Int.bmod_eq_of_le (by omega) (by omega)
  exact i_in (i_le.mpr (by omega)) (by omega)
theorem RI.num {R : Nat → Int32} {x : Int32} (h : RI R) (h0 : 0 ≤ x) (hx : ¬ R 4 ≤ x) : vp_in x 900 := by
  obtain ⟨a, b, c, d⟩ := h
  have c' := i_le.mp c; have d' := i_le.mp d
  have e : (900 : Int32).toInt = 900 := by decide
  rw [i_le] at hx
  exact i_in h0 (by omega)
theorem i_inc0 {x y : Int32} (h0 : 0 ≤ x) (hx : ¬ y ≤ x) : 0 ≤ x + 1 := by
  have := i_inc (Int32.not_le.mp hx)
  have z : (0 : Int32).toInt = 0 := by decide
  have := i_le.mp h0
  rw [i_le]; omega
def muN (R : Nat → Int32) (x : Int32) : Nat := ((R 4).toInt - x.toInt).toNat
theorem muN0 {R : Nat → Int32} {x : Int32} (h : RI R) (h0 : 0 ≤ x) : muN R x < 901 := by
  obtain ⟨a, b, c, d⟩ := h
  have c' := i_le.mp c; have d' := i_le.mp d; have h0' := i_le.mp h0
  have e : (900 : Int32).toInt = 900 := by decide
  have z : (0 : Int32).toInt = 0 := by decide
  unfold muN; omega
theorem muNS {R : Nat → Int32} {x : Int32} {t : Nat} (hx : ¬ R 4 ≤ x) (ht : muN R x < t + 1) : muN R (x + 1) < t := by
  have := i_inc (Int32.not_le.mp hx)
  rw [i_le] at hx
  unfold muN at ht ⊢; omega
def f_Reader_isWord_28 (B R : Nat → Int32) (i : Nat) : Nat → (Nat) → Int32
  | 0, _ => 0
  | t + 1, k => if (strL i) ≤ k then 1 else if (B ((R 10) + (nI (k))).toNatClampNeg) = (strC i k) then f_Reader_isWord_28 B R i t (k + 1) else 0
set_option maxRecDepth 4000 in
theorem w_Reader_isWord_28 {g : GG} {Q : QT} {h : Hp} {kc ks : Nat} (hst : (gl g).stackTraces = false) {r y p : Nat} {B : Nat → Int32} (R : Nat → Int32) (hr0 : h r = some (.inr (7, [.int (R 0), .int (R 1), .ref y, .int (R 3), .int (R 4), .ref p, .int (R 6), .int (R 7), .int (R 8), .int (R 9), .int (R 10)]))) (hy0 : h y = some (aB g 900 B)) (hi0 : RI R) (i : Nat) (hi19 : i < 19)  (t : Nat) : ∀ (k : Nat) (hk1 : k < 9) (hlen : R 4 - R 10 = nI (strL i)) (hlt : 8 - k < t) (hk : Q (.inl (some (.int (f_Reader_isWord_28 B R i t k)))) h), PW g M_Reader_isWord 4 kc ks Q 28 [.ref (r), .ref (gk g i), .int (nI (k))] [] h := by
  induction t with
  | zero => intro k hk1 hlen hlt _; exact absurd hlt (Nat.not_lt_zero _)
  | succ t ih =>
    intro k hk1 hlen hlt hk
    have hlt8 := strL_lt i hi19
    refine pw_iload_n e_Reader_isWord_28 rfl ?_
    refine pw_aload_n e_Reader_isWord_29 rfl ?_
    refine pw_detT (As := []) e_Reader_isWord_30 li_Reader_224 rfl hi19 (q_length hst i hi19) rfl (by decide) (Nat.le_of_ble_eq_true rfl) rfl ?_
    refine pw_icmp_geN (tgt := 63) e_Reader_isWord_33 (by decide) (by omega) (by omega) (fun (H1 : (strL i) ≤ k) => ?_) (fun (H1 : k < (strL i)) => ?_)
    · refine pw_iconst (v := nI 1) e_Reader_isWord_63 (by decide) ?_
      refine pw_iret e_Reader_isWord_64 rfl (by decide) ?_
      rw [f_Reader_isWord_28, if_pos H1] at hk
      exact hk
    · refine pw_aload_n e_Reader_isWord_36 rfl ?_
      refine pw_getf e_Reader_isWord_37 fl_Reader_18 hr0 rfl ?_
      refine pw_aload_n e_Reader_isWord_40 rfl ?_
      refine pw_getf e_Reader_isWord_41 fl_Reader_48 hr0 rfl ?_
      refine pw_iload_n e_Reader_isWord_44 rfl ?_
      refine pw_iadd e_Reader_isWord_45 ?_
      refine pw_bald e_Reader_isWord_46 hy0 (hi0.wd hlen hlt8 (by omega)) ?_
      refine pw_aload_n e_Reader_isWord_47 rfl ?_
      refine pw_iload_n e_Reader_isWord_48 rfl ?_
      refine pw_detT (As := [.int (nI (k))]) e_Reader_isWord_49 li_Reader_228 rfl hi19 (q_charAt hst i k hi19 (by omega)) rfl (by decide) (Nat.le_of_ble_eq_true rfl) rfl ?_
      refine pw_icmp_eq (tgt := 57) e_Reader_isWord_52 (by decide) (fun (H2 : (B ((R 10) + (nI (k))).toNatClampNeg) = (strC i k)) => ?_) (fun (H2 : ¬ (B ((R 10) + (nI (k))).toNatClampNeg) = (strC i k)) => ?_)
      · refine pw_iincN (ls2 := [_, _, _]) e_Reader_isWord_57 rfl (by decide) rfl ?_
        refine pw_goto (tgt := 28) e_Reader_isWord_60 (by decide) ?_
        refine ih (k + 1) (by omega) (by first | assumption | exact hlen) (by omega) ?_
        rw [f_Reader_isWord_28, if_neg (Nat.not_le.mpr H1), if_pos H2] at hk
        exact hk
      · refine pw_iconst (v := nI 0) e_Reader_isWord_55 (by decide) ?_
        refine pw_iret e_Reader_isWord_56 rfl (by decide) ?_
        rw [f_Reader_isWord_28, if_neg (Nat.not_le.mpr H1), if_neg H2] at hk
        exact hk
def f_Reader_isWord (B R : Nat → Int32) (i : Nat) : Int32 :=
  if (R 9) = 1 then if ((R 4) - (R 10)) = (nI (strL i)) then f_Reader_isWord_28 B R i 9 0 else 0 else 0
set_option maxRecDepth 4000 in
theorem w_Reader_isWord_0 {g : GG} {Q : QT} {h : Hp} {kc ks : Nat} (hst : (gl g).stackTraces = false) {r y p : Nat} {B : Nat → Int32} (R : Nat → Int32) (hr0 : h r = some (.inr (7, [.int (R 0), .int (R 1), .ref y, .int (R 3), .int (R 4), .ref p, .int (R 6), .int (R 7), .int (R 8), .int (R 9), .int (R 10)]))) (hy0 : h y = some (aB g 900 B)) (hi0 : RI R) (i : Nat) (hi19 : i < 19)  (hk : Q (.inl (some (.int (f_Reader_isWord B R i)))) h) : PW g M_Reader_isWord 4 kc ks Q 0 [.ref (r), .ref (gk g i), .retAddr 0] [] h := by
  have hlt8 := strL_lt i hi19
  refine pw_aload_n e_Reader_isWord_0 rfl ?_
  refine pw_getf e_Reader_isWord_1 fl_Reader_45 hr0 rfl ?_
  refine pw_iconst (v := nI 1) e_Reader_isWord_4 (by decide) ?_
  refine pw_icmp_ne (tgt := 24) e_Reader_isWord_5 (by decide) (fun (H1 : ¬ (R 9) = 1) => ?_) (fun (H1 : (R 9) = 1) => ?_)
  · refine pw_iconst (v := nI 0) e_Reader_isWord_24 (by decide) ?_
    refine pw_iret e_Reader_isWord_25 rfl (by decide) ?_
    rw [f_Reader_isWord, if_neg H1] at hk
    exact hk
  · refine pw_aload_n e_Reader_isWord_8 rfl ?_
    refine pw_getf e_Reader_isWord_9 fl_Reader_25 hr0 rfl ?_
    refine pw_aload_n e_Reader_isWord_12 rfl ?_
    refine pw_getf e_Reader_isWord_13 fl_Reader_48 hr0 rfl ?_
    refine pw_isub e_Reader_isWord_16 ?_
    refine pw_aload_n e_Reader_isWord_17 rfl ?_
    refine pw_detT (As := []) e_Reader_isWord_18 li_Reader_224 rfl hi19 (q_length hst i hi19) rfl (by decide) (Nat.le_of_ble_eq_true rfl) rfl ?_
    refine pw_icmp_eq (tgt := 26) e_Reader_isWord_21 (by decide) (fun (H2 : ((R 4) - (R 10)) = (nI (strL i))) => ?_) (fun (H2 : ¬ ((R 4) - (R 10)) = (nI (strL i))) => ?_)
    · refine pw_iconst (v := nI 0) e_Reader_isWord_26 (by decide) ?_
      refine pw_istore_n (ls2 := [_, _, _]) e_Reader_isWord_27 (by decide) rfl ?_
      refine w_Reader_isWord_28 hst R hr0 hy0 hi0 i hi19 9 0 (by omega) (by first | assumption | exact hlen) (by omega) ?_
      rw [f_Reader_isWord, if_pos H1, if_pos H2] at hk
      exact hk
    · refine pw_iconst (v := nI 0) e_Reader_isWord_24 (by decide) ?_
      refine pw_iret e_Reader_isWord_25 rfl (by decide) ?_
      rw [f_Reader_isWord, if_pos H1, if_neg H2] at hk
      exact hk
theorem q_Reader_isWord {g : GG} {h : Hp} (hst : (gl g).stackTraces = false) {r y p : Nat} {B : Nat → Int32} (R : Nat → Int32) (hr0 : h r = some (.inr (7, [.int (R 0), .int (R 1), .ref y, .int (R 3), .int (R 4), .ref p, .int (R 6), .int (R 7), .int (R 8), .int (R 9), .int (R 10)]))) (hy0 : h y = some (aB g 900 B)) (hi0 : RI R) (i : Nat) (hi19 : i < 19)  : PM g M_Reader_isWord 4 0 0 [.ref (r), .ref (gk g i)] h (RetV (some (.int (f_Reader_isWord B R i))) h) := by
  refine PM.of hst (by decide) rfl (fun v hv => ?_) (Nat.le_of_ble_eq_true rfl) ?_
  · simp only [List.mem_cons, List.not_mem_nil, or_false] at hv; rcases hv with rfl | rfl <;> rfl
  · have hq := w_Reader_isWord_0 (g := g) (Q := RetV (some (.int (f_Reader_isWord B R i))) h) (h := h) (kc := 0) (ks := 0) hst R hr0 hy0 hi0 i hi19 ?_
    · exact hq
    · exact ⟨rfl, rfl⟩
theorem iw01 (B R : Nat → Int32) (i : Nat) : f_Reader_isWord B R i = 0 ∨ f_Reader_isWord B R i = 1 := by
  have h : ∀ t k, f_Reader_isWord_28 B R i t k = 0 ∨ f_Reader_isWord_28 B R i t k = 1 := by
    intro t
    induction t with
    | zero => intro k; exact Or.inl rfl
    | succ t ih => intro k; rw [f_Reader_isWord_28]; repeat' split
                   all_goals first | exact Or.inl rfl | exact Or.inr rfl | exact ih _
  rw [f_Reader_isWord]
  repeat' split
  all_goals first | exact Or.inl rfl | exact Or.inr rfl | exact h _ _

def f_Reader_numberOfToken_22 (B R : Nat → Int32) : Nat → (Int32) → (Int32) → Int32
  | 0, _, _ => 0
  | t + 1, m, x => if (R 4) ≤ x then m else f_Reader_numberOfToken_22 B R t (((m * 10) + (B (x).toNatClampNeg)) - 48) (x + 1)
set_option maxRecDepth 4000 in
theorem w_Reader_numberOfToken_22 {g : GG} {Q : QT} {h : Hp} {kc ks : Nat} (hst : (gl g).stackTraces = false) {r y p : Nat} {B : Nat → Int32} (R : Nat → Int32) (hr0 : h r = some (.inr (7, [.int (R 0), .int (R 1), .ref y, .int (R 3), .int (R 4), .ref p, .int (R 6), .int (R 7), .int (R 8), .int (R 9), .int (R 10)]))) (hy0 : h y = some (aB g 900 B)) (hi0 : RI R)  (t : Nat) : ∀ (m : Int32) (x : Int32) (hx0 : 0 ≤ x) (hlt : muN R x < t) (hk : Q (.inl (some (.int (f_Reader_numberOfToken_22 B R t m x)))) h), PW g M_Reader_numberOfToken 0 kc ks Q 22 [.ref (r), .int (m), .int (x)] [] h := by
  induction t with
  | zero => intro m x hx0 hlt _; exact absurd hlt (Nat.not_lt_zero _)
  | succ t ih =>
    intro m x hx0 hlt hk
    refine pw_iload_n e_Reader_numberOfToken_22 rfl ?_
    refine pw_aload_n e_Reader_numberOfToken_23 rfl ?_
    refine pw_getf e_Reader_numberOfToken_24 fl_Reader_25 hr0 rfl ?_
    refine pw_icmp_ge (tgt := 51) e_Reader_numberOfToken_27 (by decide) (fun (H1 : (R 4) ≤ x) => ?_) (fun (H1 : ¬ (R 4) ≤ x) => ?_)
    · refine pw_iload_n e_Reader_numberOfToken_51 rfl ?_
      refine pw_iret e_Reader_numberOfToken_52 rfl rfl ?_
      rw [f_Reader_numberOfToken_22, if_pos H1] at hk
      exact hk
    · refine pw_iload_n e_Reader_numberOfToken_30 rfl ?_
      refine pw_bipush (v := nI 10) e_Reader_numberOfToken_31 (by decide) ?_
      refine pw_imul e_Reader_numberOfToken_33 ?_
      refine pw_aload_n e_Reader_numberOfToken_34 rfl ?_
      refine pw_getf e_Reader_numberOfToken_35 fl_Reader_18 hr0 rfl ?_
      refine pw_iload_n e_Reader_numberOfToken_38 rfl ?_
      refine pw_bald e_Reader_numberOfToken_39 hy0 (hi0.num hx0 (by assumption)) ?_
      refine pw_iadd e_Reader_numberOfToken_40 ?_
      refine pw_bipush (v := nI 48) e_Reader_numberOfToken_41 (by decide) ?_
      refine pw_isub e_Reader_numberOfToken_43 ?_
      refine pw_istore_n (ls2 := [_, _, _]) e_Reader_numberOfToken_44 (by decide) rfl ?_
      refine pw_iinc (v := x + 1) (ls2 := [_, _, _]) e_Reader_numberOfToken_45 rfl rfl (by decide) rfl ?_
      refine pw_goto (tgt := 22) e_Reader_numberOfToken_48 (by decide) ?_
      refine ih (((m * 10) + (B (x).toNatClampNeg)) - 48) (x + 1) (i_inc0 hx0 (by assumption)) (muNS (by assumption) hlt) ?_
      rw [f_Reader_numberOfToken_22, if_neg H1] at hk
      exact hk
def f_Reader_numberOfToken (B R : Nat → Int32) : Int32 :=
  if ((R 4) - (R 10)) ≤ 4 then f_Reader_numberOfToken_22 B R 901 0 (R 10) else (-1)
set_option maxRecDepth 4000 in
theorem w_Reader_numberOfToken_0 {g : GG} {Q : QT} {h : Hp} {kc ks : Nat} (hst : (gl g).stackTraces = false) {r y p : Nat} {B : Nat → Int32} (R : Nat → Int32) (hr0 : h r = some (.inr (7, [.int (R 0), .int (R 1), .ref y, .int (R 3), .int (R 4), .ref p, .int (R 6), .int (R 7), .int (R 8), .int (R 9), .int (R 10)]))) (hy0 : h y = some (aB g 900 B)) (hi0 : RI R)  (hk : Q (.inl (some (.int (f_Reader_numberOfToken B R)))) h) : PW g M_Reader_numberOfToken 0 kc ks Q 0 [.ref (r), .retAddr 0, .retAddr 0] [] h := by
  refine pw_aload_n e_Reader_numberOfToken_0 rfl ?_
  refine pw_getf e_Reader_numberOfToken_1 fl_Reader_25 hr0 rfl ?_
  refine pw_aload_n e_Reader_numberOfToken_4 rfl ?_
  refine pw_getf e_Reader_numberOfToken_5 fl_Reader_48 hr0 rfl ?_
  refine pw_isub e_Reader_numberOfToken_8 ?_
  refine pw_iconst (v := nI 4) e_Reader_numberOfToken_9 (by decide) ?_
  refine pw_icmp_le (tgt := 15) e_Reader_numberOfToken_10 (by decide) (fun (H1 : ((R 4) - (R 10)) ≤ 4) => ?_) (fun (H1 : ¬ ((R 4) - (R 10)) ≤ 4) => ?_)
  · refine pw_iconst (v := nI 0) e_Reader_numberOfToken_15 (by decide) ?_
    refine pw_istore_n (ls2 := [_, _, _]) e_Reader_numberOfToken_16 (by decide) rfl ?_
    refine pw_aload_n e_Reader_numberOfToken_17 rfl ?_
    refine pw_getf e_Reader_numberOfToken_18 fl_Reader_48 hr0 rfl ?_
    refine pw_istore_n (ls2 := [_, _, _]) e_Reader_numberOfToken_21 (by decide) rfl ?_
    refine w_Reader_numberOfToken_22 hst R hr0 hy0 hi0 901 0 (R 10) hi0.1 (muN0 hi0 hi0.1) ?_
    rw [f_Reader_numberOfToken, if_pos H1] at hk
    exact hk
  · refine pw_iconst (v := (-1)) e_Reader_numberOfToken_13 (by decide) ?_
    refine pw_iret e_Reader_numberOfToken_14 rfl rfl ?_
    rw [f_Reader_numberOfToken, if_neg H1] at hk
    exact hk
theorem q_Reader_numberOfToken {g : GG} {h : Hp} (hst : (gl g).stackTraces = false) {r y p : Nat} {B : Nat → Int32} (R : Nat → Int32) (hr0 : h r = some (.inr (7, [.int (R 0), .int (R 1), .ref y, .int (R 3), .int (R 4), .ref p, .int (R 6), .int (R 7), .int (R 8), .int (R 9), .int (R 10)]))) (hy0 : h y = some (aB g 900 B)) (hi0 : RI R)  : PM g M_Reader_numberOfToken 0 0 0 [.ref (r)] h (RetV (some (.int (f_Reader_numberOfToken B R))) h) := by
  refine PM.of hst (by decide) rfl (fun v hv => ?_) (Nat.le_of_ble_eq_true rfl) ?_
  · simp only [List.mem_cons, List.not_mem_nil, or_false] at hv; rcases hv with rfl <;> rfl
  · have hq := w_Reader_numberOfToken_0 (g := g) (Q := RetV (some (.int (f_Reader_numberOfToken B R))) h) (h := h) (kc := 0) (ks := 0) hst R hr0 hy0 hi0 ?_
    · exact hq
    · exact ⟨rfl, rfl⟩

def f_Reader_readNumber_39 (B : Nat → Int32) (lo hi : Int32) (R : Nat → Int32) (nu : Int32) : Int32 × (Nat → Int32) :=
  if (R 1) = 0 then (nu, R) else (lo, R)
set_option maxRecDepth 4000 in
theorem w_Reader_readNumber_39 {g : GG} {Q : QT} {h : Hp} {kc ks : Nat} (hst : (gl g).stackTraces = false) {r y p : Nat} (hnd : [r].Nodup) {B : Nat → Int32} (hy : ∀ l : List (Nat × va_E), l.map Prod.fst = [r] → ov h l y = some (aB g 900 B)) (lo hi : Int32)  (R : Nat → Int32) (nu : Int32) (hk : Q (.inl (some (.int (f_Reader_readNumber_39 B lo hi R nu).1))) (ov h [(r, .inr (7, [.int (((f_Reader_readNumber_39 B lo hi R nu).2) 0), .int (((f_Reader_readNumber_39 B lo hi R nu).2) 1), .ref y, .int (((f_Reader_readNumber_39 B lo hi R nu).2) 3), .int (((f_Reader_readNumber_39 B lo hi R nu).2) 4), .ref p, .int (((f_Reader_readNumber_39 B lo hi R nu).2) 6), .int (((f_Reader_readNumber_39 B lo hi R nu).2) 7), .int (((f_Reader_readNumber_39 B lo hi R nu).2) 8), .int (((f_Reader_readNumber_39 B lo hi R nu).2) 9), .int (((f_Reader_readNumber_39 B lo hi R nu).2) 10)]))])) : PW g M_Reader_readNumber 2 kc ks Q 39 [.ref (r), .int (lo), .int (hi), .int (nu)] [] (ov h [(r, .inr (7, [.int (R 0), .int (R 1), .ref y, .int (R 3), .int (R 4), .ref p, .int (R 6), .int (R 7), .int (R 8), .int (R 9), .int (R 10)]))]) := by
  refine pw_aload_n e_Reader_readNumber_39 rfl ?_
  refine pw_getf e_Reader_readNumber_40 fl_Reader_15 (ov_get hnd rfl (i := 0) rfl) rfl ?_
  refine pw_if_ne (tgt := 50) e_Reader_readNumber_43 (by decide) (fun (H1 : ¬ (R 1) = 0) => ?_) (fun (H1 : (R 1) = 0) => ?_)
  · refine pw_iload_n e_Reader_readNumber_50 rfl ?_
    refine pw_iret e_Reader_readNumber_51 rfl rfl ?_
    rw [f_Reader_readNumber_39, if_neg H1] at hk
    exact hk
  · refine pw_iload_n e_Reader_readNumber_46 rfl ?_
    refine pw_goto (tgt := 51) e_Reader_readNumber_47 (by decide) ?_
    refine pw_iret e_Reader_readNumber_51 rfl rfl ?_
    rw [f_Reader_readNumber_39, if_pos H1] at hk
    exact hk
def f_Reader_readNumber_24 (B : Nat → Int32) (lo hi : Int32) (R : Nat → Int32) (nu : Int32) : Int32 × (Nat → Int32) :=
  if nu < lo then f_Reader_readNumber_39 B lo hi (f_Reader_fail 2 R) nu else if nu ≤ hi then f_Reader_readNumber_39 B lo hi R nu else f_Reader_readNumber_39 B lo hi (f_Reader_fail 2 R) nu
set_option maxRecDepth 4000 in
theorem w_Reader_readNumber_24 {g : GG} {Q : QT} {h : Hp} {kc ks : Nat} (hst : (gl g).stackTraces = false) {r y p : Nat} (hnd : [r].Nodup) {B : Nat → Int32} (hy : ∀ l : List (Nat × va_E), l.map Prod.fst = [r] → ov h l y = some (aB g 900 B)) (lo hi : Int32)  (R : Nat → Int32) (nu : Int32) (hk : Q (.inl (some (.int (f_Reader_readNumber_24 B lo hi R nu).1))) (ov h [(r, .inr (7, [.int (((f_Reader_readNumber_24 B lo hi R nu).2) 0), .int (((f_Reader_readNumber_24 B lo hi R nu).2) 1), .ref y, .int (((f_Reader_readNumber_24 B lo hi R nu).2) 3), .int (((f_Reader_readNumber_24 B lo hi R nu).2) 4), .ref p, .int (((f_Reader_readNumber_24 B lo hi R nu).2) 6), .int (((f_Reader_readNumber_24 B lo hi R nu).2) 7), .int (((f_Reader_readNumber_24 B lo hi R nu).2) 8), .int (((f_Reader_readNumber_24 B lo hi R nu).2) 9), .int (((f_Reader_readNumber_24 B lo hi R nu).2) 10)]))])) : PW g M_Reader_readNumber 2 kc ks Q 24 [.ref (r), .int (lo), .int (hi), .int (nu)] [] (ov h [(r, .inr (7, [.int (R 0), .int (R 1), .ref y, .int (R 3), .int (R 4), .ref p, .int (R 6), .int (R 7), .int (R 8), .int (R 9), .int (R 10)]))]) := by
  refine pw_iload_n e_Reader_readNumber_24 rfl ?_
  refine pw_iload_n e_Reader_readNumber_25 rfl ?_
  refine pw_icmp_lt (tgt := 34) e_Reader_readNumber_26 (by decide) (fun (H1 : nu < lo) => ?_) (fun (H1 : ¬ nu < lo) => ?_)
  · refine pw_aload_n e_Reader_readNumber_34 rfl ?_
    refine pw_iconst (v := nI 2) e_Reader_readNumber_35 (by decide) ?_
    refine pw_detV (As := [.int (nI (2))]) e_Reader_readNumber_36 li_Reader_100 rfl (ov_get hnd rfl (i := 0) rfl) (q_Reader_fail hst hnd 2 R (ov_get hnd rfl (i := 0) rfl)) rfl (by decide) (Nat.le_of_ble_eq_true rfl) rfl ?_
    refine pw_same (l2 := [(r, .inr (7, [.int ((f_Reader_fail 2 R) 0), .int ((f_Reader_fail 2 R) 1), .ref y, .int ((f_Reader_fail 2 R) 3), .int ((f_Reader_fail 2 R) 4), .ref p, .int ((f_Reader_fail 2 R) 6), .int ((f_Reader_fail 2 R) 7), .int ((f_Reader_fail 2 R) 8), .int ((f_Reader_fail 2 R) 9), .int ((f_Reader_fail 2 R) 10)]))]) hnd rfl rfl ?_
    refine w_Reader_readNumber_39 hst hnd hy lo hi (f_Reader_fail 2 R) nu ?_
    rw [f_Reader_readNumber_24, if_pos H1] at hk
    exact hk
  · refine pw_iload_n e_Reader_readNumber_29 rfl ?_
    refine pw_iload_n e_Reader_readNumber_30 rfl ?_
    refine pw_icmp_le (tgt := 39) e_Reader_readNumber_31 (by decide) (fun (H2 : nu ≤ hi) => ?_) (fun (H2 : ¬ nu ≤ hi) => ?_)
    · refine w_Reader_readNumber_39 hst hnd hy lo hi R nu ?_
      rw [f_Reader_readNumber_24, if_neg H1, if_pos H2] at hk
      exact hk
    · refine pw_aload_n e_Reader_readNumber_34 rfl ?_
      refine pw_iconst (v := nI 2) e_Reader_readNumber_35 (by decide) ?_
      refine pw_detV (As := [.int (nI (2))]) e_Reader_readNumber_36 li_Reader_100 rfl (ov_get hnd rfl (i := 0) rfl) (q_Reader_fail hst hnd 2 R (ov_get hnd rfl (i := 0) rfl)) rfl (by decide) (Nat.le_of_ble_eq_true rfl) rfl ?_
      refine pw_same (l2 := [(r, .inr (7, [.int ((f_Reader_fail 2 R) 0), .int ((f_Reader_fail 2 R) 1), .ref y, .int ((f_Reader_fail 2 R) 3), .int ((f_Reader_fail 2 R) 4), .ref p, .int ((f_Reader_fail 2 R) 6), .int ((f_Reader_fail 2 R) 7), .int ((f_Reader_fail 2 R) 8), .int ((f_Reader_fail 2 R) 9), .int ((f_Reader_fail 2 R) 10)]))]) hnd rfl rfl ?_
      refine w_Reader_readNumber_39 hst hnd hy lo hi (f_Reader_fail 2 R) nu ?_
      rw [f_Reader_readNumber_24, if_neg H1, if_neg H2] at hk
      exact hk
def f_Reader_readNumber_4 (B : Nat → Int32) (lo hi : Int32) (R : Nat → Int32) : Int32 × (Nat → Int32) :=
  if (R 9) = 2 then f_Reader_readNumber_24 B lo hi R (f_Reader_numberOfToken B R) else (lo, f_Reader_fail 1 R)
set_option maxRecDepth 4000 in
theorem w_Reader_readNumber_4 {g : GG} {Q : QT} {h : Hp} {kc ks : Nat} (hst : (gl g).stackTraces = false) {r y p : Nat} (hnd : [r].Nodup) {B : Nat → Int32} (hy : ∀ l : List (Nat × va_E), l.map Prod.fst = [r] → ov h l y = some (aB g 900 B)) (lo hi : Int32)  (R : Nat → Int32) (hi0 : RI R) (hk : Q (.inl (some (.int (f_Reader_readNumber_4 B lo hi R).1))) (ov h [(r, .inr (7, [.int (((f_Reader_readNumber_4 B lo hi R).2) 0), .int (((f_Reader_readNumber_4 B lo hi R).2) 1), .ref y, .int (((f_Reader_readNumber_4 B lo hi R).2) 3), .int (((f_Reader_readNumber_4 B lo hi R).2) 4), .ref p, .int (((f_Reader_readNumber_4 B lo hi R).2) 6), .int (((f_Reader_readNumber_4 B lo hi R).2) 7), .int (((f_Reader_readNumber_4 B lo hi R).2) 8), .int (((f_Reader_readNumber_4 B lo hi R).2) 9), .int (((f_Reader_readNumber_4 B lo hi R).2) 10)]))])) : PW g M_Reader_readNumber 2 kc ks Q 4 [.ref (r), .int (lo), .int (hi), .retAddr 0] [] (ov h [(r, .inr (7, [.int (R 0), .int (R 1), .ref y, .int (R 3), .int (R 4), .ref p, .int (R 6), .int (R 7), .int (R 8), .int (R 9), .int (R 10)]))]) := by
  refine pw_aload_n e_Reader_readNumber_4 rfl ?_
  refine pw_getf e_Reader_readNumber_5 fl_Reader_45 (ov_get hnd rfl (i := 0) rfl) rfl ?_
  refine pw_iconst (v := nI 2) e_Reader_readNumber_8 (by decide) ?_
  refine pw_icmp_eq (tgt := 19) e_Reader_readNumber_9 (by decide) (fun (H1 : (R 9) = 2) => ?_) (fun (H1 : ¬ (R 9) = 2) => ?_)
  · refine pw_aload_n e_Reader_readNumber_19 rfl ?_
    refine pw_detV (As := []) e_Reader_readNumber_20 li_Reader_217 rfl (ov_get hnd rfl (i := 0) rfl) (q_Reader_numberOfToken hst R (ov_get hnd rfl (i := 0) rfl) (hy _ rfl) hi0) rfl (by decide) (Nat.le_of_ble_eq_true rfl) rfl ?_
    refine pw_istore_n (ls2 := [_, _, _, _]) e_Reader_readNumber_23 (by decide) rfl ?_
    refine w_Reader_readNumber_24 hst hnd hy lo hi R (f_Reader_numberOfToken B R) ?_
    rw [f_Reader_readNumber_4, if_pos H1] at hk
    exact hk
  · refine pw_aload_n e_Reader_readNumber_12 rfl ?_
    refine pw_iconst (v := nI 1) e_Reader_readNumber_13 (by decide) ?_
    refine pw_detV (As := [.int (nI (1))]) e_Reader_readNumber_14 li_Reader_100 rfl (ov_get hnd rfl (i := 0) rfl) (q_Reader_fail hst hnd 1 R (ov_get hnd rfl (i := 0) rfl)) rfl (by decide) (Nat.le_of_ble_eq_true rfl) rfl ?_
    refine pw_same (l2 := [(r, .inr (7, [.int ((f_Reader_fail 1 R) 0), .int ((f_Reader_fail 1 R) 1), .ref y, .int ((f_Reader_fail 1 R) 3), .int ((f_Reader_fail 1 R) 4), .ref p, .int ((f_Reader_fail 1 R) 6), .int ((f_Reader_fail 1 R) 7), .int ((f_Reader_fail 1 R) 8), .int ((f_Reader_fail 1 R) 9), .int ((f_Reader_fail 1 R) 10)]))]) hnd rfl rfl ?_
    refine pw_iload_n e_Reader_readNumber_17 rfl ?_
    refine pw_iret e_Reader_readNumber_18 rfl rfl ?_
    rw [f_Reader_readNumber_4, if_neg H1] at hk
    exact hk
def f_Reader_readNumber (B : Nat → Int32) (lo hi : Int32) (R : Nat → Int32) : Int32 × (Nat → Int32) :=
  f_Reader_readNumber_4 B lo hi (f_Reader_nextToken B R)
set_option maxRecDepth 4000 in
theorem w_Reader_readNumber_0 {g : GG} {Q : QT} {h : Hp} {kc ks : Nat} (hst : (gl g).stackTraces = false) {r y p : Nat} (hnd : [r].Nodup) {B : Nat → Int32} (hy : ∀ l : List (Nat × va_E), l.map Prod.fst = [r] → ov h l y = some (aB g 900 B)) (lo hi : Int32)  (R : Nat → Int32) (hi0 : RI R) (hk : Q (.inl (some (.int (f_Reader_readNumber B lo hi R).1))) (ov h [(r, .inr (7, [.int (((f_Reader_readNumber B lo hi R).2) 0), .int (((f_Reader_readNumber B lo hi R).2) 1), .ref y, .int (((f_Reader_readNumber B lo hi R).2) 3), .int (((f_Reader_readNumber B lo hi R).2) 4), .ref p, .int (((f_Reader_readNumber B lo hi R).2) 6), .int (((f_Reader_readNumber B lo hi R).2) 7), .int (((f_Reader_readNumber B lo hi R).2) 8), .int (((f_Reader_readNumber B lo hi R).2) 9), .int (((f_Reader_readNumber B lo hi R).2) 10)]))])) : PW g M_Reader_readNumber 2 kc ks Q 0 [.ref (r), .int (lo), .int (hi), .retAddr 0] [] (ov h [(r, .inr (7, [.int (R 0), .int (R 1), .ref y, .int (R 3), .int (R 4), .ref p, .int (R 6), .int (R 7), .int (R 8), .int (R 9), .int (R 10)]))]) := by
  refine pw_aload_n e_Reader_readNumber_0 rfl ?_
  refine pw_detV (As := []) e_Reader_readNumber_1 li_Reader_60 rfl (ov_get hnd rfl (i := 0) rfl) (q_Reader_nextToken hst hnd (fun l hl => by rw [ov_same hnd rfl hl]; exact hy l hl) R (ov_get hnd rfl (i := 0) rfl) (RI.rj hi0)) rfl (by decide) (Nat.le_of_ble_eq_true rfl) rfl ?_
  refine pw_same (l2 := [(r, .inr (7, [.int ((f_Reader_nextToken B R) 0), .int ((f_Reader_nextToken B R) 1), .ref y, .int ((f_Reader_nextToken B R) 3), .int ((f_Reader_nextToken B R) 4), .ref p, .int ((f_Reader_nextToken B R) 6), .int ((f_Reader_nextToken B R) 7), .int ((f_Reader_nextToken B R) 8), .int ((f_Reader_nextToken B R) 9), .int ((f_Reader_nextToken B R) 10)]))]) hnd rfl rfl ?_
  refine w_Reader_readNumber_4 hst hnd hy lo hi (f_Reader_nextToken B R) (nx_RI hi0) ?_
  rw [f_Reader_readNumber] at hk
  exact hk
theorem q_Reader_readNumber {g : GG} {h : Hp} (hst : (gl g).stackTraces = false) {r y p : Nat} (hnd : [r].Nodup) {B : Nat → Int32} (hy : ∀ l : List (Nat × va_E), l.map Prod.fst = [r] → ov h l y = some (aB g 900 B)) (lo hi : Int32)  (R : Nat → Int32) (hm_r : h r = some (.inr (7, [.int (R 0), .int (R 1), .ref y, .int (R 3), .int (R 4), .ref p, .int (R 6), .int (R 7), .int (R 8), .int (R 9), .int (R 10)]))) (hi0 : RI R) : PM g M_Reader_readNumber 2 0 0 [.ref (r), .int (lo), .int (hi)] h (RetV (some (.int (f_Reader_readNumber B lo hi R).1)) (ov h [(r, .inr (7, [.int (((f_Reader_readNumber B lo hi R).2) 0), .int (((f_Reader_readNumber B lo hi R).2) 1), .ref y, .int (((f_Reader_readNumber B lo hi R).2) 3), .int (((f_Reader_readNumber B lo hi R).2) 4), .ref p, .int (((f_Reader_readNumber B lo hi R).2) 6), .int (((f_Reader_readNumber B lo hi R).2) 7), .int (((f_Reader_readNumber B lo hi R).2) 8), .int (((f_Reader_readNumber B lo hi R).2) 9), .int (((f_Reader_readNumber B lo hi R).2) 10)]))])) := by
  refine PM.of hst (by decide) rfl (fun v hv => ?_) (Nat.le_of_ble_eq_true rfl) ?_
  · simp only [List.mem_cons, List.not_mem_nil, or_false] at hv; rcases hv with rfl | rfl | rfl <;> rfl
  · have hq := w_Reader_readNumber_0 (g := g) (Q := RetV (some (.int (f_Reader_readNumber B lo hi R).1)) (ov h [(r, .inr (7, [.int (((f_Reader_readNumber B lo hi R).2) 0), .int (((f_Reader_readNumber B lo hi R).2) 1), .ref y, .int (((f_Reader_readNumber B lo hi R).2) 3), .int (((f_Reader_readNumber B lo hi R).2) 4), .ref p, .int (((f_Reader_readNumber B lo hi R).2) 6), .int (((f_Reader_readNumber B lo hi R).2) 7), .int (((f_Reader_readNumber B lo hi R).2) 8), .int (((f_Reader_readNumber B lo hi R).2) 9), .int (((f_Reader_readNumber B lo hi R).2) 10)]))])) (h := h) (kc := 0) (ks := 0) (p := p) hst hnd hy lo hi R hi0 ?_
    · rw [ov_self (l := [(r, .inr (7, [.int (R 0), .int (R 1), .ref y, .int (R 3), .int (R 4), .ref p, .int (R 6), .int (R 7), .int (R 8), .int (R 9), .int (R 10)]))]) (by simp only [List.mem_cons, List.not_mem_nil, or_false]; rintro q (rfl) <;> assumption)] at hq; exact hq
    · exact ⟨rfl, rfl⟩

def f_Reader_readChoice_10 (B : Nat → Int32) (i j : Nat) (R : Nat → Int32) (ch : Int32) : Int32 × (Nat → Int32) :=
  if ch = 0 then if (f_Reader_isWord B R j) = 0 then (ch, f_Reader_fail 1 R) else (ch, R) else (ch, R)
set_option maxRecDepth 4000 in
theorem w_Reader_readChoice_10 {g : GG} {Q : QT} {h : Hp} {kc ks : Nat} (hst : (gl g).stackTraces = false) {r y p : Nat} (hnd : [r].Nodup) {B : Nat → Int32} (hy : ∀ l : List (Nat × va_E), l.map Prod.fst = [r] → ov h l y = some (aB g 900 B)) (i j : Nat) (hi19 : i < 19) (hj19 : j < 19)  (R : Nat → Int32) (ch : Int32) (hi0 : RI R) (h01 : ch = 0 ∨ ch = 1) (hk : Q (.inl (some (.int (f_Reader_readChoice_10 B i j R ch).1))) (ov h [(r, .inr (7, [.int (((f_Reader_readChoice_10 B i j R ch).2) 0), .int (((f_Reader_readChoice_10 B i j R ch).2) 1), .ref y, .int (((f_Reader_readChoice_10 B i j R ch).2) 3), .int (((f_Reader_readChoice_10 B i j R ch).2) 4), .ref p, .int (((f_Reader_readChoice_10 B i j R ch).2) 6), .int (((f_Reader_readChoice_10 B i j R ch).2) 7), .int (((f_Reader_readChoice_10 B i j R ch).2) 8), .int (((f_Reader_readChoice_10 B i j R ch).2) 9), .int (((f_Reader_readChoice_10 B i j R ch).2) 10)]))])) : PW g M_Reader_readChoice 5 kc ks Q 10 [.ref (r), .ref (gk g i), .ref (gk g j), .int (ch)] [] (ov h [(r, .inr (7, [.int (R 0), .int (R 1), .ref y, .int (R 3), .int (R 4), .ref p, .int (R 6), .int (R 7), .int (R 8), .int (R 9), .int (R 10)]))]) := by
  refine pw_iload_n e_Reader_readChoice_10 rfl ?_
  refine pw_if_ne (tgt := 27) e_Reader_readChoice_11 (by decide) (fun (H1 : ¬ ch = 0) => ?_) (fun (H1 : ch = 0) => ?_)
  · refine pw_iload_n e_Reader_readChoice_27 rfl ?_
    refine pw_iret e_Reader_readChoice_28 rfl (nar01 h01) ?_
    rw [f_Reader_readChoice_10, if_neg H1] at hk
    exact hk
  · refine pw_aload_n e_Reader_readChoice_14 rfl ?_
    refine pw_aload_n e_Reader_readChoice_15 rfl ?_
    refine pw_detV (As := [.ref (gk g j)]) e_Reader_readChoice_16 li_Reader_68 rfl (ov_get hnd rfl (i := 0) rfl) (q_Reader_isWord hst R (ov_get hnd rfl (i := 0) rfl) (hy _ rfl) hi0 j hj19) rfl (by decide) (Nat.le_of_ble_eq_true rfl) rfl ?_
    refine pw_if_ne (tgt := 27) e_Reader_readChoice_19 (by decide) (fun (H2 : ¬ (f_Reader_isWord B R j) = 0) => ?_) (fun (H2 : (f_Reader_isWord B R j) = 0) => ?_)
    · refine pw_iload_n e_Reader_readChoice_27 rfl ?_
      refine pw_iret e_Reader_readChoice_28 rfl (nar01 h01) ?_
      rw [f_Reader_readChoice_10, if_pos H1, if_neg H2] at hk
      exact hk
    · refine pw_aload_n e_Reader_readChoice_22 rfl ?_
      refine pw_iconst (v := nI 1) e_Reader_readChoice_23 (by decide) ?_
      refine pw_detV (As := [.int (nI (1))]) e_Reader_readChoice_24 li_Reader_100 rfl (ov_get hnd rfl (i := 0) rfl) (q_Reader_fail hst hnd 1 R (ov_get hnd rfl (i := 0) rfl)) rfl (by decide) (Nat.le_of_ble_eq_true rfl) rfl ?_
      refine pw_same (l2 := [(r, .inr (7, [.int ((f_Reader_fail 1 R) 0), .int ((f_Reader_fail 1 R) 1), .ref y, .int ((f_Reader_fail 1 R) 3), .int ((f_Reader_fail 1 R) 4), .ref p, .int ((f_Reader_fail 1 R) 6), .int ((f_Reader_fail 1 R) 7), .int ((f_Reader_fail 1 R) 8), .int ((f_Reader_fail 1 R) 9), .int ((f_Reader_fail 1 R) 10)]))]) hnd rfl rfl ?_
      refine pw_iload_n e_Reader_readChoice_27 rfl ?_
      refine pw_iret e_Reader_readChoice_28 rfl (nar01 h01) ?_
      rw [f_Reader_readChoice_10, if_pos H1, if_pos H2] at hk
      exact hk
def f_Reader_readChoice_4 (B : Nat → Int32) (i j : Nat) (R : Nat → Int32) : Int32 × (Nat → Int32) :=
  f_Reader_readChoice_10 B i j R (f_Reader_isWord B R i)
set_option maxRecDepth 4000 in
theorem w_Reader_readChoice_4 {g : GG} {Q : QT} {h : Hp} {kc ks : Nat} (hst : (gl g).stackTraces = false) {r y p : Nat} (hnd : [r].Nodup) {B : Nat → Int32} (hy : ∀ l : List (Nat × va_E), l.map Prod.fst = [r] → ov h l y = some (aB g 900 B)) (i j : Nat) (hi19 : i < 19) (hj19 : j < 19)  (R : Nat → Int32) (hi0 : RI R) (hk : Q (.inl (some (.int (f_Reader_readChoice_4 B i j R).1))) (ov h [(r, .inr (7, [.int (((f_Reader_readChoice_4 B i j R).2) 0), .int (((f_Reader_readChoice_4 B i j R).2) 1), .ref y, .int (((f_Reader_readChoice_4 B i j R).2) 3), .int (((f_Reader_readChoice_4 B i j R).2) 4), .ref p, .int (((f_Reader_readChoice_4 B i j R).2) 6), .int (((f_Reader_readChoice_4 B i j R).2) 7), .int (((f_Reader_readChoice_4 B i j R).2) 8), .int (((f_Reader_readChoice_4 B i j R).2) 9), .int (((f_Reader_readChoice_4 B i j R).2) 10)]))])) : PW g M_Reader_readChoice 5 kc ks Q 4 [.ref (r), .ref (gk g i), .ref (gk g j), .retAddr 0] [] (ov h [(r, .inr (7, [.int (R 0), .int (R 1), .ref y, .int (R 3), .int (R 4), .ref p, .int (R 6), .int (R 7), .int (R 8), .int (R 9), .int (R 10)]))]) := by
  refine pw_aload_n e_Reader_readChoice_4 rfl ?_
  refine pw_aload_n e_Reader_readChoice_5 rfl ?_
  refine pw_detV (As := [.ref (gk g i)]) e_Reader_readChoice_6 li_Reader_68 rfl (ov_get hnd rfl (i := 0) rfl) (q_Reader_isWord hst R (ov_get hnd rfl (i := 0) rfl) (hy _ rfl) hi0 i hi19) rfl (by decide) (Nat.le_of_ble_eq_true rfl) rfl ?_
  refine pw_istore_n (ls2 := [_, _, _, _]) e_Reader_readChoice_9 (by decide) rfl ?_
  refine w_Reader_readChoice_10 hst hnd hy i j hi19 hj19 R (f_Reader_isWord B R i) hi0 (iw01 _ _ _) ?_
  rw [f_Reader_readChoice_4] at hk
  exact hk
def f_Reader_readChoice (B : Nat → Int32) (i j : Nat) (R : Nat → Int32) : Int32 × (Nat → Int32) :=
  f_Reader_readChoice_4 B i j (f_Reader_nextToken B R)
set_option maxRecDepth 4000 in
theorem w_Reader_readChoice_0 {g : GG} {Q : QT} {h : Hp} {kc ks : Nat} (hst : (gl g).stackTraces = false) {r y p : Nat} (hnd : [r].Nodup) {B : Nat → Int32} (hy : ∀ l : List (Nat × va_E), l.map Prod.fst = [r] → ov h l y = some (aB g 900 B)) (i j : Nat) (hi19 : i < 19) (hj19 : j < 19)  (R : Nat → Int32) (hi0 : RI R) (hk : Q (.inl (some (.int (f_Reader_readChoice B i j R).1))) (ov h [(r, .inr (7, [.int (((f_Reader_readChoice B i j R).2) 0), .int (((f_Reader_readChoice B i j R).2) 1), .ref y, .int (((f_Reader_readChoice B i j R).2) 3), .int (((f_Reader_readChoice B i j R).2) 4), .ref p, .int (((f_Reader_readChoice B i j R).2) 6), .int (((f_Reader_readChoice B i j R).2) 7), .int (((f_Reader_readChoice B i j R).2) 8), .int (((f_Reader_readChoice B i j R).2) 9), .int (((f_Reader_readChoice B i j R).2) 10)]))])) : PW g M_Reader_readChoice 5 kc ks Q 0 [.ref (r), .ref (gk g i), .ref (gk g j), .retAddr 0] [] (ov h [(r, .inr (7, [.int (R 0), .int (R 1), .ref y, .int (R 3), .int (R 4), .ref p, .int (R 6), .int (R 7), .int (R 8), .int (R 9), .int (R 10)]))]) := by
  refine pw_aload_n e_Reader_readChoice_0 rfl ?_
  refine pw_detV (As := []) e_Reader_readChoice_1 li_Reader_60 rfl (ov_get hnd rfl (i := 0) rfl) (q_Reader_nextToken hst hnd (fun l hl => by rw [ov_same hnd rfl hl]; exact hy l hl) R (ov_get hnd rfl (i := 0) rfl) (RI.rj hi0)) rfl (by decide) (Nat.le_of_ble_eq_true rfl) rfl ?_
  refine pw_same (l2 := [(r, .inr (7, [.int ((f_Reader_nextToken B R) 0), .int ((f_Reader_nextToken B R) 1), .ref y, .int ((f_Reader_nextToken B R) 3), .int ((f_Reader_nextToken B R) 4), .ref p, .int ((f_Reader_nextToken B R) 6), .int ((f_Reader_nextToken B R) 7), .int ((f_Reader_nextToken B R) 8), .int ((f_Reader_nextToken B R) 9), .int ((f_Reader_nextToken B R) 10)]))]) hnd rfl rfl ?_
  refine w_Reader_readChoice_4 hst hnd hy i j hi19 hj19 (f_Reader_nextToken B R) (nx_RI hi0) ?_
  rw [f_Reader_readChoice] at hk
  exact hk
theorem q_Reader_readChoice {g : GG} {h : Hp} (hst : (gl g).stackTraces = false) {r y p : Nat} (hnd : [r].Nodup) {B : Nat → Int32} (hy : ∀ l : List (Nat × va_E), l.map Prod.fst = [r] → ov h l y = some (aB g 900 B)) (i j : Nat) (hi19 : i < 19) (hj19 : j < 19)  (R : Nat → Int32) (hm_r : h r = some (.inr (7, [.int (R 0), .int (R 1), .ref y, .int (R 3), .int (R 4), .ref p, .int (R 6), .int (R 7), .int (R 8), .int (R 9), .int (R 10)]))) (hi0 : RI R) : PM g M_Reader_readChoice 5 0 0 [.ref (r), .ref (gk g i), .ref (gk g j)] h (RetV (some (.int (f_Reader_readChoice B i j R).1)) (ov h [(r, .inr (7, [.int (((f_Reader_readChoice B i j R).2) 0), .int (((f_Reader_readChoice B i j R).2) 1), .ref y, .int (((f_Reader_readChoice B i j R).2) 3), .int (((f_Reader_readChoice B i j R).2) 4), .ref p, .int (((f_Reader_readChoice B i j R).2) 6), .int (((f_Reader_readChoice B i j R).2) 7), .int (((f_Reader_readChoice B i j R).2) 8), .int (((f_Reader_readChoice B i j R).2) 9), .int (((f_Reader_readChoice B i j R).2) 10)]))])) := by
  refine PM.of hst (by decide) rfl (fun v hv => ?_) (Nat.le_of_ble_eq_true rfl) ?_
  · simp only [List.mem_cons, List.not_mem_nil, or_false] at hv; rcases hv with rfl | rfl | rfl <;> rfl
  · have hq := w_Reader_readChoice_0 (g := g) (Q := RetV (some (.int (f_Reader_readChoice B i j R).1)) (ov h [(r, .inr (7, [.int (((f_Reader_readChoice B i j R).2) 0), .int (((f_Reader_readChoice B i j R).2) 1), .ref y, .int (((f_Reader_readChoice B i j R).2) 3), .int (((f_Reader_readChoice B i j R).2) 4), .ref p, .int (((f_Reader_readChoice B i j R).2) 6), .int (((f_Reader_readChoice B i j R).2) 7), .int (((f_Reader_readChoice B i j R).2) 8), .int (((f_Reader_readChoice B i j R).2) 9), .int (((f_Reader_readChoice B i j R).2) 10)]))])) (h := h) (kc := 0) (ks := 0) (p := p) hst hnd hy i j hi19 hj19 R hi0 ?_
    · rw [ov_self (l := [(r, .inr (7, [.int (R 0), .int (R 1), .ref y, .int (R 3), .int (R 4), .ref p, .int (R 6), .int (R 7), .int (R 8), .int (R 9), .int (R 10)]))]) (by simp only [List.mem_cons, List.not_mem_nil, or_false]; rintro q (rfl) <;> assumption)] at hq; exact hq
    · exact ⟨rfl, rfl⟩

theorem rn_RI {B : Nat → Int32} {lo hi : Int32} {R : Nat → Int32} (h : RI R) : RI (f_Reader_readNumber B lo hi R).2 := by
  have h1 := nx_RI (B := B) h
  rw [f_Reader_readNumber]
  generalize f_Reader_nextToken B R = R1 at h1
  rw [f_Reader_readNumber_4]
  have h39 : ∀ (Z : Nat → Int32) nu, RI Z → RI (f_Reader_readNumber_39 B lo hi Z nu).2 := by
    intro Z nu hz
    rw [f_Reader_readNumber_39]
    split <;> exact hz
  have h24 : ∀ nu, RI (f_Reader_readNumber_24 B lo hi R1 nu).2 := by
    intro nu
    rw [f_Reader_readNumber_24]
    split
    · exact h39 _ _ (fail_RI h1)
    · split
      · exact h39 _ _ h1
      · exact h39 _ _ (fail_RI h1)
  split
  · exact h24 _
  · exact fail_RI h1
theorem rc_RI {B : Nat → Int32} {i j : Nat} {R : Nat → Int32} (h : RI R) : RI (f_Reader_readChoice B i j R).2 := by
  have h1 := nx_RI (B := B) h
  rw [f_Reader_readChoice]
  generalize f_Reader_nextToken B R = R1 at h1
  rw [f_Reader_readChoice_4, f_Reader_readChoice_10]
  split
  · split
    · exact fail_RI h1
    · exact h1
  · exact h1
theorem rc01 (B : Nat → Int32) (i j : Nat) (R : Nat → Int32) : (f_Reader_readChoice B i j R).1 = 0 ∨ (f_Reader_readChoice B i j R).1 = 1 := by
  rw [f_Reader_readChoice, f_Reader_readChoice_4, f_Reader_readChoice_10]
  have h := iw01 B (f_Reader_nextToken B R) i
  split
  · split <;> exact h
  · exact h
