/-! the reader, what it does with itself alone (written by wip/whole/c_reader.py) -/
/-- where the reader stands: 0 ≤ tokenAt ≤ at ≤ length ≤ 900 -/
def RI (R : Nat → Int32) : Prop := 0 ≤ R 10 ∧ R 10 ≤ R 4 ∧ R 4 ≤ R 3 ∧ R 3 ≤ 900
theorem i_le {a b : Int32} : a ≤ b ↔ a.toInt ≤ b.toInt := Int32.le_iff_toInt_le
theorem i_lt {a b : Int32} : a < b ↔ a.toInt < b.toInt := Int32.lt_iff_toInt_lt
theorem i_in {x : Int32} {n : Nat} (h0 : 0 ≤ x) (h1 : x.toInt < n) : vp_in x n := vp_in_iff.mpr ⟨by have := i_le.mp h0; simpa using this, h1⟩
theorem i_inc {x y : Int32} (h1 : x < y) : (x + 1).toInt = x.toInt + 1 := by
  have h := i_lt.mp h1
  have e := Int32.toInt_lt y
  rw [Int32.toInt_add]
  have h3 := Int32.le_toInt x
  rw [show (1 : Int32).toInt = 1 by decide]
  exact Int.bmod_eq_of_le (by omega) (by omega)
theorem RI.at {R : Nat → Int32} (h : RI R) (hlt : ¬ R 3 ≤ R 4) : vp_in (R 4) 900 := by
  obtain ⟨a, b, c, d⟩ := h
  have a' := i_le.mp a; have b' := i_le.mp b; have d' := i_le.mp d
  have e : (900 : Int32).toInt = 900 := by decide
  have z : (0 : Int32).toInt = 0 := by decide
  rw [i_le] at hlt
  exact i_in (i_le.mpr (by omega)) (by omega)
theorem RI.inc {R : Nat → Int32} (h : RI R) (hlt : ¬ R 3 ≤ R 4) : RI (upd R 4 (R 4 + 1)) := by
  obtain ⟨a, b, c, d⟩ := h
  have hl : R 4 < R 3 := Int32.not_le.mp hlt
  have e := i_inc hl
  have b' := i_le.mp b; have hl' := i_lt.mp hl
  refine ⟨a, ?_, ?_, d⟩
  · show R 10 ≤ R 4 + 1
    rw [i_le, e]; omega
  · show R 4 + 1 ≤ R 3
    rw [i_le, e]; omega
theorem RI.tok {R : Nat → Int32} (h : RI R) (v : Int32) : RI (upd R 9 v) := h
theorem RI.put {R : Nat → Int32} (h : RI R) {k : Nat} (v : Int32) (h3 : 3 ≠ k) (h4 : 4 ≠ k) (h10 : 10 ≠ k) : RI (upd R k v) := by
  unfold RI upd
  simp only [h3, h4, h10, if_false]
  exact h
theorem RI.tokAt {R : Nat → Int32} (h : RI R) : RI (upd R 10 (R 4)) := by
  obtain ⟨a, b, c, d⟩ := h
  exact ⟨Int32.le_trans a b, Int32.le_refl _, c, d⟩
def f_Reader_fail (x : Int32) (R : Nat → Int32) : (Nat → Int32) :=
  if (R 1) = 0 then upd (upd R 1 x) 0 ((upd R 1 x) 10) else R
set_option maxRecDepth 4000 in
theorem w_Reader_fail_0 {g : GG} {Q : QT} {h : Hp} {kc ks : Nat} (hst : (gl g).stackTraces = false) {r y p : Nat} (hnd : [r].Nodup) (x : Int32)  (R : Nat → Int32) (hk : Q (.inl none) (ov h [(r, .inr (7, [.int ((f_Reader_fail x R) 0), .int ((f_Reader_fail x R) 1), .ref y, .int ((f_Reader_fail x R) 3), .int ((f_Reader_fail x R) 4), .ref p, .int ((f_Reader_fail x R) 6), .int ((f_Reader_fail x R) 7), .int ((f_Reader_fail x R) 8), .int ((f_Reader_fail x R) 9), .int ((f_Reader_fail x R) 10)]))])) : PW g M_Reader_fail 0 kc ks Q 0 [.ref (r), .int (x)] [] (ov h [(r, .inr (7, [.int (R 0), .int (R 1), .ref y, .int (R 3), .int (R 4), .ref p, .int (R 6), .int (R 7), .int (R 8), .int (R 9), .int (R 10)]))]) := by
  refine pw_aload_n e_Reader_fail_0 rfl ?_
  refine pw_getf e_Reader_fail_1 fl_Reader_15 (ov_get hnd rfl (i := 0) rfl) rfl ?_
  refine pw_if_ne (tgt := 20) e_Reader_fail_4 (by decide) (fun (H1 : ¬ (R 1) = 0) => ?_) (fun (H1 : (R 1) = 0) => ?_)
  · refine pw_vret e_Reader_fail_20 rfl ?_
    rw [f_Reader_fail, if_neg H1] at hk
    exact hk
  · refine pw_aload_n e_Reader_fail_7 rfl ?_
    refine pw_iload_n e_Reader_fail_8 rfl ?_
    refine pw_putO (i := 0) (l2 := [(r, .inr (7, [.int ((upd R 1 x) 0), .int ((upd R 1 x) 1), .ref y, .int ((upd R 1 x) 3), .int ((upd R 1 x) 4), .ref p, .int ((upd R 1 x) 6), .int ((upd R 1 x) 7), .int ((upd R 1 x) 8), .int ((upd R 1 x) 9), .int ((upd R 1 x) 10)]))]) e_Reader_fail_9 fp_Reader_15 hnd rfl rfl (Nat.le_of_ble_eq_true rfl) rfl rfl rfl ?_
    refine pw_aload_n e_Reader_fail_12 rfl ?_
    refine pw_aload_n e_Reader_fail_13 rfl ?_
    refine pw_getf e_Reader_fail_14 fl_Reader_48 (ov_get hnd rfl (i := 0) rfl) rfl ?_
    refine pw_putO (i := 0) (l2 := [(r, .inr (7, [.int ((upd (upd R 1 x) 0 ((upd R 1 x) 10)) 0), .int ((upd (upd R 1 x) 0 ((upd R 1 x) 10)) 1), .ref y, .int ((upd (upd R 1 x) 0 ((upd R 1 x) 10)) 3), .int ((upd (upd R 1 x) 0 ((upd R 1 x) 10)) 4), .ref p, .int ((upd (upd R 1 x) 0 ((upd R 1 x) 10)) 6), .int ((upd (upd R 1 x) 0 ((upd R 1 x) 10)) 7), .int ((upd (upd R 1 x) 0 ((upd R 1 x) 10)) 8), .int ((upd (upd R 1 x) 0 ((upd R 1 x) 10)) 9), .int ((upd (upd R 1 x) 0 ((upd R 1 x) 10)) 10)]))]) e_Reader_fail_17 fp_Reader_9 hnd rfl rfl (Nat.le_of_ble_eq_true rfl) rfl rfl rfl ?_
    refine pw_vret e_Reader_fail_20 rfl ?_
    rw [f_Reader_fail, if_pos H1] at hk
    exact hk
theorem q_Reader_fail {g : GG} {h : Hp} (hst : (gl g).stackTraces = false) {r y p : Nat} (hnd : [r].Nodup) (x : Int32)  (R : Nat → Int32) (hm_r : h r = some (.inr (7, [.int (R 0), .int (R 1), .ref y, .int (R 3), .int (R 4), .ref p, .int (R 6), .int (R 7), .int (R 8), .int (R 9), .int (R 10)]))) : PM g M_Reader_fail 0 0 0 [.ref (r), .int (x)] h (RetV none (ov h [(r, .inr (7, [.int ((f_Reader_fail x R) 0), .int ((f_Reader_fail x R) 1), .ref y, .int ((f_Reader_fail x R) 3), .int ((f_Reader_fail x R) 4), .ref p, .int ((f_Reader_fail x R) 6), .int ((f_Reader_fail x R) 7), .int ((f_Reader_fail x R) 8), .int ((f_Reader_fail x R) 9), .int ((f_Reader_fail x R) 10)]))])) := by
  refine PM.of hst (by decide) rfl (fun v hv => ?_) (Nat.le_of_ble_eq_true rfl) ?_
  · simp only [List.mem_cons, List.not_mem_nil, or_false] at hv; rcases hv with rfl | rfl <;> rfl
  · have hq := w_Reader_fail_0 (g := g) (Q := RetV none (ov h [(r, .inr (7, [.int ((f_Reader_fail x R) 0), .int ((f_Reader_fail x R) 1), .ref y, .int ((f_Reader_fail x R) 3), .int ((f_Reader_fail x R) 4), .ref p, .int ((f_Reader_fail x R) 6), .int ((f_Reader_fail x R) 7), .int ((f_Reader_fail x R) 8), .int ((f_Reader_fail x R) 9), .int ((f_Reader_fail x R) 10)]))])) (h := h) (kc := 0) (ks := 0) (y := y) (p := p) hst hnd x R ?_
    · rw [ov_self (l := [(r, .inr (7, [.int (R 0), .int (R 1), .ref y, .int (R 3), .int (R 4), .ref p, .int (R 6), .int (R 7), .int (R 8), .int (R 9), .int (R 10)]))]) (by simp only [List.mem_cons, List.not_mem_nil, or_false]; rintro q (rfl) <;> assumption)] at hq; exact hq
    · exact ⟨rfl, rfl⟩

def mu (R : Nat → Int32) : Nat := ((R 3).toInt - (R 4).toInt).toNat
theorem RI.mu0 {R : Nat → Int32} (h : RI R) : mu R < 901 := by
  obtain ⟨a, b, c, d⟩ := h
  have a' := i_le.mp a; have b' := i_le.mp b; have d' := i_le.mp d
  have e : (900 : Int32).toInt = 900 := by decide
  have z : (0 : Int32).toInt = 0 := by decide
  unfold mu
  omega
theorem RI.muS {R : Nat → Int32} {t : Nat} (hlt : ¬ R 3 ≤ R 4) (ht : mu R < t + 1) : mu (upd R 4 (R 4 + 1)) < t := by
  have hl : R 4 < R 3 := Int32.not_le.mp hlt
  have e := i_inc hl
  have hl' := i_lt.mp hl
  unfold mu at ht ⊢
  show ((R 3).toInt - (R 4 + 1).toInt).toNat < t
  rw [e]
  omega
def f_Reader_takeRow_L (B : Nat → Int32) (lo hi : Int32) : Nat → (Nat → Int32) → (Nat → Int32)
  | 0, R => R
  | t + 1, R => if (R 3) ≤ (R 4) then R else if (B (R 4).toNatClampNeg) < lo then R else if hi < (B (R 4).toNatClampNeg) then R else f_Reader_takeRow_L B lo hi t (upd R 4 ((R 4) + 1))
set_option maxRecDepth 4000 in
theorem w_Reader_takeRow_L {g : GG} {Q : QT} {h : Hp} {kc ks : Nat} (hst : (gl g).stackTraces = false) {r y p : Nat} (hnd : [r].Nodup) {B : Nat → Int32} (hy : ∀ l : List (Nat × va_E), l.map Prod.fst = [r] → ov h l y = some (aB g 900 B)) (lo hi : Int32)  (t : Nat) : ∀ (R : Nat → Int32) (hi0 : RI R) (hlt : mu R < t) (hk : Q (.inl none) (ov h [(r, .inr (7, [.int ((f_Reader_takeRow_L B lo hi t R) 0), .int ((f_Reader_takeRow_L B lo hi t R) 1), .ref y, .int ((f_Reader_takeRow_L B lo hi t R) 3), .int ((f_Reader_takeRow_L B lo hi t R) 4), .ref p, .int ((f_Reader_takeRow_L B lo hi t R) 6), .int ((f_Reader_takeRow_L B lo hi t R) 7), .int ((f_Reader_takeRow_L B lo hi t R) 8), .int ((f_Reader_takeRow_L B lo hi t R) 9), .int ((f_Reader_takeRow_L B lo hi t R) 10)]))])), PW g M_Reader_takeRow 0 kc ks Q 0 [.ref (r), .int (lo), .int (hi)] [] (ov h [(r, .inr (7, [.int (R 0), .int (R 1), .ref y, .int (R 3), .int (R 4), .ref p, .int (R 6), .int (R 7), .int (R 8), .int (R 9), .int (R 10)]))]) := by
  induction t with
  | zero => intro R hi0 hlt _; exact absurd hlt (Nat.not_lt_zero _)
  | succ t ih =>
    intro R hi0 hlt hk
    refine pw_aload_n e_Reader_takeRow_0 rfl ?_
    refine pw_getf e_Reader_takeRow_1 fl_Reader_25 (ov_get hnd rfl (i := 0) rfl) rfl ?_
    refine pw_aload_n e_Reader_takeRow_4 rfl ?_
    refine pw_getf e_Reader_takeRow_5 fl_Reader_22 (ov_get hnd rfl (i := 0) rfl) rfl ?_
    refine pw_icmp_ge (tgt := 50) e_Reader_takeRow_8 (by decide) (fun (H1 : (R 3) ≤ (R 4)) => ?_) (fun (H1 : ¬ (R 3) ≤ (R 4)) => ?_)
    · refine pw_vret e_Reader_takeRow_50 rfl ?_
      rw [f_Reader_takeRow_L, if_pos H1] at hk
      exact hk
    · refine pw_aload_n e_Reader_takeRow_11 rfl ?_
      refine pw_getf e_Reader_takeRow_12 fl_Reader_18 (ov_get hnd rfl (i := 0) rfl) rfl ?_
      refine pw_aload_n e_Reader_takeRow_15 rfl ?_
      refine pw_getf e_Reader_takeRow_16 fl_Reader_25 (ov_get hnd rfl (i := 0) rfl) rfl ?_
      refine pw_bald e_Reader_takeRow_19 (hy _ rfl) (hi0.at (by assumption)) ?_
      refine pw_iload_n e_Reader_takeRow_20 rfl ?_
      refine pw_icmp_lt (tgt := 50) e_Reader_takeRow_21 (by decide) (fun (H2 : (B (R 4).toNatClampNeg) < lo) => ?_) (fun (H2 : ¬ (B (R 4).toNatClampNeg) < lo) => ?_)
      · refine pw_vret e_Reader_takeRow_50 rfl ?_
        rw [f_Reader_takeRow_L, if_neg H1, if_pos H2] at hk
        exact hk
      · refine pw_aload_n e_Reader_takeRow_24 rfl ?_
        refine pw_getf e_Reader_takeRow_25 fl_Reader_18 (ov_get hnd rfl (i := 0) rfl) rfl ?_
        refine pw_aload_n e_Reader_takeRow_28 rfl ?_
        refine pw_getf e_Reader_takeRow_29 fl_Reader_25 (ov_get hnd rfl (i := 0) rfl) rfl ?_
        refine pw_bald e_Reader_takeRow_32 (hy _ rfl) (hi0.at (by assumption)) ?_
        refine pw_iload_n e_Reader_takeRow_33 rfl ?_
        refine pw_icmp_gt (tgt := 50) e_Reader_takeRow_34 (by decide) (fun (H3 : hi < (B (R 4).toNatClampNeg)) => ?_) (fun (H3 : ¬ hi < (B (R 4).toNatClampNeg)) => ?_)
        · refine pw_vret e_Reader_takeRow_50 rfl ?_
          rw [f_Reader_takeRow_L, if_neg H1, if_neg H2, if_pos H3] at hk
          exact hk
        · refine pw_aload_n e_Reader_takeRow_37 rfl ?_
          refine pw_dup e_Reader_takeRow_38 rfl ?_
          refine pw_getf e_Reader_takeRow_39 fl_Reader_25 (ov_get hnd rfl (i := 0) rfl) rfl ?_
          refine pw_iconst (v := nI 1) e_Reader_takeRow_42 (by decide) ?_
          refine pw_iadd e_Reader_takeRow_43 ?_
          refine pw_putO (i := 0) (l2 := [(r, .inr (7, [.int ((upd R 4 ((R 4) + 1)) 0), .int ((upd R 4 ((R 4) + 1)) 1), .ref y, .int ((upd R 4 ((R 4) + 1)) 3), .int ((upd R 4 ((R 4) + 1)) 4), .ref p, .int ((upd R 4 ((R 4) + 1)) 6), .int ((upd R 4 ((R 4) + 1)) 7), .int ((upd R 4 ((R 4) + 1)) 8), .int ((upd R 4 ((R 4) + 1)) 9), .int ((upd R 4 ((R 4) + 1)) 10)]))]) e_Reader_takeRow_44 fp_Reader_25 hnd rfl rfl (Nat.le_of_ble_eq_true rfl) rfl rfl rfl ?_
          refine pw_goto (tgt := 0) e_Reader_takeRow_47 (by decide) ?_
          refine ih (upd R 4 ((R 4) + 1)) (hi0.inc (by assumption)) (RI.muS (by assumption) hlt) ?_
          rw [f_Reader_takeRow_L, if_neg H1, if_neg H2, if_neg H3] at hk
          exact hk
theorem tr_RI (B : Nat → Int32) (lo hi : Int32) : ∀ (t : Nat) (R : Nat → Int32), RI R → RI (f_Reader_takeRow_L B lo hi t R) := by
  intro t
  induction t with
  | zero => intro R h; exact h
  | succ t ih =>
    intro R h
    rw [f_Reader_takeRow_L]
    split
    · exact h
    · rename_i q
      split
      · exact h
      · split
        · exact h
        · exact ih _ (h.inc q)
def f_Reader_takeRow (B : Nat → Int32) (lo hi : Int32) (R : Nat → Int32) : (Nat → Int32) :=
  f_Reader_takeRow_L B lo hi 901 R
set_option maxRecDepth 4000 in
theorem w_Reader_takeRow_0 {g : GG} {Q : QT} {h : Hp} {kc ks : Nat} (hst : (gl g).stackTraces = false) {r y p : Nat} (hnd : [r].Nodup) {B : Nat → Int32} (hy : ∀ l : List (Nat × va_E), l.map Prod.fst = [r] → ov h l y = some (aB g 900 B)) (lo hi : Int32)  (R : Nat → Int32) (hi0 : RI R) (hk : Q (.inl none) (ov h [(r, .inr (7, [.int ((f_Reader_takeRow B lo hi R) 0), .int ((f_Reader_takeRow B lo hi R) 1), .ref y, .int ((f_Reader_takeRow B lo hi R) 3), .int ((f_Reader_takeRow B lo hi R) 4), .ref p, .int ((f_Reader_takeRow B lo hi R) 6), .int ((f_Reader_takeRow B lo hi R) 7), .int ((f_Reader_takeRow B lo hi R) 8), .int ((f_Reader_takeRow B lo hi R) 9), .int ((f_Reader_takeRow B lo hi R) 10)]))])) : PW g M_Reader_takeRow 0 kc ks Q 0 [.ref (r), .int (lo), .int (hi)] [] (ov h [(r, .inr (7, [.int (R 0), .int (R 1), .ref y, .int (R 3), .int (R 4), .ref p, .int (R 6), .int (R 7), .int (R 8), .int (R 9), .int (R 10)]))]) := by
  refine w_Reader_takeRow_L hst hnd hy lo hi 901 R hi0 hi0.mu0 ?_
  rw [f_Reader_takeRow] at hk
  exact hk
theorem q_Reader_takeRow {g : GG} {h : Hp} (hst : (gl g).stackTraces = false) {r y p : Nat} (hnd : [r].Nodup) {B : Nat → Int32} (hy : ∀ l : List (Nat × va_E), l.map Prod.fst = [r] → ov h l y = some (aB g 900 B)) (lo hi : Int32)  (R : Nat → Int32) (hm_r : h r = some (.inr (7, [.int (R 0), .int (R 1), .ref y, .int (R 3), .int (R 4), .ref p, .int (R 6), .int (R 7), .int (R 8), .int (R 9), .int (R 10)]))) (hi0 : RI R) : PM g M_Reader_takeRow 0 0 0 [.ref (r), .int (lo), .int (hi)] h (RetV none (ov h [(r, .inr (7, [.int ((f_Reader_takeRow B lo hi R) 0), .int ((f_Reader_takeRow B lo hi R) 1), .ref y, .int ((f_Reader_takeRow B lo hi R) 3), .int ((f_Reader_takeRow B lo hi R) 4), .ref p, .int ((f_Reader_takeRow B lo hi R) 6), .int ((f_Reader_takeRow B lo hi R) 7), .int ((f_Reader_takeRow B lo hi R) 8), .int ((f_Reader_takeRow B lo hi R) 9), .int ((f_Reader_takeRow B lo hi R) 10)]))])) := by
  refine PM.of hst (by decide) rfl (fun v hv => ?_) (Nat.le_of_ble_eq_true rfl) ?_
  · simp only [List.mem_cons, List.not_mem_nil, or_false] at hv; rcases hv with rfl | rfl | rfl <;> rfl
  · have hq := w_Reader_takeRow_0 (g := g) (Q := RetV none (ov h [(r, .inr (7, [.int ((f_Reader_takeRow B lo hi R) 0), .int ((f_Reader_takeRow B lo hi R) 1), .ref y, .int ((f_Reader_takeRow B lo hi R) 3), .int ((f_Reader_takeRow B lo hi R) 4), .ref p, .int ((f_Reader_takeRow B lo hi R) 6), .int ((f_Reader_takeRow B lo hi R) 7), .int ((f_Reader_takeRow B lo hi R) 8), .int ((f_Reader_takeRow B lo hi R) 9), .int ((f_Reader_takeRow B lo hi R) 10)]))])) (h := h) (kc := 0) (ks := 0) (p := p) hst hnd hy lo hi R hi0 ?_
    · rw [ov_self (l := [(r, .inr (7, [.int (R 0), .int (R 1), .ref y, .int (R 3), .int (R 4), .ref p, .int (R 6), .int (R 7), .int (R 8), .int (R 9), .int (R 10)]))]) (by simp only [List.mem_cons, List.not_mem_nil, or_false]; rintro q (rfl) <;> assumption)] at hq; exact hq
    · exact ⟨rfl, rfl⟩

def f_Reader_nextToken_105 (B : Nat → Int32) (R : Nat → Int32) (sg : Int32) : (Nat → Int32) :=
  if sg < 97 then if sg < 48 then if sg = 59 then upd R 9 3 else upd R 9 4 else if 57 < sg then if sg = 59 then upd R 9 3 else upd R 9 4 else f_Reader_takeRow B 48 57 (upd R 9 2) else if 122 < sg then if sg < 48 then if sg = 59 then upd R 9 3 else upd R 9 4 else if 57 < sg then if sg = 59 then upd R 9 3 else upd R 9 4 else f_Reader_takeRow B 48 57 (upd R 9 2) else f_Reader_takeRow B 97 122 (upd R 9 1)
set_option maxRecDepth 4000 in
theorem w_Reader_nextToken_105 {g : GG} {Q : QT} {h : Hp} {kc ks : Nat} (hst : (gl g).stackTraces = false) {r y p : Nat} (hnd : [r].Nodup) {B : Nat → Int32} (hy : ∀ l : List (Nat × va_E), l.map Prod.fst = [r] → ov h l y = some (aB g 900 B))  (R : Nat → Int32) (sg : Int32) (hi0 : RI R) (hk : Q (.inl none) (ov h [(r, .inr (7, [.int ((f_Reader_nextToken_105 B R sg) 0), .int ((f_Reader_nextToken_105 B R sg) 1), .ref y, .int ((f_Reader_nextToken_105 B R sg) 3), .int ((f_Reader_nextToken_105 B R sg) 4), .ref p, .int ((f_Reader_nextToken_105 B R sg) 6), .int ((f_Reader_nextToken_105 B R sg) 7), .int ((f_Reader_nextToken_105 B R sg) 8), .int ((f_Reader_nextToken_105 B R sg) 9), .int ((f_Reader_nextToken_105 B R sg) 10)]))])) : PW g M_Reader_nextToken 1 kc ks Q 105 [.ref (r), .int (sg)] [] (ov h [(r, .inr (7, [.int (R 0), .int (R 1), .ref y, .int (R 3), .int (R 4), .ref p, .int (R 6), .int (R 7), .int (R 8), .int (R 9), .int (R 10)]))]) := by
  refine pw_iload_n e_Reader_nextToken_105 rfl ?_
  refine pw_bipush (v := nI 97) e_Reader_nextToken_106 (by decide) ?_
  refine pw_icmp_lt (tgt := 133) e_Reader_nextToken_108 (by decide) (fun (H1 : sg < 97) => ?_) (fun (H1 : ¬ sg < 97) => ?_)
  · refine pw_iload_n e_Reader_nextToken_133 rfl ?_
    refine pw_bipush (v := nI 48) e_Reader_nextToken_134 (by decide) ?_
    refine pw_icmp_lt (tgt := 161) e_Reader_nextToken_136 (by decide) (fun (H2 : sg < 48) => ?_) (fun (H2 : ¬ sg < 48) => ?_)
    · refine pw_aload_n e_Reader_nextToken_161 rfl ?_
      refine pw_iload_n e_Reader_nextToken_162 rfl ?_
      refine pw_bipush (v := nI 59) e_Reader_nextToken_163 (by decide) ?_
      refine pw_icmp_ne (tgt := 172) e_Reader_nextToken_165 (by decide) (fun (H3 : ¬ sg = 59) => ?_) (fun (H3 : sg = 59) => ?_)
      · refine pw_iconst (v := nI 4) e_Reader_nextToken_172 (by decide) ?_
        refine pw_putO (i := 0) (l2 := [(r, .inr (7, [.int ((upd R 9 4) 0), .int ((upd R 9 4) 1), .ref y, .int ((upd R 9 4) 3), .int ((upd R 9 4) 4), .ref p, .int ((upd R 9 4) 6), .int ((upd R 9 4) 7), .int ((upd R 9 4) 8), .int ((upd R 9 4) 9), .int ((upd R 9 4) 10)]))]) e_Reader_nextToken_173 fp_Reader_45 hnd rfl rfl (Nat.le_of_ble_eq_true rfl) rfl rfl rfl ?_
        refine pw_vret e_Reader_nextToken_176 rfl ?_
        rw [f_Reader_nextToken_105, if_pos H1, if_pos H2, if_neg H3] at hk
        exact hk
      · refine pw_iconst (v := nI 3) e_Reader_nextToken_168 (by decide) ?_
        refine pw_goto (tgt := 173) e_Reader_nextToken_169 (by decide) ?_
        refine pw_putO (i := 0) (l2 := [(r, .inr (7, [.int ((upd R 9 3) 0), .int ((upd R 9 3) 1), .ref y, .int ((upd R 9 3) 3), .int ((upd R 9 3) 4), .ref p, .int ((upd R 9 3) 6), .int ((upd R 9 3) 7), .int ((upd R 9 3) 8), .int ((upd R 9 3) 9), .int ((upd R 9 3) 10)]))]) e_Reader_nextToken_173 fp_Reader_45 hnd rfl rfl (Nat.le_of_ble_eq_true rfl) rfl rfl rfl ?_
        refine pw_vret e_Reader_nextToken_176 rfl ?_
        rw [f_Reader_nextToken_105, if_pos H1, if_pos H2, if_pos H3] at hk
        exact hk
    · refine pw_iload_n e_Reader_nextToken_139 rfl ?_
      refine pw_bipush (v := nI 57) e_Reader_nextToken_140 (by decide) ?_
      refine pw_icmp_gt (tgt := 161) e_Reader_nextToken_142 (by decide) (fun (H4 : 57 < sg) => ?_) (fun (H4 : ¬ 57 < sg) => ?_)
      · refine pw_aload_n e_Reader_nextToken_161 rfl ?_
        refine pw_iload_n e_Reader_nextToken_162 rfl ?_
        refine pw_bipush (v := nI 59) e_Reader_nextToken_163 (by decide) ?_
        refine pw_icmp_ne (tgt := 172) e_Reader_nextToken_165 (by decide) (fun (H5 : ¬ sg = 59) => ?_) (fun (H5 : sg = 59) => ?_)
        · refine pw_iconst (v := nI 4) e_Reader_nextToken_172 (by decide) ?_
          refine pw_putO (i := 0) (l2 := [(r, .inr (7, [.int ((upd R 9 4) 0), .int ((upd R 9 4) 1), .ref y, .int ((upd R 9 4) 3), .int ((upd R 9 4) 4), .ref p, .int ((upd R 9 4) 6), .int ((upd R 9 4) 7), .int ((upd R 9 4) 8), .int ((upd R 9 4) 9), .int ((upd R 9 4) 10)]))]) e_Reader_nextToken_173 fp_Reader_45 hnd rfl rfl (Nat.le_of_ble_eq_true rfl) rfl rfl rfl ?_
          refine pw_vret e_Reader_nextToken_176 rfl ?_
          rw [f_Reader_nextToken_105, if_pos H1, if_neg H2, if_pos H4, if_neg H5] at hk
          exact hk
        · refine pw_iconst (v := nI 3) e_Reader_nextToken_168 (by decide) ?_
          refine pw_goto (tgt := 173) e_Reader_nextToken_169 (by decide) ?_
          refine pw_putO (i := 0) (l2 := [(r, .inr (7, [.int ((upd R 9 3) 0), .int ((upd R 9 3) 1), .ref y, .int ((upd R 9 3) 3), .int ((upd R 9 3) 4), .ref p, .int ((upd R 9 3) 6), .int ((upd R 9 3) 7), .int ((upd R 9 3) 8), .int ((upd R 9 3) 9), .int ((upd R 9 3) 10)]))]) e_Reader_nextToken_173 fp_Reader_45 hnd rfl rfl (Nat.le_of_ble_eq_true rfl) rfl rfl rfl ?_
          refine pw_vret e_Reader_nextToken_176 rfl ?_
          rw [f_Reader_nextToken_105, if_pos H1, if_neg H2, if_pos H4, if_pos H5] at hk
          exact hk
      · refine pw_aload_n e_Reader_nextToken_145 rfl ?_
        refine pw_iconst (v := nI 2) e_Reader_nextToken_146 (by decide) ?_
        refine pw_putO (i := 0) (l2 := [(r, .inr (7, [.int ((upd R 9 2) 0), .int ((upd R 9 2) 1), .ref y, .int ((upd R 9 2) 3), .int ((upd R 9 2) 4), .ref p, .int ((upd R 9 2) 6), .int ((upd R 9 2) 7), .int ((upd R 9 2) 8), .int ((upd R 9 2) 9), .int ((upd R 9 2) 10)]))]) e_Reader_nextToken_147 fp_Reader_45 hnd rfl rfl (Nat.le_of_ble_eq_true rfl) rfl rfl rfl ?_
        refine pw_aload_n e_Reader_nextToken_150 rfl ?_
        refine pw_bipush (v := nI 48) e_Reader_nextToken_151 (by decide) ?_
        refine pw_bipush (v := nI 57) e_Reader_nextToken_153 (by decide) ?_
        refine pw_detV (As := [.int (nI (48)), .int (nI (57))]) e_Reader_nextToken_155 li_Reader_220 rfl (ov_get hnd rfl (i := 0) rfl) (q_Reader_takeRow hst hnd (fun l hl => by rw [ov_same hnd rfl hl]; exact hy l hl) 48 57 (upd R 9 2) (ov_get hnd rfl (i := 0) rfl) (hi0.tok _)) rfl (by decide) (Nat.le_of_ble_eq_true rfl) rfl ?_
        refine pw_same (l2 := [(r, .inr (7, [.int ((f_Reader_takeRow B 48 57 (upd R 9 2)) 0), .int ((f_Reader_takeRow B 48 57 (upd R 9 2)) 1), .ref y, .int ((f_Reader_takeRow B 48 57 (upd R 9 2)) 3), .int ((f_Reader_takeRow B 48 57 (upd R 9 2)) 4), .ref p, .int ((f_Reader_takeRow B 48 57 (upd R 9 2)) 6), .int ((f_Reader_takeRow B 48 57 (upd R 9 2)) 7), .int ((f_Reader_takeRow B 48 57 (upd R 9 2)) 8), .int ((f_Reader_takeRow B 48 57 (upd R 9 2)) 9), .int ((f_Reader_takeRow B 48 57 (upd R 9 2)) 10)]))]) hnd rfl rfl ?_
        refine pw_goto (tgt := 176) e_Reader_nextToken_158 (by decide) ?_
        refine pw_vret e_Reader_nextToken_176 rfl ?_
        rw [f_Reader_nextToken_105, if_pos H1, if_neg H2, if_neg H4] at hk
        exact hk
  · refine pw_iload_n e_Reader_nextToken_111 rfl ?_
    refine pw_bipush (v := nI 122) e_Reader_nextToken_112 (by decide) ?_
    refine pw_icmp_gt (tgt := 133) e_Reader_nextToken_114 (by decide) (fun (H6 : 122 < sg) => ?_) (fun (H6 : ¬ 122 < sg) => ?_)
    · refine pw_iload_n e_Reader_nextToken_133 rfl ?_
      refine pw_bipush (v := nI 48) e_Reader_nextToken_134 (by decide) ?_
      refine pw_icmp_lt (tgt := 161) e_Reader_nextToken_136 (by decide) (fun (H7 : sg < 48) => ?_) (fun (H7 : ¬ sg < 48) => ?_)
      · refine pw_aload_n e_Reader_nextToken_161 rfl ?_
        refine pw_iload_n e_Reader_nextToken_162 rfl ?_
        refine pw_bipush (v := nI 59) e_Reader_nextToken_163 (by decide) ?_
        refine pw_icmp_ne (tgt := 172) e_Reader_nextToken_165 (by decide) (fun (H8 : ¬ sg = 59) => ?_) (fun (H8 : sg = 59) => ?_)
        · refine pw_iconst (v := nI 4) e_Reader_nextToken_172 (by decide) ?_
          refine pw_putO (i := 0) (l2 := [(r, .inr (7, [.int ((upd R 9 4) 0), .int ((upd R 9 4) 1), .ref y, .int ((upd R 9 4) 3), .int ((upd R 9 4) 4), .ref p, .int ((upd R 9 4) 6), .int ((upd R 9 4) 7), .int ((upd R 9 4) 8), .int ((upd R 9 4) 9), .int ((upd R 9 4) 10)]))]) e_Reader_nextToken_173 fp_Reader_45 hnd rfl rfl (Nat.le_of_ble_eq_true rfl) rfl rfl rfl ?_
          refine pw_vret e_Reader_nextToken_176 rfl ?_
          rw [f_Reader_nextToken_105, if_neg H1, if_pos H6, if_pos H7, if_neg H8] at hk
          exact hk
        · refine pw_iconst (v := nI 3) e_Reader_nextToken_168 (by decide) ?_
          refine pw_goto (tgt := 173) e_Reader_nextToken_169 (by decide) ?_
          refine pw_putO (i := 0) (l2 := [(r, .inr (7, [.int ((upd R 9 3) 0), .int ((upd R 9 3) 1), .ref y, .int ((upd R 9 3) 3), .int ((upd R 9 3) 4), .ref p, .int ((upd R 9 3) 6), .int ((upd R 9 3) 7), .int ((upd R 9 3) 8), .int ((upd R 9 3) 9), .int ((upd R 9 3) 10)]))]) e_Reader_nextToken_173 fp_Reader_45 hnd rfl rfl (Nat.le_of_ble_eq_true rfl) rfl rfl rfl ?_
          refine pw_vret e_Reader_nextToken_176 rfl ?_
          rw [f_Reader_nextToken_105, if_neg H1, if_pos H6, if_pos H7, if_pos H8] at hk
          exact hk
      · refine pw_iload_n e_Reader_nextToken_139 rfl ?_
        refine pw_bipush (v := nI 57) e_Reader_nextToken_140 (by decide) ?_
        refine pw_icmp_gt (tgt := 161) e_Reader_nextToken_142 (by decide) (fun (H9 : 57 < sg) => ?_) (fun (H9 : ¬ 57 < sg) => ?_)
        · refine pw_aload_n e_Reader_nextToken_161 rfl ?_
          refine pw_iload_n e_Reader_nextToken_162 rfl ?_
          refine pw_bipush (v := nI 59) e_Reader_nextToken_163 (by decide) ?_
          refine pw_icmp_ne (tgt := 172) e_Reader_nextToken_165 (by decide) (fun (H10 : ¬ sg = 59) => ?_) (fun (H10 : sg = 59) => ?_)
          · refine pw_iconst (v := nI 4) e_Reader_nextToken_172 (by decide) ?_
            refine pw_putO (i := 0) (l2 := [(r, .inr (7, [.int ((upd R 9 4) 0), .int ((upd R 9 4) 1), .ref y, .int ((upd R 9 4) 3), .int ((upd R 9 4) 4), .ref p, .int ((upd R 9 4) 6), .int ((upd R 9 4) 7), .int ((upd R 9 4) 8), .int ((upd R 9 4) 9), .int ((upd R 9 4) 10)]))]) e_Reader_nextToken_173 fp_Reader_45 hnd rfl rfl (Nat.le_of_ble_eq_true rfl) rfl rfl rfl ?_
            refine pw_vret e_Reader_nextToken_176 rfl ?_
            rw [f_Reader_nextToken_105, if_neg H1, if_pos H6, if_neg H7, if_pos H9, if_neg H10] at hk
            exact hk
          · refine pw_iconst (v := nI 3) e_Reader_nextToken_168 (by decide) ?_
            refine pw_goto (tgt := 173) e_Reader_nextToken_169 (by decide) ?_
            refine pw_putO (i := 0) (l2 := [(r, .inr (7, [.int ((upd R 9 3) 0), .int ((upd R 9 3) 1), .ref y, .int ((upd R 9 3) 3), .int ((upd R 9 3) 4), .ref p, .int ((upd R 9 3) 6), .int ((upd R 9 3) 7), .int ((upd R 9 3) 8), .int ((upd R 9 3) 9), .int ((upd R 9 3) 10)]))]) e_Reader_nextToken_173 fp_Reader_45 hnd rfl rfl (Nat.le_of_ble_eq_true rfl) rfl rfl rfl ?_
            refine pw_vret e_Reader_nextToken_176 rfl ?_
            rw [f_Reader_nextToken_105, if_neg H1, if_pos H6, if_neg H7, if_pos H9, if_pos H10] at hk
            exact hk
        · refine pw_aload_n e_Reader_nextToken_145 rfl ?_
          refine pw_iconst (v := nI 2) e_Reader_nextToken_146 (by decide) ?_
          refine pw_putO (i := 0) (l2 := [(r, .inr (7, [.int ((upd R 9 2) 0), .int ((upd R 9 2) 1), .ref y, .int ((upd R 9 2) 3), .int ((upd R 9 2) 4), .ref p, .int ((upd R 9 2) 6), .int ((upd R 9 2) 7), .int ((upd R 9 2) 8), .int ((upd R 9 2) 9), .int ((upd R 9 2) 10)]))]) e_Reader_nextToken_147 fp_Reader_45 hnd rfl rfl (Nat.le_of_ble_eq_true rfl) rfl rfl rfl ?_
          refine pw_aload_n e_Reader_nextToken_150 rfl ?_
          refine pw_bipush (v := nI 48) e_Reader_nextToken_151 (by decide) ?_
          refine pw_bipush (v := nI 57) e_Reader_nextToken_153 (by decide) ?_
          refine pw_detV (As := [.int (nI (48)), .int (nI (57))]) e_Reader_nextToken_155 li_Reader_220 rfl (ov_get hnd rfl (i := 0) rfl) (q_Reader_takeRow hst hnd (fun l hl => by rw [ov_same hnd rfl hl]; exact hy l hl) 48 57 (upd R 9 2) (ov_get hnd rfl (i := 0) rfl) (hi0.tok _)) rfl (by decide) (Nat.le_of_ble_eq_true rfl) rfl ?_
          refine pw_same (l2 := [(r, .inr (7, [.int ((f_Reader_takeRow B 48 57 (upd R 9 2)) 0), .int ((f_Reader_takeRow B 48 57 (upd R 9 2)) 1), .ref y, .int ((f_Reader_takeRow B 48 57 (upd R 9 2)) 3), .int ((f_Reader_takeRow B 48 57 (upd R 9 2)) 4), .ref p, .int ((f_Reader_takeRow B 48 57 (upd R 9 2)) 6), .int ((f_Reader_takeRow B 48 57 (upd R 9 2)) 7), .int ((f_Reader_takeRow B 48 57 (upd R 9 2)) 8), .int ((f_Reader_takeRow B 48 57 (upd R 9 2)) 9), .int ((f_Reader_takeRow B 48 57 (upd R 9 2)) 10)]))]) hnd rfl rfl ?_
          refine pw_goto (tgt := 176) e_Reader_nextToken_158 (by decide) ?_
          refine pw_vret e_Reader_nextToken_176 rfl ?_
          rw [f_Reader_nextToken_105, if_neg H1, if_pos H6, if_neg H7, if_neg H9] at hk
          exact hk
    · refine pw_aload_n e_Reader_nextToken_117 rfl ?_
      refine pw_iconst (v := nI 1) e_Reader_nextToken_118 (by decide) ?_
      refine pw_putO (i := 0) (l2 := [(r, .inr (7, [.int ((upd R 9 1) 0), .int ((upd R 9 1) 1), .ref y, .int ((upd R 9 1) 3), .int ((upd R 9 1) 4), .ref p, .int ((upd R 9 1) 6), .int ((upd R 9 1) 7), .int ((upd R 9 1) 8), .int ((upd R 9 1) 9), .int ((upd R 9 1) 10)]))]) e_Reader_nextToken_119 fp_Reader_45 hnd rfl rfl (Nat.le_of_ble_eq_true rfl) rfl rfl rfl ?_
      refine pw_aload_n e_Reader_nextToken_122 rfl ?_
      refine pw_bipush (v := nI 97) e_Reader_nextToken_123 (by decide) ?_
      refine pw_bipush (v := nI 122) e_Reader_nextToken_125 (by decide) ?_
      refine pw_detV (As := [.int (nI (97)), .int (nI (122))]) e_Reader_nextToken_127 li_Reader_220 rfl (ov_get hnd rfl (i := 0) rfl) (q_Reader_takeRow hst hnd (fun l hl => by rw [ov_same hnd rfl hl]; exact hy l hl) 97 122 (upd R 9 1) (ov_get hnd rfl (i := 0) rfl) (hi0.tok _)) rfl (by decide) (Nat.le_of_ble_eq_true rfl) rfl ?_
      refine pw_same (l2 := [(r, .inr (7, [.int ((f_Reader_takeRow B 97 122 (upd R 9 1)) 0), .int ((f_Reader_takeRow B 97 122 (upd R 9 1)) 1), .ref y, .int ((f_Reader_takeRow B 97 122 (upd R 9 1)) 3), .int ((f_Reader_takeRow B 97 122 (upd R 9 1)) 4), .ref p, .int ((f_Reader_takeRow B 97 122 (upd R 9 1)) 6), .int ((f_Reader_takeRow B 97 122 (upd R 9 1)) 7), .int ((f_Reader_takeRow B 97 122 (upd R 9 1)) 8), .int ((f_Reader_takeRow B 97 122 (upd R 9 1)) 9), .int ((f_Reader_takeRow B 97 122 (upd R 9 1)) 10)]))]) hnd rfl rfl ?_
      refine pw_goto (tgt := 176) e_Reader_nextToken_130 (by decide) ?_
      refine pw_vret e_Reader_nextToken_176 rfl ?_
      rw [f_Reader_nextToken_105, if_neg H1, if_neg H6] at hk
      exact hk
def f_Reader_nextToken_85 (B : Nat → Int32) (R : Nat → Int32) : (Nat → Int32) :=
  f_Reader_nextToken_105 B (upd R 4 ((R 4) + 1)) (B (R 4).toNatClampNeg)
set_option maxRecDepth 4000 in
theorem w_Reader_nextToken_85 {g : GG} {Q : QT} {h : Hp} {kc ks : Nat} (hst : (gl g).stackTraces = false) {r y p : Nat} (hnd : [r].Nodup) {B : Nat → Int32} (hy : ∀ l : List (Nat × va_E), l.map Prod.fst = [r] → ov h l y = some (aB g 900 B))  (R : Nat → Int32) (hi0 : RI R) (hlt : ¬ R 3 ≤ R 4) (hk : Q (.inl none) (ov h [(r, .inr (7, [.int ((f_Reader_nextToken_85 B R) 0), .int ((f_Reader_nextToken_85 B R) 1), .ref y, .int ((f_Reader_nextToken_85 B R) 3), .int ((f_Reader_nextToken_85 B R) 4), .ref p, .int ((f_Reader_nextToken_85 B R) 6), .int ((f_Reader_nextToken_85 B R) 7), .int ((f_Reader_nextToken_85 B R) 8), .int ((f_Reader_nextToken_85 B R) 9), .int ((f_Reader_nextToken_85 B R) 10)]))])) : PW g M_Reader_nextToken 1 kc ks Q 85 [.ref (r), .retAddr 0] [] (ov h [(r, .inr (7, [.int (R 0), .int (R 1), .ref y, .int (R 3), .int (R 4), .ref p, .int (R 6), .int (R 7), .int (R 8), .int (R 9), .int (R 10)]))]) := by
  refine pw_aload_n e_Reader_nextToken_85 rfl ?_
  refine pw_getf e_Reader_nextToken_86 fl_Reader_18 (ov_get hnd rfl (i := 0) rfl) rfl ?_
  refine pw_aload_n e_Reader_nextToken_89 rfl ?_
  refine pw_getf e_Reader_nextToken_90 fl_Reader_25 (ov_get hnd rfl (i := 0) rfl) rfl ?_
  refine pw_bald e_Reader_nextToken_93 (hy _ rfl) (hi0.at hlt) ?_
  refine pw_istore_n (ls2 := [_, _]) e_Reader_nextToken_94 (by decide) rfl ?_
  refine pw_aload_n e_Reader_nextToken_95 rfl ?_
  refine pw_dup e_Reader_nextToken_96 rfl ?_
  refine pw_getf e_Reader_nextToken_97 fl_Reader_25 (ov_get hnd rfl (i := 0) rfl) rfl ?_
  refine pw_iconst (v := nI 1) e_Reader_nextToken_100 (by decide) ?_
  refine pw_iadd e_Reader_nextToken_101 ?_
  refine pw_putO (i := 0) (l2 := [(r, .inr (7, [.int ((upd R 4 ((R 4) + 1)) 0), .int ((upd R 4 ((R 4) + 1)) 1), .ref y, .int ((upd R 4 ((R 4) + 1)) 3), .int ((upd R 4 ((R 4) + 1)) 4), .ref p, .int ((upd R 4 ((R 4) + 1)) 6), .int ((upd R 4 ((R 4) + 1)) 7), .int ((upd R 4 ((R 4) + 1)) 8), .int ((upd R 4 ((R 4) + 1)) 9), .int ((upd R 4 ((R 4) + 1)) 10)]))]) e_Reader_nextToken_102 fp_Reader_25 hnd rfl rfl (Nat.le_of_ble_eq_true rfl) rfl rfl rfl ?_
  refine w_Reader_nextToken_105 hst hnd hy (upd R 4 ((R 4) + 1)) (B (R 4).toNatClampNeg) (hi0.inc hlt) ?_
  rw [f_Reader_nextToken_85] at hk
  exact hk
def f_Reader_nextToken_68 (B : Nat → Int32) (R : Nat → Int32) : (Nat → Int32) :=
  if (R 4) < (R 3) then f_Reader_nextToken_85 B R else upd R 9 0
set_option maxRecDepth 4000 in
theorem w_Reader_nextToken_68 {g : GG} {Q : QT} {h : Hp} {kc ks : Nat} (hst : (gl g).stackTraces = false) {r y p : Nat} (hnd : [r].Nodup) {B : Nat → Int32} (hy : ∀ l : List (Nat × va_E), l.map Prod.fst = [r] → ov h l y = some (aB g 900 B))  (R : Nat → Int32) (hi0 : RI R) (hk : Q (.inl none) (ov h [(r, .inr (7, [.int ((f_Reader_nextToken_68 B R) 0), .int ((f_Reader_nextToken_68 B R) 1), .ref y, .int ((f_Reader_nextToken_68 B R) 3), .int ((f_Reader_nextToken_68 B R) 4), .ref p, .int ((f_Reader_nextToken_68 B R) 6), .int ((f_Reader_nextToken_68 B R) 7), .int ((f_Reader_nextToken_68 B R) 8), .int ((f_Reader_nextToken_68 B R) 9), .int ((f_Reader_nextToken_68 B R) 10)]))])) : PW g M_Reader_nextToken 1 kc ks Q 68 [.ref (r), .retAddr 0] [] (ov h [(r, .inr (7, [.int (R 0), .int (R 1), .ref y, .int (R 3), .int (R 4), .ref p, .int (R 6), .int (R 7), .int (R 8), .int (R 9), .int (R 10)]))]) := by
  refine pw_aload_n e_Reader_nextToken_68 rfl ?_
  refine pw_getf e_Reader_nextToken_69 fl_Reader_25 (ov_get hnd rfl (i := 0) rfl) rfl ?_
  refine pw_aload_n e_Reader_nextToken_72 rfl ?_
  refine pw_getf e_Reader_nextToken_73 fl_Reader_22 (ov_get hnd rfl (i := 0) rfl) rfl ?_
  refine pw_icmp_lt (tgt := 85) e_Reader_nextToken_76 (by decide) (fun (H1 : (R 4) < (R 3)) => ?_) (fun (H1 : ¬ (R 4) < (R 3)) => ?_)
  · refine w_Reader_nextToken_85 hst hnd hy R hi0 (Int32.not_le.mpr H1) ?_
    rw [f_Reader_nextToken_68, if_pos H1] at hk
    exact hk
  · refine pw_aload_n e_Reader_nextToken_79 rfl ?_
    refine pw_iconst (v := nI 0) e_Reader_nextToken_80 (by decide) ?_
    refine pw_putO (i := 0) (l2 := [(r, .inr (7, [.int ((upd R 9 0) 0), .int ((upd R 9 0) 1), .ref y, .int ((upd R 9 0) 3), .int ((upd R 9 0) 4), .ref p, .int ((upd R 9 0) 6), .int ((upd R 9 0) 7), .int ((upd R 9 0) 8), .int ((upd R 9 0) 9), .int ((upd R 9 0) 10)]))]) e_Reader_nextToken_81 fp_Reader_45 hnd rfl rfl (Nat.le_of_ble_eq_true rfl) rfl rfl rfl ?_
    refine pw_vret e_Reader_nextToken_84 rfl ?_
    rw [f_Reader_nextToken_68, if_neg H1] at hk
    exact hk
def f_Reader_nextToken_60 (B : Nat → Int32) (R : Nat → Int32) : (Nat → Int32) :=
  f_Reader_nextToken_68 B (upd R 10 (R 4))
set_option maxRecDepth 4000 in
theorem w_Reader_nextToken_60 {g : GG} {Q : QT} {h : Hp} {kc ks : Nat} (hst : (gl g).stackTraces = false) {r y p : Nat} (hnd : [r].Nodup) {B : Nat → Int32} (hy : ∀ l : List (Nat × va_E), l.map Prod.fst = [r] → ov h l y = some (aB g 900 B))  (R : Nat → Int32) (hi0 : RI R) (hk : Q (.inl none) (ov h [(r, .inr (7, [.int ((f_Reader_nextToken_60 B R) 0), .int ((f_Reader_nextToken_60 B R) 1), .ref y, .int ((f_Reader_nextToken_60 B R) 3), .int ((f_Reader_nextToken_60 B R) 4), .ref p, .int ((f_Reader_nextToken_60 B R) 6), .int ((f_Reader_nextToken_60 B R) 7), .int ((f_Reader_nextToken_60 B R) 8), .int ((f_Reader_nextToken_60 B R) 9), .int ((f_Reader_nextToken_60 B R) 10)]))])) : PW g M_Reader_nextToken 1 kc ks Q 60 [.ref (r), .retAddr 0] [] (ov h [(r, .inr (7, [.int (R 0), .int (R 1), .ref y, .int (R 3), .int (R 4), .ref p, .int (R 6), .int (R 7), .int (R 8), .int (R 9), .int (R 10)]))]) := by
  refine pw_aload_n e_Reader_nextToken_60 rfl ?_
  refine pw_aload_n e_Reader_nextToken_61 rfl ?_
  refine pw_getf e_Reader_nextToken_62 fl_Reader_25 (ov_get hnd rfl (i := 0) rfl) rfl ?_
  refine pw_putO (i := 0) (l2 := [(r, .inr (7, [.int ((upd R 10 (R 4)) 0), .int ((upd R 10 (R 4)) 1), .ref y, .int ((upd R 10 (R 4)) 3), .int ((upd R 10 (R 4)) 4), .ref p, .int ((upd R 10 (R 4)) 6), .int ((upd R 10 (R 4)) 7), .int ((upd R 10 (R 4)) 8), .int ((upd R 10 (R 4)) 9), .int ((upd R 10 (R 4)) 10)]))]) e_Reader_nextToken_65 fp_Reader_48 hnd rfl rfl (Nat.le_of_ble_eq_true rfl) rfl rfl rfl ?_
  refine w_Reader_nextToken_68 hst hnd hy (upd R 10 (R 4)) hi0.tokAt ?_
  rw [f_Reader_nextToken_60] at hk
  exact hk
def f_Reader_nextToken_8 (B : Nat → Int32) : Nat → (Nat → Int32) → (Nat → Int32)
  | 0, R => R
  | t + 1, R => if (R 3) ≤ (R 4) then R else if (B (R 4).toNatClampNeg) = 32 then f_Reader_nextToken_8 B t (upd R 4 ((R 4) + 1)) else if (B (R 4).toNatClampNeg) = 10 then f_Reader_nextToken_8 B t (upd R 4 ((R 4) + 1)) else R
set_option maxRecDepth 4000 in
theorem w_Reader_nextToken_8 {g : GG} {Q : QT} {h : Hp} {kc ks : Nat} (hst : (gl g).stackTraces = false) {r y p : Nat} (hnd : [r].Nodup) {B : Nat → Int32} (hy : ∀ l : List (Nat × va_E), l.map Prod.fst = [r] → ov h l y = some (aB g 900 B))  (t : Nat) : ∀ (R : Nat → Int32) (hi0 : RI R) (hlt : mu R < t) (hk : PW g M_Reader_nextToken 1 kc ks Q 60 [.ref (r), .retAddr 0] [] (ov h [(r, .inr (7, [.int ((f_Reader_nextToken_8 B t R) 0), .int ((f_Reader_nextToken_8 B t R) 1), .ref y, .int ((f_Reader_nextToken_8 B t R) 3), .int ((f_Reader_nextToken_8 B t R) 4), .ref p, .int ((f_Reader_nextToken_8 B t R) 6), .int ((f_Reader_nextToken_8 B t R) 7), .int ((f_Reader_nextToken_8 B t R) 8), .int ((f_Reader_nextToken_8 B t R) 9), .int ((f_Reader_nextToken_8 B t R) 10)]))])), PW g M_Reader_nextToken 1 kc ks Q 8 [.ref (r), .retAddr 0] [] (ov h [(r, .inr (7, [.int (R 0), .int (R 1), .ref y, .int (R 3), .int (R 4), .ref p, .int (R 6), .int (R 7), .int (R 8), .int (R 9), .int (R 10)]))]) := by
  induction t with
  | zero => intro R hi0 hlt _; exact absurd hlt (Nat.not_lt_zero _)
  | succ t ih =>
    intro R hi0 hlt hk
    refine pw_aload_n e_Reader_nextToken_8 rfl ?_
    refine pw_getf e_Reader_nextToken_9 fl_Reader_25 (ov_get hnd rfl (i := 0) rfl) rfl ?_
    refine pw_aload_n e_Reader_nextToken_12 rfl ?_
    refine pw_getf e_Reader_nextToken_13 fl_Reader_22 (ov_get hnd rfl (i := 0) rfl) rfl ?_
    refine pw_icmp_ge (tgt := 60) e_Reader_nextToken_16 (by decide) (fun (H1 : (R 3) ≤ (R 4)) => ?_) (fun (H1 : ¬ (R 3) ≤ (R 4)) => ?_)
    · rw [f_Reader_nextToken_8, if_pos H1] at hk
      exact hk
    · refine pw_aload_n e_Reader_nextToken_19 rfl ?_
      refine pw_getf e_Reader_nextToken_20 fl_Reader_18 (ov_get hnd rfl (i := 0) rfl) rfl ?_
      refine pw_aload_n e_Reader_nextToken_23 rfl ?_
      refine pw_getf e_Reader_nextToken_24 fl_Reader_25 (ov_get hnd rfl (i := 0) rfl) rfl ?_
      refine pw_bald e_Reader_nextToken_27 (hy _ rfl) (hi0.at (by assumption)) ?_
      refine pw_bipush (v := nI 32) e_Reader_nextToken_28 (by decide) ?_
      refine pw_icmp_eq (tgt := 47) e_Reader_nextToken_30 (by decide) (fun (H2 : (B (R 4).toNatClampNeg) = 32) => ?_) (fun (H2 : ¬ (B (R 4).toNatClampNeg) = 32) => ?_)
      · refine pw_aload_n e_Reader_nextToken_47 rfl ?_
        refine pw_dup e_Reader_nextToken_48 rfl ?_
        refine pw_getf e_Reader_nextToken_49 fl_Reader_25 (ov_get hnd rfl (i := 0) rfl) rfl ?_
        refine pw_iconst (v := nI 1) e_Reader_nextToken_52 (by decide) ?_
        refine pw_iadd e_Reader_nextToken_53 ?_
        refine pw_putO (i := 0) (l2 := [(r, .inr (7, [.int ((upd R 4 ((R 4) + 1)) 0), .int ((upd R 4 ((R 4) + 1)) 1), .ref y, .int ((upd R 4 ((R 4) + 1)) 3), .int ((upd R 4 ((R 4) + 1)) 4), .ref p, .int ((upd R 4 ((R 4) + 1)) 6), .int ((upd R 4 ((R 4) + 1)) 7), .int ((upd R 4 ((R 4) + 1)) 8), .int ((upd R 4 ((R 4) + 1)) 9), .int ((upd R 4 ((R 4) + 1)) 10)]))]) e_Reader_nextToken_54 fp_Reader_25 hnd rfl rfl (Nat.le_of_ble_eq_true rfl) rfl rfl rfl ?_
        refine pw_goto (tgt := 8) e_Reader_nextToken_57 (by decide) ?_
        refine ih (upd R 4 ((R 4) + 1)) (hi0.inc (by assumption)) (RI.muS (by assumption) hlt) ?_
        rw [f_Reader_nextToken_8, if_neg H1, if_pos H2] at hk
        exact hk
      · refine pw_aload_n e_Reader_nextToken_33 rfl ?_
        refine pw_getf e_Reader_nextToken_34 fl_Reader_18 (ov_get hnd rfl (i := 0) rfl) rfl ?_
        refine pw_aload_n e_Reader_nextToken_37 rfl ?_
        refine pw_getf e_Reader_nextToken_38 fl_Reader_25 (ov_get hnd rfl (i := 0) rfl) rfl ?_
        refine pw_bald e_Reader_nextToken_41 (hy _ rfl) (hi0.at (by assumption)) ?_
        refine pw_bipush (v := nI 10) e_Reader_nextToken_42 (by decide) ?_
        refine pw_icmp_ne (tgt := 60) e_Reader_nextToken_44 (by decide) (fun (H3 : ¬ (B (R 4).toNatClampNeg) = 10) => ?_) (fun (H3 : (B (R 4).toNatClampNeg) = 10) => ?_)
        · rw [f_Reader_nextToken_8, if_neg H1, if_neg H2, if_neg H3] at hk
          exact hk
        · refine pw_aload_n e_Reader_nextToken_47 rfl ?_
          refine pw_dup e_Reader_nextToken_48 rfl ?_
          refine pw_getf e_Reader_nextToken_49 fl_Reader_25 (ov_get hnd rfl (i := 0) rfl) rfl ?_
          refine pw_iconst (v := nI 1) e_Reader_nextToken_52 (by decide) ?_
          refine pw_iadd e_Reader_nextToken_53 ?_
          refine pw_putO (i := 0) (l2 := [(r, .inr (7, [.int ((upd R 4 ((R 4) + 1)) 0), .int ((upd R 4 ((R 4) + 1)) 1), .ref y, .int ((upd R 4 ((R 4) + 1)) 3), .int ((upd R 4 ((R 4) + 1)) 4), .ref p, .int ((upd R 4 ((R 4) + 1)) 6), .int ((upd R 4 ((R 4) + 1)) 7), .int ((upd R 4 ((R 4) + 1)) 8), .int ((upd R 4 ((R 4) + 1)) 9), .int ((upd R 4 ((R 4) + 1)) 10)]))]) e_Reader_nextToken_54 fp_Reader_25 hnd rfl rfl (Nat.le_of_ble_eq_true rfl) rfl rfl rfl ?_
          refine pw_goto (tgt := 8) e_Reader_nextToken_57 (by decide) ?_
          refine ih (upd R 4 ((R 4) + 1)) (hi0.inc (by assumption)) (RI.muS (by assumption) hlt) ?_
          rw [f_Reader_nextToken_8, if_neg H1, if_neg H2, if_pos H3] at hk
          exact hk
theorem nt_RI (B : Nat → Int32) : ∀ (t : Nat) (R : Nat → Int32), RI R → RI (f_Reader_nextToken_8 B t R) := by
  intro t
  induction t with
  | zero => intro R h; exact h
  | succ t ih =>
    intro R h
    rw [f_Reader_nextToken_8]
    split
    · exact h
    · rename_i q
      split
      · exact ih _ (h.inc q)
      · split
        · exact ih _ (h.inc q)
        · exact h
def f_Reader_nextToken (B : Nat → Int32) (R : Nat → Int32) : (Nat → Int32) :=
  if (R 1) = 0 then f_Reader_nextToken_60 B (f_Reader_nextToken_8 B 901 R) else R
set_option maxRecDepth 4000 in
theorem w_Reader_nextToken_0 {g : GG} {Q : QT} {h : Hp} {kc ks : Nat} (hst : (gl g).stackTraces = false) {r y p : Nat} (hnd : [r].Nodup) {B : Nat → Int32} (hy : ∀ l : List (Nat × va_E), l.map Prod.fst = [r] → ov h l y = some (aB g 900 B))  (R : Nat → Int32) (hi0 : RI R) (hk : Q (.inl none) (ov h [(r, .inr (7, [.int ((f_Reader_nextToken B R) 0), .int ((f_Reader_nextToken B R) 1), .ref y, .int ((f_Reader_nextToken B R) 3), .int ((f_Reader_nextToken B R) 4), .ref p, .int ((f_Reader_nextToken B R) 6), .int ((f_Reader_nextToken B R) 7), .int ((f_Reader_nextToken B R) 8), .int ((f_Reader_nextToken B R) 9), .int ((f_Reader_nextToken B R) 10)]))])) : PW g M_Reader_nextToken 1 kc ks Q 0 [.ref (r), .retAddr 0] [] (ov h [(r, .inr (7, [.int (R 0), .int (R 1), .ref y, .int (R 3), .int (R 4), .ref p, .int (R 6), .int (R 7), .int (R 8), .int (R 9), .int (R 10)]))]) := by
  refine pw_aload_n e_Reader_nextToken_0 rfl ?_
  refine pw_getf e_Reader_nextToken_1 fl_Reader_15 (ov_get hnd rfl (i := 0) rfl) rfl ?_
  refine pw_if_eq (tgt := 8) e_Reader_nextToken_4 (by decide) (fun (H1 : (R 1) = 0) => ?_) (fun (H1 : ¬ (R 1) = 0) => ?_)
  · refine w_Reader_nextToken_8 hst hnd hy 901 R hi0 hi0.mu0 ?_
    refine w_Reader_nextToken_60 hst hnd hy (f_Reader_nextToken_8 B 901 R) (nt_RI B _ _ hi0) ?_
    rw [f_Reader_nextToken, if_pos H1] at hk
    exact hk
  · refine pw_vret e_Reader_nextToken_7 rfl ?_
    rw [f_Reader_nextToken, if_neg H1] at hk
    exact hk
theorem q_Reader_nextToken {g : GG} {h : Hp} (hst : (gl g).stackTraces = false) {r y p : Nat} (hnd : [r].Nodup) {B : Nat → Int32} (hy : ∀ l : List (Nat × va_E), l.map Prod.fst = [r] → ov h l y = some (aB g 900 B))  (R : Nat → Int32) (hm_r : h r = some (.inr (7, [.int (R 0), .int (R 1), .ref y, .int (R 3), .int (R 4), .ref p, .int (R 6), .int (R 7), .int (R 8), .int (R 9), .int (R 10)]))) (hi0 : RI R) : PM g M_Reader_nextToken 1 0 0 [.ref (r)] h (RetV none (ov h [(r, .inr (7, [.int ((f_Reader_nextToken B R) 0), .int ((f_Reader_nextToken B R) 1), .ref y, .int ((f_Reader_nextToken B R) 3), .int ((f_Reader_nextToken B R) 4), .ref p, .int ((f_Reader_nextToken B R) 6), .int ((f_Reader_nextToken B R) 7), .int ((f_Reader_nextToken B R) 8), .int ((f_Reader_nextToken B R) 9), .int ((f_Reader_nextToken B R) 10)]))])) := by
  refine PM.of hst (by decide) rfl (fun v hv => ?_) (Nat.le_of_ble_eq_true rfl) ?_
  · simp only [List.mem_cons, List.not_mem_nil, or_false] at hv; rcases hv with rfl <;> rfl
  · have hq := w_Reader_nextToken_0 (g := g) (Q := RetV none (ov h [(r, .inr (7, [.int ((f_Reader_nextToken B R) 0), .int ((f_Reader_nextToken B R) 1), .ref y, .int ((f_Reader_nextToken B R) 3), .int ((f_Reader_nextToken B R) 4), .ref p, .int ((f_Reader_nextToken B R) 6), .int ((f_Reader_nextToken B R) 7), .int ((f_Reader_nextToken B R) 8), .int ((f_Reader_nextToken B R) 9), .int ((f_Reader_nextToken B R) 10)]))])) (h := h) (kc := 0) (ks := 0) (p := p) hst hnd hy R hi0 ?_
    · rw [ov_self (l := [(r, .inr (7, [.int (R 0), .int (R 1), .ref y, .int (R 3), .int (R 4), .ref p, .int (R 6), .int (R 7), .int (R 8), .int (R 9), .int (R 10)]))]) (by simp only [List.mem_cons, List.not_mem_nil, or_false]; rintro q (rfl) <;> assumption)] at hq; exact hq
    · exact ⟨rfl, rfl⟩

theorem t1_RI {B : Nat → Int32} {R : Nat → Int32} {lo hi : Int32} (h : RI R) : RI (f_Reader_takeRow B lo hi R) := by
  rw [f_Reader_takeRow]; exact tr_RI B lo hi 901 _ h
theorem n105_RI {B : Nat → Int32} {R : Nat → Int32} {sg : Int32} (h : RI R) : RI (f_Reader_nextToken_105 B R sg) := by
  have h1 : ∀ v, RI (upd R 9 v) := fun v => h.tok v
  have h2 : ∀ lo hi v, RI (f_Reader_takeRow B lo hi (upd R 9 v)) := fun lo hi v => t1_RI (h1 v)
  rw [f_Reader_nextToken_105]
  generalize upd R 9 = u at h1 h2
  split
  · split
    · split
      · exact h1 _
      · exact h1 _
    · split
      · split
        · exact h1 _
        · exact h1 _
      · exact h2 _ _ _
  · split
    · split
      · split
        · exact h1 _
        · exact h1 _
      · split
        · split
          · exact h1 _
          · exact h1 _
        · exact h2 _ _ _
    · exact h2 _ _ _
theorem n85_RI {B : Nat → Int32} {R : Nat → Int32} (h : RI R) (hlt : ¬ R 3 ≤ R 4) : RI (f_Reader_nextToken_85 B R) := by
  rw [f_Reader_nextToken_85]; exact n105_RI (h.inc hlt)
theorem n68_RI {B : Nat → Int32} {R : Nat → Int32} (h : RI R) : RI (f_Reader_nextToken_68 B R) := by
  rw [f_Reader_nextToken_68]
  split
  · rename_i q; exact n85_RI h (Int32.not_le.mpr q)
  · exact h.tok _
theorem nx_RI {B : Nat → Int32} {R : Nat → Int32} (h : RI R) : RI (f_Reader_nextToken B R) := by
  rw [f_Reader_nextToken]
  split
  · rw [f_Reader_nextToken_60]; exact n68_RI (nt_RI B 901 R h).tokAt
  · exact h
theorem fail_RI {x : Int32} {R : Nat → Int32} (h : RI R) : RI (f_Reader_fail x R) := by
  rw [f_Reader_fail]
  split
  · exact (h.put _ (by decide) (by decide) (by decide)).put _ (by decide) (by decide) (by decide)
  · exact h
