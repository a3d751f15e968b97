/-! the reference: its calls (written by wip/whole/c_mod4.py) -/
/-- how many acts are kept, and where the first of them lies -/
def AcI (Z : Nat → Nat → Int32) : Prop := (Z 100 24 = nI (pN Z 100 24) ∧ pN Z 100 24 ≤ 40) ∧ (Z 100 25 = nI (pN Z 100 25) ∧ pN Z 100 25 < 40)
theorem win_M {x : Int32} {n : Nat} (hn : n < 2 ^ 30) (H : f_Mod_within x (nI 0) (nI n) ≠ 0) : x = nI x.toNatClampNeg ∧ x.toNatClampNeg < n + 1 := by
  rw [f_Mod_within] at H
  by_cases h0 : x < nI 0
  · rw [if_pos h0] at H; exact absurd rfl H
  · rw [if_neg h0] at H
    by_cases h1 : nI n < x
    · rw [if_pos h1] at H; exact absurd rfl H
    · refine toN (by omega) h0 ?_
      rw [i_lt] at h1 ⊢
      rw [nI_toInt (by omega)] at h1 ⊢
      omega
theorem win_M1 {x : Int32} {n : Nat} (hn : n < 2 ^ 30) (H : f_Mod_within x (nI 1) (nI n) ≠ 0) : x = nI x.toNatClampNeg ∧ 1 ≤ x.toNatClampNeg ∧ x.toNatClampNeg < n + 1 := by
  rw [f_Mod_within] at H
  by_cases h0 : x < nI 1
  · rw [if_pos h0] at H; exact absurd rfl H
  · rw [if_neg h0] at H
    by_cases h1 : nI n < x
    · rw [if_pos h1] at H; exact absurd rfl H
    · have a : ¬ x.toInt < 1 := fun q => h0 (i_lt.mpr (by rw [show (nI 1).toInt = 1 by decide]; exact q))
      have b : ¬ (n : Int) < x.toInt := fun q => h1 (i_lt.mpr (by rw [nI_toInt (by omega)]; exact q))
      have e : x.toNatClampNeg = x.toInt.toNat := rfl
      have e2 : x = nI x.toInt.toNat := by
        apply Int32.toInt_inj.mp
        rw [nI_toInt (by omega)]; omega
      rw [e]
      exact ⟨e2, by omega, by omega⟩
theorem z_fault {Z : Nat → Nat → Int32} (h : wfM Z) : wfM (f_Mod_fault Z).2 := h.of rfl rfl rfl rfl rfl rfl rfl rfl rfl rfl rfl rfl
theorem up_o {L : Nat → Nat → Int32} {k a j : Nat} {f : Nat → Int32} {w : Int32} (h : a ≠ k) (p : L a j = w) : va_up L k f a j = w := by
  rw [up_ne h rfl]; exact p
theorem AcI.of {Z Q : Nat → Nat → Int32} (h : AcI Z) (e4 : Q 100 24 = Z 100 24) (e5 : Q 100 25 = Z 100 25) : AcI Q := by
  unfold AcI pN at *
  rw [e4, e5]; exact h
theorem ac_mk {Z : Nat → Nat → Int32} {a f : Nat} (h1 : Z 100 24 = nI a) (ha : a < 40) (h2 : Z 100 25 = nI f) (hf : f < 40) : AcI Z ∧ pN Z 100 24 < 40 := by
  unfold AcI pN
  rw [h1, h2, nI_clamp (by omega), nI_clamp (by omega)]
  exact ⟨⟨⟨rfl, by omega⟩, rfl, hf⟩, ha⟩
theorem ib10 {x : Int32} {Z : Nat → Nat → Int32} (hw : wfM Z) (H : ¬ (f_Mod_isBlock x Z).1 = 0) : x = nI x.toNatClampNeg ∧ x.toNatClampNeg < 10 := by
  have hz := hw.blk.2
  have q := (ib_of hw H).1
  exact ⟨q.1, by omega⟩
theorem ct_of {x y : Int32} {b : Nat} {Z : Nat → Nat → Int32} {c : Nat → Int32} (hw : wfM Z) (H : ¬ f_Mod_canTarget Z b x y c = 0) : x = nI x.toNatClampNeg ∧ x.toNatClampNeg < 10 := by
  have hz := hw.blk.2
  rw [f_Mod_canTarget] at H
  by_cases h1 : f_Mod_within x (nI 0) ((nI (pN Z 100 20)) - 1) = 0
  · rw [if_pos h1] at H; exact absurd rfl H
  · have q := wi_of (by omega) h1
    exact ⟨q.1, by omega⟩
theorem bh_of {x : Int32} {b : Nat} {Z : Nat → Nat → Int32} {c : Nat → Int32} (hw : wfM Z) (H : ¬ f_Mod_byHand Z b x c = -1) : (x = nI x.toNatClampNeg ∧ x.toNatClampNeg < 10) ∧ f_Mod_byHand Z b x c = nI (f_Mod_byHand Z b x c).toNatClampNeg ∧ (f_Mod_byHand Z b x c).toNatClampNeg < 4 := by
  have hz := hw.blk.2
  rw [f_Mod_byHand] at H ⊢
  by_cases h1 : f_Mod_within x (nI 0) ((nI (pN Z 100 20)) - 1) = 0
  · rw [if_pos h1] at H; exact absurd rfl H
  · have q := wi_of (by omega) h1
    refine ⟨⟨q.1, by omega⟩, ?_⟩
    rw [if_neg h1] at H ⊢
    have key : ∀ k : Nat, f_Mod_byHand_16 Z b x c k = -1 ∨ f_Mod_byHand_16 Z b x c k = nI 3 ∨ f_Mod_byHand_16 Z b x c k = nI 2 := by
      intro k
      rw [f_Mod_byHand_16]
      repeat' split
      all_goals first | exact Or.inl rfl | exact Or.inr (Or.inl rfl) | exact Or.inr (Or.inr rfl)
    rcases key x.toNatClampNeg with e | e | e
    · exact absurd e H
    · rw [e]; decide
    · rw [e]; decide
theorem cnt13 {x : Int32} (h : x = nI x.toNatClampNeg ∧ x.toNatClampNeg < 16) (H : ∀ k : Nat, k < 13 → ¬ x = nI k) : 13 ≤ x.toNatClampNeg ∧ x.toNatClampNeg < 16 := by
  refine ⟨?_, h.2⟩
  apply Classical.byContradiction
  intro q
  exact H _ (by omega) h.1
theorem sch_of {x : Int32} (h : x = -1 ∨ ∃ j, j < 5 ∧ x = nI j) (H : ¬ x = -1) : x = nI x.toNatClampNeg ∧ x.toNatClampNeg < 5 := by
  rcases h with e | ⟨j, hj, e⟩
  · exact absurd e H
  · rw [e, nI_clamp (by omega)]; exact ⟨rfl, hj⟩
/-- where a block is taken -/
def hasT (Z : Nat → Nat → Int32) (b k : Nat) : Prop := ∃ j, k ≤ j ∧ j < 10 ∧ pN Z 34 j = b
theorem tk_st {Z : Nat → Nat → Int32} {b k : Nat} (h : hasT Z b k) (H : ¬ pN Z 34 k = b) : hasT Z b (k + 1) := by
  obtain ⟨j, h1, h2, h3⟩ := h
  have : j ≠ k := fun e => H (by rw [← e]; exact h3)
  exact ⟨j, by omega, h2, h3⟩
theorem tk_lt {Z : Nat → Nat → Int32} {b k : Nat} (h : hasT Z b k) : k < 10 := by
  obtain ⟨j, h1, h2, h3⟩ := h; omega
theorem tk_rt {x y : Int32} {Z : Nat → Nat → Int32} {b k : Nat} (h : hasT Z b k) : hasT (f_Mod_right x y Z).2 b k := by
  unfold hasT pN at *; rw [rt_keep (by decide)]; exact h
def TkI (Z : Nat → Nat → Int32) : Prop := ∀ b, b < pN Z 100 20 → hasT Z b 0
/-- what is noted -/
def NtM (Z : Nat → Nat → Int32) : Prop := (Z 100 26 = nI (pN Z 100 26) ∧ pN Z 100 26 ≤ 6) ∧ (∀ i, i < 12 → Z 14 i = nI (pN Z 14 i) ∧ pN Z 14 i < 10)
theorem NtM.of {Z Q : Nat → Nat → Int32} (h : NtM Z) (e6 : Q 100 26 = Z 100 26) (e14 : Q 14 = Z 14) : NtM Q := by
  unfold NtM pN at *
  rw [e6, e14]; exact h
def f_Mod_keptAt (f : Nat) (k : Nat) : Int32 :=
  nI (630 + (210 * ((f + k) % 40)))
set_option maxRecDepth 4000 in
theorem w_Mod_keptAt_0 {g : GG} {Q : QT} {h : Hp} {kc ks : Nat} (hst : (gl g).stackTraces = false) (f : Nat) (k : Nat) (hf : f < 40) (hk9 : k ≤ 40)  (hk : Q (.inl (some (.int (f_Mod_keptAt f k)))) h) : PW g M_Mod_keptAt 0 kc ks Q 0 [.int (nI (f)), .int (nI (k))] [] h := by
  refine pw_sipush (v := nI 630) e_Mod_keptAt_0 (by decide) ?_
  refine pw_sipush (v := nI 210) e_Mod_keptAt_3 (by decide) ?_
  refine pw_iload_n e_Mod_keptAt_6 rfl ?_
  refine pw_iload_n e_Mod_keptAt_7 rfl ?_
  refine pw_iaddN e_Mod_keptAt_8 ?_
  refine pw_bipush (v := nI 40) e_Mod_keptAt_9 (by decide) ?_
  refine pw_iremN (by omega) (by omega) (by omega) e_Mod_keptAt_11 ?_
  refine pw_imulN e_Mod_keptAt_12 ?_
  refine pw_iaddN e_Mod_keptAt_13 ?_
  refine pw_iret e_Mod_keptAt_14 rfl rfl ?_
  rw [f_Mod_keptAt] at hk
  exact hk
theorem q_Mod_keptAt {g : GG} {h : Hp} (hst : (gl g).stackTraces = false) (f : Nat) (k : Nat) (hf : f < 40) (hk9 : k ≤ 40)  : PM g M_Mod_keptAt 0 0 0 [.int (nI (f)), .int (nI (k))] h (RetV (some (.int (f_Mod_keptAt f k))) h) := by
  refine PM.of hst (by decide) rfl (fun v hv => ?_) (Nat.le_of_ble_eq_true rfl) ?_
  · simp only [List.mem_cons, List.not_mem_nil, or_false] at hv; rcases hv with rfl | rfl <;> rfl
  · have hq := w_Mod_keptAt_0 (g := g) (Q := RetV (some (.int (f_Mod_keptAt f k))) h) (h := h) (kc := 0) (ks := 0) hst f k hf hk9 ?_
    · exact hq
    · exact ⟨rfl, rfl⟩

theorem q_keptAt {g : GG} {h : Hp} (hst : (gl g).stackTraces = false) (f k : Nat) (hf : f < 40) (hk : k ≤ 40) : PM g M_Mod_keptAt 0 0 0 [.int (nI f), .int (nI k)] h (RetV (some (.int (nI (630 + 210 * ((f + k) % 40))))) h) := q_Mod_keptAt hst f k hf hk
def f_Mod_keeps_32  (Z : Nat → Nat → Int32) : (Nat → Nat → Int32) :=
  u2 (va_up Z 0 (f_Mod_copies Z 0 (630 + 210 * (((pN Z 100 25) + (pN Z 100 24)) % 40)) 210 (Z 0))) 100 24 (nI ((pN Z 100 24) + 1))
set_option maxRecDepth 4000 in
theorem w_Mod_keeps_32 {g : GG} {Q : QT} {h : Hp} {kc ks : Nat} (hst : (gl g).stackTraces = false) {A : Nat → Nat} (hnd : (gK (moL g A)).Nodup)  (Z : Nat → Nat → Int32) (hw : wfM Z) (hA : AcI Z ∧ pN Z 100 24 < 40) (hk : Q (.inl none) (ov h (gO (moL g A) (f_Mod_keeps_32  Z)))) : PW g M_Mod_keeps 2 kc ks Q 32 [.ref (A 100)] [] (ov h (gO (moL g A) Z)) := by
  have ha1 := hA.2
  have ha2 := hA.1.2.2
  have hz0 := hw.blk.2
  have hz1 := hw.lnk.2
  have hz2 := hw.dvs.2
  refine pw_aload_n e_Mod_keeps_32 rfl ?_
  refine pw_iconst (v := nI 0) e_Mod_keeps_33 (by decide) ?_
  refine pw_aload_n e_Mod_keeps_34 rfl ?_
  refine pw_getf e_Mod_keeps_35 fl_Mod_391 (gO_get hnd (i := 0) rfl) rfl ?_
  refine pw_eqst (congrArg (fun q => Value.int q :: [.int (nI (0)), .ref (A 100)]) (show _ = nI (pN Z 100 25) from hA.1.2.1)) ?_
  refine pw_aload_n e_Mod_keeps_38 rfl ?_
  refine pw_getf e_Mod_keeps_39 fl_Mod_394 (gO_get hnd (i := 0) rfl) rfl ?_
  refine pw_eqst (congrArg (fun q => Value.int q :: [.int (nI (pN Z 100 25)), .int (nI (0)), .ref (A 100)]) (show _ = nI (pN Z 100 24) from hA.1.1.1)) ?_
  have hb1 := Nat.mod_lt ((pN Z 100 25) + (pN Z 100 24)) (show 0 < 40 by decide)
  refine pw_detS (As := [.int (nI (pN Z 100 25)), .int (nI (pN Z 100 24))]) e_Mod_keeps_42 li_Mod_403 (q_keptAt hst (pN Z 100 25) (pN Z 100 24) (by omega) (by omega)) rfl (by decide) (Nat.le_of_ble_eq_true rfl) rfl ?_
  refine pw_sipush (v := nI 210) e_Mod_keeps_45 (by decide) ?_
  refine pw_detV (As := [.int (nI (0)), .int (nI (630 + 210 * (((pN Z 100 25) + (pN Z 100 24)) % 40))), .int (nI (210))]) e_Mod_keeps_48 li_Mod_406 rfl (gO_get hnd (i := 0) rfl) (q_Mod_copies hst (mo_at hnd) hw 0 (630 + 210 * (((pN Z 100 25) + (pN Z 100 24)) % 40)) 210 (by omega) (by omega) (Z 0) (gO_get hnd (i := 1) rfl)) rfl (by decide) (Nat.le_of_ble_eq_true rfl) rfl ?_
  refine pw_upG (i := 1) hnd (mo_x _ _) rfl rfl ?_
  refine pw_aload_n e_Mod_keeps_51 rfl ?_
  refine pw_dup e_Mod_keeps_52 rfl ?_
  refine pw_getf e_Mod_keeps_53 fl_Mod_394 (gO_get hnd (i := 0) rfl) rfl ?_
  refine pw_eqst (congrArg (fun q => Value.int q :: [.ref (A 100)]) (show _ = nI (pN Z 100 24) from (up_o (by decide) hA.1.1.1))) ?_
  refine pw_iconst (v := nI 1) e_Mod_keeps_56 (by decide) ?_
  refine pw_iaddN e_Mod_keeps_57 ?_
  refine pw_putGi (i := 0) (ps := 24) (x := nI ((pN Z 100 24) + 1)) e_Mod_keeps_58 fp_Mod_394 hnd (mo_x _ _) rfl (Nat.le_of_ble_eq_true rfl) rfl rfl (fun _ _ => rfl) ?_
  refine pw_vret e_Mod_keeps_61 rfl ?_
  rw [f_Mod_keeps_32] at hk
  exact hk
def f_Mod_keeps  (Z : Nat → Nat → Int32) : (Nat → Nat → Int32) :=
  if (pN Z 100 24) = 40 then f_Mod_keeps_32  (u2 (u2 Z 100 25 (nI (((pN Z 100 25) + 1) % 40))) 100 24 (nI ((pN Z 100 24) - 1))) else f_Mod_keeps_32  Z
set_option maxRecDepth 4000 in
theorem w_Mod_keeps_0 {g : GG} {Q : QT} {h : Hp} {kc ks : Nat} (hst : (gl g).stackTraces = false) {A : Nat → Nat} (hnd : (gK (moL g A)).Nodup)  (Z : Nat → Nat → Int32) (hw : wfM Z) (hA : AcI Z) (hk : Q (.inl none) (ov h (gO (moL g A) (f_Mod_keeps  Z)))) : PW g M_Mod_keeps 2 kc ks Q 0 [.ref (A 100)] [] (ov h (gO (moL g A) Z)) := by
  have ha1 := hA.1.2
  have ha2 := hA.2.2
  have hz0 := hw.blk.2
  have hz1 := hw.lnk.2
  have hz2 := hw.dvs.2
  refine pw_aload_n e_Mod_keeps_0 rfl ?_
  refine pw_getf e_Mod_keeps_1 fl_Mod_394 (gO_get hnd (i := 0) rfl) rfl ?_
  refine pw_eqst (congrArg (fun q => Value.int q :: []) (show _ = nI (pN Z 100 24) from hA.1.1)) ?_
  refine pw_bipush (v := nI 40) e_Mod_keeps_4 (by decide) ?_
  refine pw_icmp_neN (tgt := 32) e_Mod_keeps_6 (by decide) (by omega) (by omega) (fun (H1 : ¬ (pN Z 100 24) = 40) => ?_) (fun (H1 : (pN Z 100 24) = 40) => ?_)
  · refine w_Mod_keeps_32 hst hnd Z hw ⟨hA, by omega⟩ ?_
    rw [f_Mod_keeps, if_neg H1] at hk
    exact hk
  · refine pw_aload_n e_Mod_keeps_9 rfl ?_
    refine pw_aload_n e_Mod_keeps_10 rfl ?_
    refine pw_getf e_Mod_keeps_11 fl_Mod_391 (gO_get hnd (i := 0) rfl) rfl ?_
    refine pw_eqst (congrArg (fun q => Value.int q :: [.ref (A 100)]) (show _ = nI (pN Z 100 25) from hA.2.1)) ?_
    refine pw_iconst (v := nI 1) e_Mod_keeps_14 (by decide) ?_
    refine pw_iaddN e_Mod_keeps_15 ?_
    refine pw_bipush (v := nI 40) e_Mod_keeps_16 (by decide) ?_
    refine pw_iremN (by omega) (by omega) (by omega) e_Mod_keeps_18 ?_
    refine pw_putGi (i := 0) (ps := 25) (x := nI (((pN Z 100 25) + 1) % 40)) e_Mod_keeps_19 fp_Mod_391 hnd (mo_x _ _) rfl (Nat.le_of_ble_eq_true rfl) rfl rfl (fun _ _ => rfl) ?_
    refine pw_aload_n e_Mod_keeps_22 rfl ?_
    refine pw_dup e_Mod_keeps_23 rfl ?_
    refine pw_getf e_Mod_keeps_24 fl_Mod_394 (gO_get hnd (i := 0) rfl) rfl ?_
    refine pw_eqst (congrArg (fun q => Value.int q :: [.ref (A 100)]) (show _ = nI (pN Z 100 24) from (u2_i (by decide) hA.1.1))) ?_
    refine pw_iconst (v := nI 1) e_Mod_keeps_27 (by decide) ?_
    refine pw_isubN (by omega) e_Mod_keeps_28 ?_
    refine pw_putGi (i := 0) (ps := 24) (x := nI ((pN Z 100 24) - 1)) e_Mod_keeps_29 fp_Mod_394 hnd (mo_x _ _) rfl (Nat.le_of_ble_eq_true rfl) rfl rfl (fun _ _ => rfl) ?_
    refine w_Mod_keeps_32 hst hnd (u2 (u2 Z 100 25 (nI (((pN Z 100 25) + 1) % 40))) 100 24 (nI ((pN Z 100 24) - 1))) (wfM.of (Q := u2 (u2 Z 100 25 (nI (((pN Z 100 25) + 1) % 40))) 100 24 (nI ((pN Z 100 24) - 1))) (wfM.of (Q := u2 Z 100 25 (nI (((pN Z 100 25) + 1) % 40))) hw rfl rfl rfl rfl rfl rfl rfl rfl rfl rfl rfl rfl) rfl rfl rfl rfl rfl rfl rfl rfl rfl rfl rfl rfl) (ac_mk u2_s (by omega) (u2_i (by decide) u2_s) (by omega)) ?_
    rw [f_Mod_keeps, if_pos H1] at hk
    exact hk
theorem q_Mod_keeps {g : GG} {h : Hp} (hst : (gl g).stackTraces = false) {A : Nat → Nat} (hnd : (gK (moL g A)).Nodup)  (Z : Nat → Nat → Int32) (hm : ∀ q ∈ gO (moL g A) Z, h q.1 = some q.2) (hw : wfM Z) (hA : AcI Z) : PM g M_Mod_keeps 2 0 0 [.ref (A 100)] h (RetV none (ov h (gO (moL g A) (f_Mod_keeps  Z)))) := by
  refine PM.of hst (by decide) rfl (fun v hv => ?_) (Nat.le_of_ble_eq_true rfl) ?_
  · simp only [List.mem_cons, List.not_mem_nil, or_false] at hv; rcases hv with rfl <;> rfl
  · have hq := w_Mod_keeps_0 (g := g) (Q := RetV none (ov h (gO (moL g A) (f_Mod_keeps  Z)))) (h := h) (kc := 0) (ks := 0) hst hnd Z hw hA ?_
    · rw [ov_self hm] at hq; exact hq
    · exact ⟨rfl, rfl⟩

theorem z_keeps {Z : Nat → Nat → Int32} (h : wfM Z) : wfM (f_Mod_keeps Z) := by
  rw [f_Mod_keeps]
  repeat' split
  all_goals (rw [f_Mod_keeps_32]; exact (wfM.of h rfl rfl rfl rfl rfl rfl rfl rfl rfl rfl rfl rfl))
def f_Mod_refuses (k : Nat) (Z : Nat → Nat → Int32) : Int32 × (Nat → Nat → Int32) :=
  ((-1), u2 Z 17 k (((Z 17) k) + 1))
set_option maxRecDepth 4000 in
theorem w_Mod_refuses_0 {g : GG} {Q : QT} {h : Hp} {kc ks : Nat} (hst : (gl g).stackTraces = false) {A : Nat → Nat} (hnd : (gK (moL g A)).Nodup) (k : Nat) (hk6 : k < 6)  (Z : Nat → Nat → Int32) (hw : wfM Z) (hk : Q (.inl (some (.int (f_Mod_refuses k Z).1))) (ov h (gO (moL g A) ((f_Mod_refuses k Z).2)))) : PW g M_Mod_refuses 0 kc ks Q 0 [.ref (A 100), .int (nI (k))] [] (ov h (gO (moL g A) Z)) := by
  have hz0 := hw.blk.2
  have hz1 := hw.lnk.2
  have hz2 := hw.dvs.2
  refine pw_aload_n e_Mod_refuses_0 rfl ?_
  refine pw_getf e_Mod_refuses_1 fl_Mod_61 (gO_get hnd (i := 0) rfl) rfl ?_
  refine pw_iload_n e_Mod_refuses_4 rfl ?_
  refine pw_dup2 e_Mod_refuses_5 rfl rfl ?_
  refine pw_ialdN e_Mod_refuses_6 (gO_get hnd (i := 18) rfl) (by omega) (by decide) ?_
  refine pw_iconst (v := nI 1) e_Mod_refuses_7 (by decide) ?_
  refine pw_iadd e_Mod_refuses_8 ?_
  refine pw_iastG (i := 18) e_Mod_refuses_9 hnd (mo_x _ _) rfl (by omega) (by decide) ?_
  refine pw_iconst (v := (-1)) e_Mod_refuses_10 (by decide) ?_
  refine pw_iret e_Mod_refuses_11 rfl rfl ?_
  rw [f_Mod_refuses] at hk
  exact hk
theorem q_Mod_refuses {g : GG} {h : Hp} (hst : (gl g).stackTraces = false) {A : Nat → Nat} (hnd : (gK (moL g A)).Nodup) (k : Nat) (hk6 : k < 6)  (Z : Nat → Nat → Int32) (hm : ∀ q ∈ gO (moL g A) Z, h q.1 = some q.2) (hw : wfM Z) : PM g M_Mod_refuses 0 0 0 [.ref (A 100), .int (nI (k))] h (RetV (some (.int (f_Mod_refuses k Z).1)) (ov h (gO (moL g A) ((f_Mod_refuses k Z).2)))) := by
  refine PM.of hst (by decide) rfl (fun v hv => ?_) (Nat.le_of_ble_eq_true rfl) ?_
  · simp only [List.mem_cons, List.not_mem_nil, or_false] at hv; rcases hv with rfl | rfl <;> rfl
  · have hq := w_Mod_refuses_0 (g := g) (Q := RetV (some (.int (f_Mod_refuses k Z).1)) (ov h (gO (moL g A) ((f_Mod_refuses k Z).2)))) (h := h) (kc := 0) (ks := 0) hst hnd k hk6 Z hw ?_
    · rw [ov_self hm] at hq; exact hq
    · exact ⟨rfl, rfl⟩

theorem z_refuses {k : Nat} {Z : Nat → Nat → Int32} (h : wfM Z) : wfM (f_Mod_refuses k Z).2 := by
  rw [f_Mod_refuses]
  repeat' split
  all_goals first | exact h | exact (wfM.of h rfl rfl rfl rfl rfl rfl rfl rfl rfl rfl rfl rfl)
def f_Mod_takenAt_2 (b : Nat) : Nat → (Nat → Nat → Int32) → (Nat) → Int32
  | 0, _, _ => 0
  | t + 1, Z, k => if (pN Z 34 k) = b then nI (k) else f_Mod_takenAt_2 b t Z (k + 1)
set_option maxRecDepth 4000 in
theorem w_Mod_takenAt_2 {g : GG} {Q : QT} {h : Hp} {kc ks : Nat} (hst : (gl g).stackTraces = false) {A : Nat → Nat} (hnd : (gK (moL g A)).Nodup) (b : Nat) (hb : b < 10)  (t : Nat) : ∀ (Z : Nat → Nat → Int32) (k : Nat) (hw : wfM Z) (hT : hasT Z b k) (hlt : 10 - k < t) (hk : Q (.inl (some (.int (f_Mod_takenAt_2 b t Z k)))) (ov h (gO (moL g A) Z))), PW g M_Mod_takenAt 0 kc ks Q 2 [.ref (A 100), .int (nI (b)), .int (nI (k))] [] (ov h (gO (moL g A) Z)) := by
  induction t with
  | zero => intro Z k hw hT hlt _; exact absurd hlt (Nat.not_lt_zero _)
  | succ t ih =>
    intro Z k hw hT hlt hk
    have hk10 := tk_lt hT
    have hz0 := hw.blk.2
    have hz1 := hw.lnk.2
    have hz2 := hw.dvs.2
    refine pw_aload_n e_Mod_takenAt_2 rfl ?_
    refine pw_getf e_Mod_takenAt_3 fl_Mod_80 (gO_get hnd (i := 0) rfl) rfl ?_
    refine pw_iload_n e_Mod_takenAt_6 rfl ?_
    have hb1 := hw.tak k
    refine pw_ialdC e_Mod_takenAt_7 (gO_get hnd (i := 20) rfl) (by omega) (by decide) hb1.1 ?_
    replace hb1 := hb1.2
    refine pw_iload_n e_Mod_takenAt_8 rfl ?_
    refine pw_icmp_eqN (tgt := 18) e_Mod_takenAt_9 (by decide) (by omega) (by omega) (fun (H2 : (pN Z 34 k) = b) => ?_) (fun (H2 : ¬ (pN Z 34 k) = b) => ?_)
    · refine pw_iload_n e_Mod_takenAt_18 rfl ?_
      refine pw_iret e_Mod_takenAt_19 rfl rfl ?_
      rw [f_Mod_takenAt_2, if_pos H2] at hk
      exact hk
    · refine pw_iincN (ls2 := [_, _, _]) e_Mod_takenAt_12 rfl (by decide) rfl ?_
      refine pw_goto (tgt := 2) e_Mod_takenAt_15 (by decide) ?_
      refine ih Z (k + 1) hw (tk_st hT H2) (by omega) ?_
      rw [f_Mod_takenAt_2, if_neg H2] at hk
      exact hk
def f_Mod_takenAt (b : Nat) (Z : Nat → Nat → Int32) : Int32 :=
  f_Mod_takenAt_2 b 11 Z 0
set_option maxRecDepth 4000 in
theorem w_Mod_takenAt_0 {g : GG} {Q : QT} {h : Hp} {kc ks : Nat} (hst : (gl g).stackTraces = false) {A : Nat → Nat} (hnd : (gK (moL g A)).Nodup) (b : Nat) (hb : b < 10)  (Z : Nat → Nat → Int32) (hw : wfM Z) (hT : hasT Z b 0) (hk : Q (.inl (some (.int (f_Mod_takenAt b Z)))) (ov h (gO (moL g A) Z))) : PW g M_Mod_takenAt 0 kc ks Q 0 [.ref (A 100), .int (nI (b)), .retAddr 0] [] (ov h (gO (moL g A) Z)) := by
  have hz0 := hw.blk.2
  have hz1 := hw.lnk.2
  have hz2 := hw.dvs.2
  refine pw_iconst (v := nI 0) e_Mod_takenAt_0 (by decide) ?_
  refine pw_istore_n (ls2 := [_, _, _]) e_Mod_takenAt_1 (by decide) rfl ?_
  refine w_Mod_takenAt_2 hst hnd b hb 11 Z 0 hw hT (by omega) ?_
  rw [f_Mod_takenAt] at hk
  exact hk
theorem q_Mod_takenAt {g : GG} {h : Hp} (hst : (gl g).stackTraces = false) {A : Nat → Nat} (hnd : (gK (moL g A)).Nodup) (b : Nat) (hb : b < 10)  (Z : Nat → Nat → Int32) (hm : ∀ q ∈ gO (moL g A) Z, h q.1 = some q.2) (hw : wfM Z) (hT : hasT Z b 0) : PM g M_Mod_takenAt 0 0 0 [.ref (A 100), .int (nI (b))] h (RetV (some (.int (f_Mod_takenAt b Z))) h) := by
  refine PM.of hst (by decide) rfl (fun v hv => ?_) (Nat.le_of_ble_eq_true rfl) ?_
  · simp only [List.mem_cons, List.not_mem_nil, or_false] at hv; rcases hv with rfl | rfl <;> rfl
  · have hq := w_Mod_takenAt_0 (g := g) (Q := RetV (some (.int (f_Mod_takenAt b Z))) h) (h := h) (kc := 0) (ks := 0) hst hnd b hb Z hw hT ?_
    · rw [ov_self hm] at hq; exact hq
    · exact ⟨rfl, ov_self hm⟩

def f_Mod_count_22 (x : Int32) (Z : Nat → Nat → Int32) (c : Nat) : Int32 × (Nat → Nat → Int32) :=
  if c = 0 then (nI (pN Z 100 19), Z) else if c = 1 then (nI (pN Z 100 20), Z) else if c = 2 then (nI (pN Z 100 21), Z) else if c = 3 then ((Z 0) 208, Z) else if c = 4 then ((Z 0) 206, Z) else if c = 5 then if ((Z 0) 206) = ((-1)) then ((Z 0) 207, Z) else (0, Z) else if c = 6 then ((Z 0) 205, Z) else if c = 7 then (Z 100 42, Z) else if c = 8 then (Z 100 43, Z) else if c = 9 then ((Z 0) 204, Z) else if c = 10 then (Z 100 24, Z) else if c = 11 then (Z 100 26, Z) else if c = 12 then (Z 100 32, Z) else ((Z 17) (c - 13), Z)
set_option maxRecDepth 4000 in
theorem w_Mod_count_22 {g : GG} {Q : QT} {h : Hp} {kc ks : Nat} (hst : (gl g).stackTraces = false) {A : Nat → Nat} (hnd : (gK (moL g A)).Nodup) (x : Int32)  (Z : Nat → Nat → Int32) (c : Nat) (hw : wfM Z) (hc : c < 16) (hk : Q (.inl (some (.int (f_Mod_count_22 x Z c).1))) (ov h (gO (moL g A) ((f_Mod_count_22 x Z c).2)))) : PW g M_Mod_count 3 kc ks Q 22 [.ref (A 100), .int (nI (c))] [] (ov h (gO (moL g A) Z)) := by
  have hz0 := hw.blk.2
  have hz1 := hw.lnk.2
  have hz2 := hw.dvs.2
  refine pw_iload_n e_Mod_count_22 rfl ?_
  by_cases H1 : c = 0
  · refine pw_tableIn (tgt := 88) e_Mod_count_23 (by rw [nI_toInt (by omega)]; omega) (by rw [nI_toInt (by omega)]; omega) (by rw [nI_toInt (by omega), H1]; rfl) (by decide) ?_
    refine pw_aload_n e_Mod_count_88 rfl ?_
    refine pw_getf e_Mod_count_89 fl_Mod_64 (gO_get hnd (i := 0) rfl) rfl ?_
    rw [show Z 100 19 = nI (pN Z 100 19) from hw.dvs.1]
    refine pw_iret e_Mod_count_92 rfl rfl ?_
    rw [f_Mod_count_22, if_pos H1] at hk
    exact hk
  · by_cases H2 : c = 1
    · refine pw_tableIn (tgt := 93) e_Mod_count_23 (by rw [nI_toInt (by omega)]; omega) (by rw [nI_toInt (by omega)]; omega) (by rw [nI_toInt (by omega), H2]; rfl) (by decide) ?_
      refine pw_aload_n e_Mod_count_93 rfl ?_
      refine pw_getf e_Mod_count_94 fl_Mod_183 (gO_get hnd (i := 0) rfl) rfl ?_
      rw [show Z 100 20 = nI (pN Z 100 20) from hw.blk.1]
      refine pw_iret e_Mod_count_97 rfl rfl ?_
      rw [f_Mod_count_22, if_neg H1, if_pos H2] at hk
      exact hk
    · by_cases H3 : c = 2
      · refine pw_tableIn (tgt := 98) e_Mod_count_23 (by rw [nI_toInt (by omega)]; omega) (by rw [nI_toInt (by omega)]; omega) (by rw [nI_toInt (by omega), H3]; rfl) (by decide) ?_
        refine pw_aload_n e_Mod_count_98 rfl ?_
        refine pw_getf e_Mod_count_99 fl_Mod_162 (gO_get hnd (i := 0) rfl) rfl ?_
        rw [show Z 100 21 = nI (pN Z 100 21) from hw.lnk.1]
        refine pw_iret e_Mod_count_102 rfl rfl ?_
        rw [f_Mod_count_22, if_neg H1, if_neg H2, if_pos H3] at hk
        exact hk
      · by_cases H4 : c = 3
        · refine pw_tableIn (tgt := 103) e_Mod_count_23 (by rw [nI_toInt (by omega)]; omega) (by rw [nI_toInt (by omega)]; omega) (by rw [nI_toInt (by omega), H4]; rfl) (by decide) ?_
          refine pw_aload_n e_Mod_count_103 rfl ?_
          refine pw_getf e_Mod_count_104 fl_Mod_9 (gO_get hnd (i := 0) rfl) rfl ?_
          refine pw_sipush (v := nI 208) e_Mod_count_107 (by decide) ?_
          refine pw_ialdN e_Mod_count_110 (gO_get hnd (i := 1) rfl) (by omega) (by decide) ?_
          refine pw_iret e_Mod_count_111 rfl rfl ?_
          rw [f_Mod_count_22, if_neg H1, if_neg H2, if_neg H3, if_pos H4] at hk
          exact hk
        · by_cases H5 : c = 4
          · refine pw_tableIn (tgt := 112) e_Mod_count_23 (by rw [nI_toInt (by omega)]; omega) (by rw [nI_toInt (by omega)]; omega) (by rw [nI_toInt (by omega), H5]; rfl) (by decide) ?_
            refine pw_aload_n e_Mod_count_112 rfl ?_
            refine pw_getf e_Mod_count_113 fl_Mod_9 (gO_get hnd (i := 0) rfl) rfl ?_
            refine pw_sipush (v := nI 206) e_Mod_count_116 (by decide) ?_
            refine pw_ialdN e_Mod_count_119 (gO_get hnd (i := 1) rfl) (by omega) (by decide) ?_
            refine pw_iret e_Mod_count_120 rfl rfl ?_
            rw [f_Mod_count_22, if_neg H1, if_neg H2, if_neg H3, if_neg H4, if_pos H5] at hk
            exact hk
          · by_cases H6 : c = 5
            · refine pw_tableIn (tgt := 121) e_Mod_count_23 (by rw [nI_toInt (by omega)]; omega) (by rw [nI_toInt (by omega)]; omega) (by rw [nI_toInt (by omega), H6]; rfl) (by decide) ?_
              refine pw_aload_n e_Mod_count_121 rfl ?_
              refine pw_getf e_Mod_count_122 fl_Mod_9 (gO_get hnd (i := 0) rfl) rfl ?_
              refine pw_sipush (v := nI 206) e_Mod_count_125 (by decide) ?_
              refine pw_ialdN e_Mod_count_128 (gO_get hnd (i := 1) rfl) (by omega) (by decide) ?_
              refine pw_iconst (v := (-1)) e_Mod_count_129 (by decide) ?_
              refine pw_icmp_ne (tgt := 144) e_Mod_count_130 (by decide) (fun (H14 : ¬ ((Z 0) 206) = ((-1))) => ?_) (fun (H14 : ((Z 0) 206) = ((-1))) => ?_)
              · refine pw_iconst (v := nI 0) e_Mod_count_144 (by decide) ?_
                refine pw_iret e_Mod_count_145 rfl rfl ?_
                rw [f_Mod_count_22, if_neg H1, if_neg H2, if_neg H3, if_neg H4, if_neg H5, if_pos H6, if_neg H14] at hk
                exact hk
              · refine pw_aload_n e_Mod_count_133 rfl ?_
                refine pw_getf e_Mod_count_134 fl_Mod_9 (gO_get hnd (i := 0) rfl) rfl ?_
                refine pw_sipush (v := nI 207) e_Mod_count_137 (by decide) ?_
                refine pw_ialdN e_Mod_count_140 (gO_get hnd (i := 1) rfl) (by omega) (by decide) ?_
                refine pw_goto (tgt := 145) e_Mod_count_141 (by decide) ?_
                refine pw_iret e_Mod_count_145 rfl rfl ?_
                rw [f_Mod_count_22, if_neg H1, if_neg H2, if_neg H3, if_neg H4, if_neg H5, if_pos H6, if_pos H14] at hk
                exact hk
            · by_cases H7 : c = 6
              · refine pw_tableIn (tgt := 146) e_Mod_count_23 (by rw [nI_toInt (by omega)]; omega) (by rw [nI_toInt (by omega)]; omega) (by rw [nI_toInt (by omega), H7]; rfl) (by decide) ?_
                refine pw_aload_n e_Mod_count_146 rfl ?_
                refine pw_getf e_Mod_count_147 fl_Mod_9 (gO_get hnd (i := 0) rfl) rfl ?_
                refine pw_sipush (v := nI 205) e_Mod_count_150 (by decide) ?_
                refine pw_ialdN e_Mod_count_153 (gO_get hnd (i := 1) rfl) (by omega) (by decide) ?_
                refine pw_iret e_Mod_count_154 rfl rfl ?_
                rw [f_Mod_count_22, if_neg H1, if_neg H2, if_neg H3, if_neg H4, if_neg H5, if_neg H6, if_pos H7] at hk
                exact hk
              · by_cases H8 : c = 7
                · refine pw_tableIn (tgt := 155) e_Mod_count_23 (by rw [nI_toInt (by omega)]; omega) (by rw [nI_toInt (by omega)]; omega) (by rw [nI_toInt (by omega), H8]; rfl) (by decide) ?_
                  refine pw_aload_n e_Mod_count_155 rfl ?_
                  refine pw_getf e_Mod_count_156 fl_Mod_168 (gO_get hnd (i := 0) rfl) rfl ?_
                  refine pw_iret e_Mod_count_159 rfl rfl ?_
                  rw [f_Mod_count_22, if_neg H1, if_neg H2, if_neg H3, if_neg H4, if_neg H5, if_neg H6, if_neg H7, if_pos H8] at hk
                  exact hk
                · by_cases H9 : c = 8
                  · refine pw_tableIn (tgt := 160) e_Mod_count_23 (by rw [nI_toInt (by omega)]; omega) (by rw [nI_toInt (by omega)]; omega) (by rw [nI_toInt (by omega), H9]; rfl) (by decide) ?_
                    refine pw_aload_n e_Mod_count_160 rfl ?_
                    refine pw_getf e_Mod_count_161 fl_Mod_165 (gO_get hnd (i := 0) rfl) rfl ?_
                    refine pw_iret e_Mod_count_164 rfl rfl ?_
                    rw [f_Mod_count_22, if_neg H1, if_neg H2, if_neg H3, if_neg H4, if_neg H5, if_neg H6, if_neg H7, if_neg H8, if_pos H9] at hk
                    exact hk
                  · by_cases H10 : c = 9
                    · refine pw_tableIn (tgt := 165) e_Mod_count_23 (by rw [nI_toInt (by omega)]; omega) (by rw [nI_toInt (by omega)]; omega) (by rw [nI_toInt (by omega), H10]; rfl) (by decide) ?_
                      refine pw_aload_n e_Mod_count_165 rfl ?_
                      refine pw_getf e_Mod_count_166 fl_Mod_9 (gO_get hnd (i := 0) rfl) rfl ?_
                      refine pw_sipush (v := nI 204) e_Mod_count_169 (by decide) ?_
                      refine pw_ialdN e_Mod_count_172 (gO_get hnd (i := 1) rfl) (by omega) (by decide) ?_
                      refine pw_iret e_Mod_count_173 rfl rfl ?_
                      rw [f_Mod_count_22, if_neg H1, if_neg H2, if_neg H3, if_neg H4, if_neg H5, if_neg H6, if_neg H7, if_neg H8, if_neg H9, if_pos H10] at hk
                      exact hk
                    · by_cases H11 : c = 10
                      · refine pw_tableIn (tgt := 174) e_Mod_count_23 (by rw [nI_toInt (by omega)]; omega) (by rw [nI_toInt (by omega)]; omega) (by rw [nI_toInt (by omega), H11]; rfl) (by decide) ?_
                        refine pw_aload_n e_Mod_count_174 rfl ?_
                        refine pw_getf e_Mod_count_175 fl_Mod_394 (gO_get hnd (i := 0) rfl) rfl ?_
                        refine pw_iret e_Mod_count_178 rfl rfl ?_
                        rw [f_Mod_count_22, if_neg H1, if_neg H2, if_neg H3, if_neg H4, if_neg H5, if_neg H6, if_neg H7, if_neg H8, if_neg H9, if_neg H10, if_pos H11] at hk
                        exact hk
                      · by_cases H12 : c = 11
                        · refine pw_tableIn (tgt := 179) e_Mod_count_23 (by rw [nI_toInt (by omega)]; omega) (by rw [nI_toInt (by omega)]; omega) (by rw [nI_toInt (by omega), H12]; rfl) (by decide) ?_
                          refine pw_aload_n e_Mod_count_179 rfl ?_
                          refine pw_getf e_Mod_count_180 fl_Mod_388 (gO_get hnd (i := 0) rfl) rfl ?_
                          refine pw_iret e_Mod_count_183 rfl rfl ?_
                          rw [f_Mod_count_22, if_neg H1, if_neg H2, if_neg H3, if_neg H4, if_neg H5, if_neg H6, if_neg H7, if_neg H8, if_neg H9, if_neg H10, if_neg H11, if_pos H12] at hk
                          exact hk
                        · by_cases H13 : c = 12
                          · refine pw_tableIn (tgt := 184) e_Mod_count_23 (by rw [nI_toInt (by omega)]; omega) (by rw [nI_toInt (by omega)]; omega) (by rw [nI_toInt (by omega), H13]; rfl) (by decide) ?_
                            refine pw_aload_n e_Mod_count_184 rfl ?_
                            refine pw_getf e_Mod_count_185 fl_Mod_369 (gO_get hnd (i := 0) rfl) rfl ?_
                            refine pw_iret e_Mod_count_188 rfl rfl ?_
                            rw [f_Mod_count_22, if_neg H1, if_neg H2, if_neg H3, if_neg H4, if_neg H5, if_neg H6, if_neg H7, if_neg H8, if_neg H9, if_neg H10, if_neg H11, if_neg H12, if_pos H13] at hk
                            exact hk
                          · refine pw_tableOut (tgt := 189) e_Mod_count_23 (Or.inr (by rw [nI_toInt (by omega)]; omega)) (by decide) ?_
                            refine pw_aload_n e_Mod_count_189 rfl ?_
                            refine pw_getf e_Mod_count_190 fl_Mod_61 (gO_get hnd (i := 0) rfl) rfl ?_
                            refine pw_iload_n e_Mod_count_193 rfl ?_
                            refine pw_bipush (v := nI 13) e_Mod_count_194 (by decide) ?_
                            refine pw_isubN (by omega) e_Mod_count_196 ?_
                            refine pw_ialdN e_Mod_count_197 (gO_get hnd (i := 18) rfl) (by omega) (by decide) ?_
                            refine pw_iret e_Mod_count_198 rfl rfl ?_
                            rw [f_Mod_count_22, if_neg H1, if_neg H2, if_neg H3, if_neg H4, if_neg H5, if_neg H6, if_neg H7, if_neg H8, if_neg H9, if_neg H10, if_neg H11, if_neg H12, if_neg H13] at hk
                            exact hk
def f_Mod_count (x : Int32) (Z : Nat → Nat → Int32) : Int32 × (Nat → Nat → Int32) :=
  if ((f_Mod_right (f_Mod_within x (nI 0) (nI 15)) (nI 1) (u2 Z 100 18 0)).1) = 0 then (0, (f_Mod_right (f_Mod_within x (nI 0) (nI 15)) (nI 1) (u2 Z 100 18 0)).2) else f_Mod_count_22 x ((f_Mod_right (f_Mod_within x (nI 0) (nI 15)) (nI 1) (u2 Z 100 18 0)).2) x.toNatClampNeg
set_option maxRecDepth 4000 in
theorem w_Mod_count_0 {g : GG} {Q : QT} {h : Hp} {kc ks : Nat} (hst : (gl g).stackTraces = false) {A : Nat → Nat} (hnd : (gK (moL g A)).Nodup) (x : Int32)  (Z : Nat → Nat → Int32) (hw : wfM Z) (hk : Q (.inl (some (.int (f_Mod_count x Z).1))) (ov h (gO (moL g A) ((f_Mod_count x Z).2)))) : PW g M_Mod_count 3 kc ks Q 0 [.ref (A 100), .int (x)] [] (ov h (gO (moL g A) Z)) := by
  have hz0 := hw.blk.2
  have hz1 := hw.lnk.2
  have hz2 := hw.dvs.2
  refine pw_aload_n e_Mod_count_0 rfl ?_
  refine pw_iconst (v := nI 0) e_Mod_count_1 (by decide) ?_
  refine pw_putGi (i := 0) (ps := 18) (x := 0) e_Mod_count_2 fp_Mod_159 hnd (mo_x _ _) rfl (Nat.le_of_ble_eq_true rfl) rfl rfl (fun _ _ => rfl) ?_
  refine pw_aload_n e_Mod_count_5 rfl ?_
  refine pw_iload_n e_Mod_count_6 rfl ?_
  refine pw_iconst (v := nI 0) e_Mod_count_7 (by decide) ?_
  refine pw_bipush (v := nI 15) e_Mod_count_8 (by decide) ?_
  refine pw_detS (As := [.int (x), .int (nI (0)), .int (nI (15))]) e_Mod_count_10 li_Mod_312 (q_Mod_within hst x (nI 0) (nI 15)) rfl (by decide) (Nat.le_of_ble_eq_true rfl) rfl ?_
  refine pw_iconst (v := nI 1) e_Mod_count_13 (by decide) ?_
  refine pw_detV (As := [.int (f_Mod_within x (nI 0) (nI 15)), .int (nI (1))]) e_Mod_count_14 li_Mod_372 rfl (gO_get hnd (i := 0) rfl) (q_Mod_right hst hnd (f_Mod_within x (nI 0) (nI 15)) (nI 1) (u2 Z 100 18 0) (gO_in hnd (fun _ z => z))) rfl (by decide) (Nat.le_of_ble_eq_true rfl) rfl ?_
  refine pw_sameG hnd ?_
  refine pw_if_ne (tgt := 22) e_Mod_count_17 (by decide) (fun (H1 : ¬ ((f_Mod_right (f_Mod_within x (nI 0) (nI 15)) (nI 1) (u2 Z 100 18 0)).1) = 0) => ?_) (fun (H1 : ((f_Mod_right (f_Mod_within x (nI 0) (nI 15)) (nI 1) (u2 Z 100 18 0)).1) = 0) => ?_)
  · refine pw_eqls (ls' := [.ref (A 100), .int (nI (x.toNatClampNeg))]) (by rw [← (show x = nI (x.toNatClampNeg) from (win_M (n := 15) (by decide) (rt_of (by decide) H1).1).1)]) ?_
    refine w_Mod_count_22 hst hnd x ((f_Mod_right (f_Mod_within x (nI 0) (nI 15)) (nI 1) (u2 Z 100 18 0)).2) x.toNatClampNeg (z_right (wfM.of (Q := u2 Z 100 18 0) hw rfl rfl rfl rfl rfl rfl rfl rfl rfl rfl rfl rfl)) (win_M (n := 15) (by decide) (rt_of (by decide) H1).1).2 ?_
    rw [f_Mod_count, if_neg H1] at hk
    exact hk
  · refine pw_iconst (v := nI 0) e_Mod_count_20 (by decide) ?_
    refine pw_iret e_Mod_count_21 rfl rfl ?_
    rw [f_Mod_count, if_pos H1] at hk
    exact hk
theorem q_Mod_count {g : GG} {h : Hp} (hst : (gl g).stackTraces = false) {A : Nat → Nat} (hnd : (gK (moL g A)).Nodup) (x : Int32)  (Z : Nat → Nat → Int32) (hm : ∀ q ∈ gO (moL g A) Z, h q.1 = some q.2) (hw : wfM Z) : PM g M_Mod_count 3 0 0 [.ref (A 100), .int (x)] h (RetV (some (.int (f_Mod_count x Z).1)) (ov h (gO (moL g A) ((f_Mod_count x Z).2)))) := by
  refine PM.of hst (by decide) rfl (fun v hv => ?_) (Nat.le_of_ble_eq_true rfl) ?_
  · simp only [List.mem_cons, List.not_mem_nil, or_false] at hv; rcases hv with rfl | rfl <;> rfl
  · have hq := w_Mod_count_0 (g := g) (Q := RetV (some (.int (f_Mod_count x Z).1)) (ov h (gO (moL g A) ((f_Mod_count x Z).2)))) (h := h) (kc := 0) (ks := 0) hst hnd x Z hw ?_
    · rw [ov_self hm] at hq; exact hq
    · exact ⟨rfl, rfl⟩

def f_Mod_block_141 (x : Int32) (y : Int32) (Z : Nat → Nat → Int32) (b : Nat) (v : Nat) : Int32 × (Nat → Nat → Int32) :=
  ((Z 0) (((0 + 8 * b) + v) - 5), Z)
set_option maxRecDepth 4000 in
theorem w_Mod_block_141 {g : GG} {Q : QT} {h : Hp} {kc ks : Nat} (hst : (gl g).stackTraces = false) {A : Nat → Nat} (hnd : (gK (moL g A)).Nodup) (x : Int32) (y : Int32)  (Z : Nat → Nat → Int32) (b : Nat) (v : Nat) (hw : wfM Z) (hb : b < 10) (hv : 5 ≤ v ∧ v < 14) (hk : Q (.inl (some (.int (f_Mod_block_141 x y Z b v).1))) (ov h (gO (moL g A) ((f_Mod_block_141 x y Z b v).2)))) : PW g M_Mod_block 3 kc ks Q 141 [.ref (A 100), .int (nI (b)), .int (nI (v))] [] (ov h (gO (moL g A) Z)) := by
  have hz0 := hw.blk.2
  have hz1 := hw.lnk.2
  have hz2 := hw.dvs.2
  refine pw_aload_n e_Mod_block_141 rfl ?_
  refine pw_getf e_Mod_block_142 fl_Mod_9 (gO_get hnd (i := 0) rfl) rfl ?_
  refine pw_iconst (v := nI 0) e_Mod_block_145 (by decide) ?_
  refine pw_iload_n e_Mod_block_146 rfl ?_
  refine pw_detS (As := [.int (nI (0)), .int (nI (b))]) e_Mod_block_147 li_Mod_193 (q_at hst 0 b) rfl (by decide) (Nat.le_of_ble_eq_true rfl) rfl ?_
  refine pw_iload_n e_Mod_block_150 rfl ?_
  refine pw_iaddN e_Mod_block_151 ?_
  refine pw_iconst (v := nI 5) e_Mod_block_152 (by decide) ?_
  refine pw_isubN (by omega) e_Mod_block_153 ?_
  refine pw_ialdN e_Mod_block_154 (gO_get hnd (i := 1) rfl) (by omega) (by decide) ?_
  refine pw_iret e_Mod_block_155 rfl rfl ?_
  rw [f_Mod_block_141] at hk
  exact hk
def f_Mod_block_30 (x : Int32) (y : Int32) (Z : Nat → Nat → Int32) (b : Nat) (v : Nat) : Int32 × (Nat → Nat → Int32) :=
  if v = 0 then (nI (pN Z 3 b), Z) else if v = 1 then (nI (pN Z 1 b), Z) else if v = 2 then ((Z 2) b, Z) else if v = 3 then ((Z 35) b, Z) else if v = 4 then ((Z 36) b, Z) else if v = 5 then f_Mod_block_141 x y Z b v else if v = 6 then f_Mod_block_141 x y Z b v else if v = 7 then f_Mod_block_141 x y Z b v else if v = 8 then f_Mod_block_141 x y Z b v else if v = 9 then f_Mod_block_141 x y Z b v else if v = 10 then f_Mod_block_141 x y Z b v else if v = 11 then f_Mod_block_141 x y Z b v else if v = 12 then f_Mod_block_141 x y Z b v else if v = 13 then (f_Mod_takenAt b Z, Z) else f_Mod_block_141 x y Z b v
set_option maxRecDepth 4000 in
theorem w_Mod_block_30 {g : GG} {Q : QT} {h : Hp} {kc ks : Nat} (hst : (gl g).stackTraces = false) {A : Nat → Nat} (hnd : (gK (moL g A)).Nodup) (x : Int32) (y : Int32)  (Z : Nat → Nat → Int32) (b : Nat) (v : Nat) (hw : wfM Z) (hb : b < 10) (hv : v < 14) (hT : hasT Z b 0) (hk : Q (.inl (some (.int (f_Mod_block_30 x y Z b v).1))) (ov h (gO (moL g A) ((f_Mod_block_30 x y Z b v).2)))) : PW g M_Mod_block 3 kc ks Q 30 [.ref (A 100), .int (nI (b)), .int (nI (v))] [] (ov h (gO (moL g A) Z)) := by
  have hz0 := hw.blk.2
  have hz1 := hw.lnk.2
  have hz2 := hw.dvs.2
  refine pw_iload_n e_Mod_block_30 rfl ?_
  by_cases H1 : v = 0
  · refine pw_tableIn (tgt := 100) e_Mod_block_31 (by rw [nI_toInt (by omega)]; omega) (by rw [nI_toInt (by omega)]; omega) (by rw [nI_toInt (by omega), H1]; rfl) (by decide) ?_
    refine pw_aload_n e_Mod_block_100 rfl ?_
    refine pw_getf e_Mod_block_101 fl_Mod_19 (gO_get hnd (i := 0) rfl) rfl ?_
    refine pw_iload_n e_Mod_block_104 rfl ?_
    have hb15 := hw.kind b
    refine pw_ialdC e_Mod_block_105 (gO_get hnd (i := 4) rfl) (by omega) (by decide) hb15.1 ?_
    replace hb15 := hb15.2
    refine pw_iret e_Mod_block_106 rfl rfl ?_
    rw [f_Mod_block_30, if_pos H1] at hk
    exact hk
  · by_cases H2 : v = 1
    · refine pw_tableIn (tgt := 107) e_Mod_block_31 (by rw [nI_toInt (by omega)]; omega) (by rw [nI_toInt (by omega)]; omega) (by rw [nI_toInt (by omega), H2]; rfl) (by decide) ?_
      refine pw_aload_n e_Mod_block_107 rfl ?_
      refine pw_getf e_Mod_block_108 fl_Mod_13 (gO_get hnd (i := 0) rfl) rfl ?_
      refine pw_iload_n e_Mod_block_111 rfl ?_
      have hb16 := hw.dev b
      refine pw_ialdC e_Mod_block_112 (gO_get hnd (i := 2) rfl) (by omega) (by decide) hb16.1 ?_
      replace hb16 := hb16.2
      refine pw_iret e_Mod_block_113 rfl rfl ?_
      rw [f_Mod_block_30, if_neg H1, if_pos H2] at hk
      exact hk
    · by_cases H3 : v = 2
      · refine pw_tableIn (tgt := 114) e_Mod_block_31 (by rw [nI_toInt (by omega)]; omega) (by rw [nI_toInt (by omega)]; omega) (by rw [nI_toInt (by omega), H3]; rfl) (by decide) ?_
        refine pw_aload_n e_Mod_block_114 rfl ?_
        refine pw_getf e_Mod_block_115 fl_Mod_16 (gO_get hnd (i := 0) rfl) rfl ?_
        refine pw_iload_n e_Mod_block_118 rfl ?_
        refine pw_ialdN e_Mod_block_119 (gO_get hnd (i := 3) rfl) (by omega) (by decide) ?_
        refine pw_iret e_Mod_block_120 rfl rfl ?_
        rw [f_Mod_block_30, if_neg H1, if_neg H2, if_pos H3] at hk
        exact hk
      · by_cases H4 : v = 3
        · refine pw_tableIn (tgt := 121) e_Mod_block_31 (by rw [nI_toInt (by omega)]; omega) (by rw [nI_toInt (by omega)]; omega) (by rw [nI_toInt (by omega), H4]; rfl) (by decide) ?_
          refine pw_aload_n e_Mod_block_121 rfl ?_
          refine pw_getf e_Mod_block_122 fl_Mod_83 (gO_get hnd (i := 0) rfl) rfl ?_
          refine pw_iload_n e_Mod_block_125 rfl ?_
          refine pw_ialdN e_Mod_block_126 (gO_get hnd (i := 21) rfl) (by omega) (by decide) ?_
          refine pw_iret e_Mod_block_127 rfl rfl ?_
          rw [f_Mod_block_30, if_neg H1, if_neg H2, if_neg H3, if_pos H4] at hk
          exact hk
        · by_cases H5 : v = 4
          · refine pw_tableIn (tgt := 128) e_Mod_block_31 (by rw [nI_toInt (by omega)]; omega) (by rw [nI_toInt (by omega)]; omega) (by rw [nI_toInt (by omega), H5]; rfl) (by decide) ?_
            refine pw_aload_n e_Mod_block_128 rfl ?_
            refine pw_getf e_Mod_block_129 fl_Mod_86 (gO_get hnd (i := 0) rfl) rfl ?_
            refine pw_iload_n e_Mod_block_132 rfl ?_
            refine pw_ialdN e_Mod_block_133 (gO_get hnd (i := 22) rfl) (by omega) (by decide) ?_
            refine pw_iret e_Mod_block_134 rfl rfl ?_
            rw [f_Mod_block_30, if_neg H1, if_neg H2, if_neg H3, if_neg H4, if_pos H5] at hk
            exact hk
          · by_cases H6 : v = 5
            · refine pw_tableIn (tgt := 141) e_Mod_block_31 (by rw [nI_toInt (by omega)]; omega) (by rw [nI_toInt (by omega)]; omega) (by rw [nI_toInt (by omega), H6]; rfl) (by decide) ?_
              refine w_Mod_block_141 hst hnd x y Z b v hw (by omega) (by omega) ?_
              rw [f_Mod_block_30, if_neg H1, if_neg H2, if_neg H3, if_neg H4, if_neg H5, if_pos H6] at hk
              exact hk
            · by_cases H7 : v = 6
              · refine pw_tableIn (tgt := 141) e_Mod_block_31 (by rw [nI_toInt (by omega)]; omega) (by rw [nI_toInt (by omega)]; omega) (by rw [nI_toInt (by omega), H7]; rfl) (by decide) ?_
                refine w_Mod_block_141 hst hnd x y Z b v hw (by omega) (by omega) ?_
                rw [f_Mod_block_30, if_neg H1, if_neg H2, if_neg H3, if_neg H4, if_neg H5, if_neg H6, if_pos H7] at hk
                exact hk
              · by_cases H8 : v = 7
                · refine pw_tableIn (tgt := 141) e_Mod_block_31 (by rw [nI_toInt (by omega)]; omega) (by rw [nI_toInt (by omega)]; omega) (by rw [nI_toInt (by omega), H8]; rfl) (by decide) ?_
                  refine w_Mod_block_141 hst hnd x y Z b v hw (by omega) (by omega) ?_
                  rw [f_Mod_block_30, if_neg H1, if_neg H2, if_neg H3, if_neg H4, if_neg H5, if_neg H6, if_neg H7, if_pos H8] at hk
                  exact hk
                · by_cases H9 : v = 8
                  · refine pw_tableIn (tgt := 141) e_Mod_block_31 (by rw [nI_toInt (by omega)]; omega) (by rw [nI_toInt (by omega)]; omega) (by rw [nI_toInt (by omega), H9]; rfl) (by decide) ?_
                    refine w_Mod_block_141 hst hnd x y Z b v hw (by omega) (by omega) ?_
                    rw [f_Mod_block_30, if_neg H1, if_neg H2, if_neg H3, if_neg H4, if_neg H5, if_neg H6, if_neg H7, if_neg H8, if_pos H9] at hk
                    exact hk
                  · by_cases H10 : v = 9
                    · refine pw_tableIn (tgt := 141) e_Mod_block_31 (by rw [nI_toInt (by omega)]; omega) (by rw [nI_toInt (by omega)]; omega) (by rw [nI_toInt (by omega), H10]; rfl) (by decide) ?_
                      refine w_Mod_block_141 hst hnd x y Z b v hw (by omega) (by omega) ?_
                      rw [f_Mod_block_30, if_neg H1, if_neg H2, if_neg H3, if_neg H4, if_neg H5, if_neg H6, if_neg H7, if_neg H8, if_neg H9, if_pos H10] at hk
                      exact hk
                    · by_cases H11 : v = 10
                      · refine pw_tableIn (tgt := 141) e_Mod_block_31 (by rw [nI_toInt (by omega)]; omega) (by rw [nI_toInt (by omega)]; omega) (by rw [nI_toInt (by omega), H11]; rfl) (by decide) ?_
                        refine w_Mod_block_141 hst hnd x y Z b v hw (by omega) (by omega) ?_
                        rw [f_Mod_block_30, if_neg H1, if_neg H2, if_neg H3, if_neg H4, if_neg H5, if_neg H6, if_neg H7, if_neg H8, if_neg H9, if_neg H10, if_pos H11] at hk
                        exact hk
                      · by_cases H12 : v = 11
                        · refine pw_tableIn (tgt := 141) e_Mod_block_31 (by rw [nI_toInt (by omega)]; omega) (by rw [nI_toInt (by omega)]; omega) (by rw [nI_toInt (by omega), H12]; rfl) (by decide) ?_
                          refine w_Mod_block_141 hst hnd x y Z b v hw (by omega) (by omega) ?_
                          rw [f_Mod_block_30, if_neg H1, if_neg H2, if_neg H3, if_neg H4, if_neg H5, if_neg H6, if_neg H7, if_neg H8, if_neg H9, if_neg H10, if_neg H11, if_pos H12] at hk
                          exact hk
                        · by_cases H13 : v = 12
                          · refine pw_tableIn (tgt := 141) e_Mod_block_31 (by rw [nI_toInt (by omega)]; omega) (by rw [nI_toInt (by omega)]; omega) (by rw [nI_toInt (by omega), H13]; rfl) (by decide) ?_
                            refine w_Mod_block_141 hst hnd x y Z b v hw (by omega) (by omega) ?_
                            rw [f_Mod_block_30, if_neg H1, if_neg H2, if_neg H3, if_neg H4, if_neg H5, if_neg H6, if_neg H7, if_neg H8, if_neg H9, if_neg H10, if_neg H11, if_neg H12, if_pos H13] at hk
                            exact hk
                          · by_cases H14 : v = 13
                            · refine pw_tableIn (tgt := 135) e_Mod_block_31 (by rw [nI_toInt (by omega)]; omega) (by rw [nI_toInt (by omega)]; omega) (by rw [nI_toInt (by omega), H14]; rfl) (by decide) ?_
                              refine pw_aload_n e_Mod_block_135 rfl ?_
                              refine pw_iload_n e_Mod_block_136 rfl ?_
                              refine pw_detV (As := [.int (nI (b))]) e_Mod_block_137 li_Mod_400 rfl (gO_get hnd (i := 0) rfl) (q_Mod_takenAt hst hnd b (by omega) Z (gO_in hnd (fun _ z => z)) hw hT) rfl (by decide) (Nat.le_of_ble_eq_true rfl) rfl ?_
                              refine pw_iret e_Mod_block_140 rfl rfl ?_
                              rw [f_Mod_block_30, if_neg H1, if_neg H2, if_neg H3, if_neg H4, if_neg H5, if_neg H6, if_neg H7, if_neg H8, if_neg H9, if_neg H10, if_neg H11, if_neg H12, if_neg H13, if_pos H14] at hk
                              exact hk
                            · refine pw_tableOut (tgt := 141) e_Mod_block_31 (Or.inr (by rw [nI_toInt (by omega)]; omega)) (by decide) ?_
                              refine w_Mod_block_141 hst hnd x y Z b v hw (by omega) (by omega) ?_
                              rw [f_Mod_block_30, if_neg H1, if_neg H2, if_neg H3, if_neg H4, if_neg H5, if_neg H6, if_neg H7, if_neg H8, if_neg H9, if_neg H10, if_neg H11, if_neg H12, if_neg H13, if_neg H14] at hk
                              exact hk
def f_Mod_block (x : Int32) (y : Int32) (Z : Nat → Nat → Int32) : Int32 × (Nat → Nat → Int32) :=
  if ((f_Mod_isBlock x (u2 Z 100 18 0)).1) = 0 then (0, (f_Mod_isBlock x (u2 Z 100 18 0)).2) else if ((f_Mod_right (f_Mod_within y (nI 0) (nI 13)) (nI 1) ((f_Mod_isBlock x (u2 Z 100 18 0)).2)).1) = 0 then (0, (f_Mod_right (f_Mod_within y (nI 0) (nI 13)) (nI 1) ((f_Mod_isBlock x (u2 Z 100 18 0)).2)).2) else f_Mod_block_30 x y ((f_Mod_right (f_Mod_within y (nI 0) (nI 13)) (nI 1) ((f_Mod_isBlock x (u2 Z 100 18 0)).2)).2) x.toNatClampNeg y.toNatClampNeg
set_option maxRecDepth 4000 in
theorem w_Mod_block_0 {g : GG} {Q : QT} {h : Hp} {kc ks : Nat} (hst : (gl g).stackTraces = false) {A : Nat → Nat} (hnd : (gK (moL g A)).Nodup) (x : Int32) (y : Int32)  (Z : Nat → Nat → Int32) (hw : wfM Z) (hT : TkI Z) (hk : Q (.inl (some (.int (f_Mod_block x y Z).1))) (ov h (gO (moL g A) ((f_Mod_block x y Z).2)))) : PW g M_Mod_block 3 kc ks Q 0 [.ref (A 100), .int (x), .int (y)] [] (ov h (gO (moL g A) Z)) := by
  have hz0 := hw.blk.2
  have hz1 := hw.lnk.2
  have hz2 := hw.dvs.2
  refine pw_aload_n e_Mod_block_0 rfl ?_
  refine pw_iconst (v := nI 0) e_Mod_block_1 (by decide) ?_
  refine pw_putGi (i := 0) (ps := 18) (x := 0) e_Mod_block_2 fp_Mod_159 hnd (mo_x _ _) rfl (Nat.le_of_ble_eq_true rfl) rfl rfl (fun _ _ => rfl) ?_
  refine pw_aload_n e_Mod_block_5 rfl ?_
  refine pw_iload_n e_Mod_block_6 rfl ?_
  refine pw_detV (As := [.int (x)]) e_Mod_block_7 li_Mod_397 rfl (gO_get hnd (i := 0) rfl) (q_Mod_isBlock hst hnd x (u2 Z 100 18 0) (gO_in hnd (fun _ z => z)) (wfM.of (Q := u2 Z 100 18 0) hw rfl rfl rfl rfl rfl rfl rfl rfl rfl rfl rfl rfl)) rfl (by decide) (Nat.le_of_ble_eq_true rfl) rfl ?_
  refine pw_sameG hnd ?_
  refine pw_if_eq (tgt := 28) e_Mod_block_10 (by decide) (fun (H1 : ((f_Mod_isBlock x (u2 Z 100 18 0)).1) = 0) => ?_) (fun (H1 : ¬ ((f_Mod_isBlock x (u2 Z 100 18 0)).1) = 0) => ?_)
  · refine pw_iconst (v := nI 0) e_Mod_block_28 (by decide) ?_
    refine pw_iret e_Mod_block_29 rfl rfl ?_
    rw [f_Mod_block, if_pos H1] at hk
    exact hk
  · refine pw_aload_n e_Mod_block_13 rfl ?_
    refine pw_iload_n e_Mod_block_14 rfl ?_
    refine pw_iconst (v := nI 0) e_Mod_block_15 (by decide) ?_
    refine pw_bipush (v := nI 13) e_Mod_block_16 (by decide) ?_
    refine pw_detS (As := [.int (y), .int (nI (0)), .int (nI (13))]) e_Mod_block_18 li_Mod_312 (q_Mod_within hst y (nI 0) (nI 13)) rfl (by decide) (Nat.le_of_ble_eq_true rfl) rfl ?_
    refine pw_iconst (v := nI 1) e_Mod_block_21 (by decide) ?_
    refine pw_detV (As := [.int (f_Mod_within y (nI 0) (nI 13)), .int (nI (1))]) e_Mod_block_22 li_Mod_372 rfl (gO_get hnd (i := 0) rfl) (q_Mod_right hst hnd (f_Mod_within y (nI 0) (nI 13)) (nI 1) ((f_Mod_isBlock x (u2 Z 100 18 0)).2) (gO_in hnd (fun _ z => z))) rfl (by decide) (Nat.le_of_ble_eq_true rfl) rfl ?_
    refine pw_sameG hnd ?_
    refine pw_if_ne (tgt := 30) e_Mod_block_25 (by decide) (fun (H2 : ¬ ((f_Mod_right (f_Mod_within y (nI 0) (nI 13)) (nI 1) ((f_Mod_isBlock x (u2 Z 100 18 0)).2)).1) = 0) => ?_) (fun (H2 : ((f_Mod_right (f_Mod_within y (nI 0) (nI 13)) (nI 1) ((f_Mod_isBlock x (u2 Z 100 18 0)).2)).1) = 0) => ?_)
    · refine pw_eqls (ls' := [.ref (A 100), .int (nI (x.toNatClampNeg)), .int (y)]) (by rw [← (show x = nI (x.toNatClampNeg) from (ib10 (wfM.of (Q := u2 Z 100 18 0) hw rfl rfl rfl rfl rfl rfl rfl rfl rfl rfl rfl rfl) H1).1)]) ?_
      refine pw_eqls (ls' := [.ref (A 100), .int (nI (x.toNatClampNeg)), .int (nI (y.toNatClampNeg))]) (by rw [← (show y = nI (y.toNatClampNeg) from (win_M (n := 13) (by decide) (rt_of (by decide) H2).1).1)]) ?_
      refine w_Mod_block_30 hst hnd x y ((f_Mod_right (f_Mod_within y (nI 0) (nI 13)) (nI 1) ((f_Mod_isBlock x (u2 Z 100 18 0)).2)).2) x.toNatClampNeg y.toNatClampNeg (z_right (z_isBlock (wfM.of (Q := u2 Z 100 18 0) hw rfl rfl rfl rfl rfl rfl rfl rfl rfl rfl rfl rfl))) (ib10 (wfM.of (Q := u2 Z 100 18 0) hw rfl rfl rfl rfl rfl rfl rfl rfl rfl rfl rfl rfl) H1).2 (win_M (n := 13) (by decide) (rt_of (by decide) H2).1).2 (tk_rt (tk_rt (hT _ (ib_of (wfM.of (Q := u2 Z 100 18 0) hw rfl rfl rfl rfl rfl rfl rfl rfl rfl rfl rfl rfl) H1).1.2))) ?_
      rw [f_Mod_block, if_neg H1, if_neg H2] at hk
      exact hk
    · refine pw_iconst (v := nI 0) e_Mod_block_28 (by decide) ?_
      refine pw_iret e_Mod_block_29 rfl rfl ?_
      rw [f_Mod_block, if_neg H1, if_pos H2] at hk
      exact hk
theorem q_Mod_block {g : GG} {h : Hp} (hst : (gl g).stackTraces = false) {A : Nat → Nat} (hnd : (gK (moL g A)).Nodup) (x : Int32) (y : Int32)  (Z : Nat → Nat → Int32) (hm : ∀ q ∈ gO (moL g A) Z, h q.1 = some q.2) (hw : wfM Z) (hT : TkI Z) : PM g M_Mod_block 3 0 0 [.ref (A 100), .int (x), .int (y)] h (RetV (some (.int (f_Mod_block x y Z).1)) (ov h (gO (moL g A) ((f_Mod_block x y Z).2)))) := by
  refine PM.of hst (by decide) rfl (fun v hv => ?_) (Nat.le_of_ble_eq_true rfl) ?_
  · simp only [List.mem_cons, List.not_mem_nil, or_false] at hv; rcases hv with rfl | rfl | rfl <;> rfl
  · have hq := w_Mod_block_0 (g := g) (Q := RetV (some (.int (f_Mod_block x y Z).1)) (ov h (gO (moL g A) ((f_Mod_block x y Z).2)))) (h := h) (kc := 0) (ks := 0) hst hnd x y Z hw hT ?_
    · rw [ov_self hm] at hq; exact hq
    · exact ⟨rfl, rfl⟩

def f_Mod_link_151 (x : Int32) (y : Int32) (Z : Nat → Nat → Int32) (l : Nat) (v : Nat) : Int32 × (Nat → Nat → Int32) :=
  if 9 ≤ v then ((Z 0) ((0 + 80 + 10 * l) + (v - 5)), Z) else ((Z 0) ((0 + 80 + 10 * l) + (v - 4)), Z)
set_option maxRecDepth 4000 in
theorem w_Mod_link_151 {g : GG} {Q : QT} {h : Hp} {kc ks : Nat} (hst : (gl g).stackTraces = false) {A : Nat → Nat} (hnd : (gK (moL g A)).Nodup) (x : Int32) (y : Int32)  (Z : Nat → Nat → Int32) (l : Nat) (v : Nat) (hw : wfM Z) (hl : l < 12) (hv : 4 ≤ v ∧ v < 15) (hk : Q (.inl (some (.int (f_Mod_link_151 x y Z l v).1))) (ov h (gO (moL g A) ((f_Mod_link_151 x y Z l v).2)))) : PW g M_Mod_link 3 kc ks Q 151 [.ref (A 100), .int (nI (l)), .int (nI (v))] [] (ov h (gO (moL g A) Z)) := by
  have hz0 := hw.blk.2
  have hz1 := hw.lnk.2
  have hz2 := hw.dvs.2
  refine pw_aload_n e_Mod_link_151 rfl ?_
  refine pw_getf e_Mod_link_152 fl_Mod_9 (gO_get hnd (i := 0) rfl) rfl ?_
  refine pw_iconst (v := nI 0) e_Mod_link_155 (by decide) ?_
  refine pw_iload_n e_Mod_link_156 rfl ?_
  refine pw_detS (As := [.int (nI (0)), .int (nI (l))]) e_Mod_link_157 li_Mod_199 (q_linkAt hst 0 l) rfl (by decide) (Nat.le_of_ble_eq_true rfl) rfl ?_
  refine pw_iload_n e_Mod_link_160 rfl ?_
  refine pw_bipush (v := nI 9) e_Mod_link_161 (by decide) ?_
  refine pw_icmp_geN (tgt := 172) e_Mod_link_163 (by decide) (by omega) (by omega) (fun (H2 : 9 ≤ v) => ?_) (fun (H2 : v < 9) => ?_)
  · refine pw_iload_n e_Mod_link_172 rfl ?_
    refine pw_iconst (v := nI 5) e_Mod_link_173 (by decide) ?_
    refine pw_isubN (by omega) e_Mod_link_174 ?_
    refine pw_iaddN e_Mod_link_175 ?_
    refine pw_ialdN e_Mod_link_176 (gO_get hnd (i := 1) rfl) (by omega) (by decide) ?_
    refine pw_iret e_Mod_link_177 rfl rfl ?_
    rw [f_Mod_link_151, if_pos H2] at hk
    exact hk
  · refine pw_iload_n e_Mod_link_166 rfl ?_
    refine pw_iconst (v := nI 4) e_Mod_link_167 (by decide) ?_
    refine pw_isubN (by omega) e_Mod_link_168 ?_
    refine pw_goto (tgt := 175) e_Mod_link_169 (by decide) ?_
    refine pw_iaddN e_Mod_link_175 ?_
    refine pw_ialdN e_Mod_link_176 (gO_get hnd (i := 1) rfl) (by omega) (by decide) ?_
    refine pw_iret e_Mod_link_177 rfl rfl ?_
    rw [f_Mod_link_151, if_neg (Nat.not_le.mpr H2)] at hk
    exact hk
def f_Mod_link_44 (x : Int32) (y : Int32) (Z : Nat → Nat → Int32) (l : Nat) (v : Nat) : Int32 × (Nat → Nat → Int32) :=
  if v ≤ 8 then if v = 0 then (nI (pN Z 8 l), Z) else if v = 1 then (nI (pN Z 9 l), Z) else if v = 2 then (nI (pN Z 10 l), Z) else if v = 3 then ((Z 37) l, Z) else if v = 4 then f_Mod_link_151 x y Z l v else if v = 5 then f_Mod_link_151 x y Z l v else if v = 6 then f_Mod_link_151 x y Z l v else if v = 7 then f_Mod_link_151 x y Z l v else if v = 8 then f_Mod_link_151 x y Z l v else if v = 9 then ((Z 38) l, Z) else f_Mod_link_151 x y Z l v else if (pN Z 10 l) = 2 then if v = 0 then (nI (pN Z 8 l), Z) else if v = 1 then (nI (pN Z 9 l), Z) else if v = 2 then (nI (pN Z 10 l), Z) else if v = 3 then ((Z 37) l, Z) else if v = 4 then f_Mod_link_151 x y Z l v else if v = 5 then f_Mod_link_151 x y Z l v else if v = 6 then f_Mod_link_151 x y Z l v else if v = 7 then f_Mod_link_151 x y Z l v else if v = 8 then f_Mod_link_151 x y Z l v else if v = 9 then ((Z 38) l, Z) else f_Mod_link_151 x y Z l v else ((-1), Z)
set_option maxRecDepth 4000 in
theorem w_Mod_link_44 {g : GG} {Q : QT} {h : Hp} {kc ks : Nat} (hst : (gl g).stackTraces = false) {A : Nat → Nat} (hnd : (gK (moL g A)).Nodup) (x : Int32) (y : Int32)  (Z : Nat → Nat → Int32) (l : Nat) (v : Nat) (hw : wfM Z) (hl : l < 12) (hv : v < 15) (hk : Q (.inl (some (.int (f_Mod_link_44 x y Z l v).1))) (ov h (gO (moL g A) ((f_Mod_link_44 x y Z l v).2)))) : PW g M_Mod_link 3 kc ks Q 44 [.ref (A 100), .int (nI (l)), .int (nI (v))] [] (ov h (gO (moL g A) Z)) := by
  have hz0 := hw.blk.2
  have hz1 := hw.lnk.2
  have hz2 := hw.dvs.2
  refine pw_iload_n e_Mod_link_44 rfl ?_
  refine pw_bipush (v := nI 8) e_Mod_link_45 (by decide) ?_
  refine pw_icmp_leN (tgt := 62) e_Mod_link_47 (by decide) (by omega) (by omega) (fun (H1 : v ≤ 8) => ?_) (fun (H1 : 8 < v) => ?_)
  · refine pw_iload_n e_Mod_link_62 rfl ?_
    by_cases H2 : v = 0
    · refine pw_tableIn (tgt := 116) e_Mod_link_63 (by rw [nI_toInt (by omega)]; omega) (by rw [nI_toInt (by omega)]; omega) (by rw [nI_toInt (by omega), H2]; rfl) (by decide) ?_
      refine pw_aload_n e_Mod_link_116 rfl ?_
      refine pw_getf e_Mod_link_117 fl_Mod_34 (gO_get hnd (i := 0) rfl) rfl ?_
      refine pw_iload_n e_Mod_link_120 rfl ?_
      have hb12 := hw.frm l
      refine pw_ialdC e_Mod_link_121 (gO_get hnd (i := 9) rfl) (by omega) (by decide) hb12.1 ?_
      replace hb12 := hb12.2
      refine pw_iret e_Mod_link_122 rfl rfl ?_
      rw [f_Mod_link_44, if_pos H1, if_pos H2] at hk
      exact hk
    · by_cases H3 : v = 1
      · refine pw_tableIn (tgt := 123) e_Mod_link_63 (by rw [nI_toInt (by omega)]; omega) (by rw [nI_toInt (by omega)]; omega) (by rw [nI_toInt (by omega), H3]; rfl) (by decide) ?_
        refine pw_aload_n e_Mod_link_123 rfl ?_
        refine pw_getf e_Mod_link_124 fl_Mod_37 (gO_get hnd (i := 0) rfl) rfl ?_
        refine pw_iload_n e_Mod_link_127 rfl ?_
        have hb13 := hw.to l
        refine pw_ialdC e_Mod_link_128 (gO_get hnd (i := 10) rfl) (by omega) (by decide) hb13.1 ?_
        replace hb13 := hb13.2
        refine pw_iret e_Mod_link_129 rfl rfl ?_
        rw [f_Mod_link_44, if_pos H1, if_neg H2, if_pos H3] at hk
        exact hk
      · by_cases H4 : v = 2
        · refine pw_tableIn (tgt := 130) e_Mod_link_63 (by rw [nI_toInt (by omega)]; omega) (by rw [nI_toInt (by omega)]; omega) (by rw [nI_toInt (by omega), H4]; rfl) (by decide) ?_
          refine pw_aload_n e_Mod_link_130 rfl ?_
          refine pw_getf e_Mod_link_131 fl_Mod_40 (gO_get hnd (i := 0) rfl) rfl ?_
          refine pw_iload_n e_Mod_link_134 rfl ?_
          have hb14 := hw.whr l
          refine pw_ialdC e_Mod_link_135 (gO_get hnd (i := 11) rfl) (by omega) (by decide) hb14.1 ?_
          replace hb14 := hb14.2
          refine pw_iret e_Mod_link_136 rfl rfl ?_
          rw [f_Mod_link_44, if_pos H1, if_neg H2, if_neg H3, if_pos H4] at hk
          exact hk
        · by_cases H5 : v = 3
          · refine pw_tableIn (tgt := 137) e_Mod_link_63 (by rw [nI_toInt (by omega)]; omega) (by rw [nI_toInt (by omega)]; omega) (by rw [nI_toInt (by omega), H5]; rfl) (by decide) ?_
            refine pw_aload_n e_Mod_link_137 rfl ?_
            refine pw_getf e_Mod_link_138 fl_Mod_89 (gO_get hnd (i := 0) rfl) rfl ?_
            refine pw_iload_n e_Mod_link_141 rfl ?_
            refine pw_ialdN e_Mod_link_142 (gO_get hnd (i := 23) rfl) (by omega) (by decide) ?_
            refine pw_iret e_Mod_link_143 rfl rfl ?_
            rw [f_Mod_link_44, if_pos H1, if_neg H2, if_neg H3, if_neg H4, if_pos H5] at hk
            exact hk
          · by_cases H6 : v = 4
            · refine pw_tableIn (tgt := 151) e_Mod_link_63 (by rw [nI_toInt (by omega)]; omega) (by rw [nI_toInt (by omega)]; omega) (by rw [nI_toInt (by omega), H6]; rfl) (by decide) ?_
              refine w_Mod_link_151 hst hnd x y Z l v hw (by omega) (by omega) ?_
              rw [f_Mod_link_44, if_pos H1, if_neg H2, if_neg H3, if_neg H4, if_neg H5, if_pos H6] at hk
              exact hk
            · by_cases H7 : v = 5
              · refine pw_tableIn (tgt := 151) e_Mod_link_63 (by rw [nI_toInt (by omega)]; omega) (by rw [nI_toInt (by omega)]; omega) (by rw [nI_toInt (by omega), H7]; rfl) (by decide) ?_
                refine w_Mod_link_151 hst hnd x y Z l v hw (by omega) (by omega) ?_
                rw [f_Mod_link_44, if_pos H1, if_neg H2, if_neg H3, if_neg H4, if_neg H5, if_neg H6, if_pos H7] at hk
                exact hk
              · by_cases H8 : v = 6
                · refine pw_tableIn (tgt := 151) e_Mod_link_63 (by rw [nI_toInt (by omega)]; omega) (by rw [nI_toInt (by omega)]; omega) (by rw [nI_toInt (by omega), H8]; rfl) (by decide) ?_
                  refine w_Mod_link_151 hst hnd x y Z l v hw (by omega) (by omega) ?_
                  rw [f_Mod_link_44, if_pos H1, if_neg H2, if_neg H3, if_neg H4, if_neg H5, if_neg H6, if_neg H7, if_pos H8] at hk
                  exact hk
                · by_cases H9 : v = 7
                  · refine pw_tableIn (tgt := 151) e_Mod_link_63 (by rw [nI_toInt (by omega)]; omega) (by rw [nI_toInt (by omega)]; omega) (by rw [nI_toInt (by omega), H9]; rfl) (by decide) ?_
                    refine w_Mod_link_151 hst hnd x y Z l v hw (by omega) (by omega) ?_
                    rw [f_Mod_link_44, if_pos H1, if_neg H2, if_neg H3, if_neg H4, if_neg H5, if_neg H6, if_neg H7, if_neg H8, if_pos H9] at hk
                    exact hk
                  · by_cases H10 : v = 8
                    · refine pw_tableIn (tgt := 151) e_Mod_link_63 (by rw [nI_toInt (by omega)]; omega) (by rw [nI_toInt (by omega)]; omega) (by rw [nI_toInt (by omega), H10]; rfl) (by decide) ?_
                      refine w_Mod_link_151 hst hnd x y Z l v hw (by omega) (by omega) ?_
                      rw [f_Mod_link_44, if_pos H1, if_neg H2, if_neg H3, if_neg H4, if_neg H5, if_neg H6, if_neg H7, if_neg H8, if_neg H9, if_pos H10] at hk
                      exact hk
                    · by_cases H11 : v = 9
                      · refine pw_tableIn (tgt := 144) e_Mod_link_63 (by rw [nI_toInt (by omega)]; omega) (by rw [nI_toInt (by omega)]; omega) (by rw [nI_toInt (by omega), H11]; rfl) (by decide) ?_
                        refine pw_aload_n e_Mod_link_144 rfl ?_
                        refine pw_getf e_Mod_link_145 fl_Mod_92 (gO_get hnd (i := 0) rfl) rfl ?_
                        refine pw_iload_n e_Mod_link_148 rfl ?_
                        refine pw_ialdN e_Mod_link_149 (gO_get hnd (i := 24) rfl) (by omega) (by decide) ?_
                        refine pw_iret e_Mod_link_150 rfl rfl ?_
                        rw [f_Mod_link_44, if_pos H1, if_neg H2, if_neg H3, if_neg H4, if_neg H5, if_neg H6, if_neg H7, if_neg H8, if_neg H9, if_neg H10, if_pos H11] at hk
                        exact hk
                      · refine pw_tableOut (tgt := 151) e_Mod_link_63 (Or.inr (by rw [nI_toInt (by omega)]; omega)) (by decide) ?_
                        refine w_Mod_link_151 hst hnd x y Z l v hw (by omega) (by omega) ?_
                        rw [f_Mod_link_44, if_pos H1, if_neg H2, if_neg H3, if_neg H4, if_neg H5, if_neg H6, if_neg H7, if_neg H8, if_neg H9, if_neg H10, if_neg H11] at hk
                        exact hk
  · refine pw_aload_n e_Mod_link_50 rfl ?_
    refine pw_getf e_Mod_link_51 fl_Mod_40 (gO_get hnd (i := 0) rfl) rfl ?_
    refine pw_iload_n e_Mod_link_54 rfl ?_
    have hb15 := hw.whr l
    refine pw_ialdC e_Mod_link_55 (gO_get hnd (i := 11) rfl) (by omega) (by decide) hb15.1 ?_
    replace hb15 := hb15.2
    refine pw_iconst (v := nI 2) e_Mod_link_56 (by decide) ?_
    refine pw_icmp_eqN (tgt := 62) e_Mod_link_57 (by decide) (by omega) (by omega) (fun (H16 : (pN Z 10 l) = 2) => ?_) (fun (H16 : ¬ (pN Z 10 l) = 2) => ?_)
    · refine pw_iload_n e_Mod_link_62 rfl ?_
      by_cases H17 : v = 0
      · refine pw_tableIn (tgt := 116) e_Mod_link_63 (by rw [nI_toInt (by omega)]; omega) (by rw [nI_toInt (by omega)]; omega) (by rw [nI_toInt (by omega), H17]; rfl) (by decide) ?_
        refine pw_aload_n e_Mod_link_116 rfl ?_
        refine pw_getf e_Mod_link_117 fl_Mod_34 (gO_get hnd (i := 0) rfl) rfl ?_
        refine pw_iload_n e_Mod_link_120 rfl ?_
        have hb27 := hw.frm l
        refine pw_ialdC e_Mod_link_121 (gO_get hnd (i := 9) rfl) (by omega) (by decide) hb27.1 ?_
        replace hb27 := hb27.2
        refine pw_iret e_Mod_link_122 rfl rfl ?_
        rw [f_Mod_link_44, if_neg (Nat.not_le.mpr H1), if_pos H16, if_pos H17] at hk
        exact hk
      · by_cases H18 : v = 1
        · refine pw_tableIn (tgt := 123) e_Mod_link_63 (by rw [nI_toInt (by omega)]; omega) (by rw [nI_toInt (by omega)]; omega) (by rw [nI_toInt (by omega), H18]; rfl) (by decide) ?_
          refine pw_aload_n e_Mod_link_123 rfl ?_
          refine pw_getf e_Mod_link_124 fl_Mod_37 (gO_get hnd (i := 0) rfl) rfl ?_
          refine pw_iload_n e_Mod_link_127 rfl ?_
          have hb28 := hw.to l
          refine pw_ialdC e_Mod_link_128 (gO_get hnd (i := 10) rfl) (by omega) (by decide) hb28.1 ?_
          replace hb28 := hb28.2
          refine pw_iret e_Mod_link_129 rfl rfl ?_
          rw [f_Mod_link_44, if_neg (Nat.not_le.mpr H1), if_pos H16, if_neg H17, if_pos H18] at hk
          exact hk
        · by_cases H19 : v = 2
          · refine pw_tableIn (tgt := 130) e_Mod_link_63 (by rw [nI_toInt (by omega)]; omega) (by rw [nI_toInt (by omega)]; omega) (by rw [nI_toInt (by omega), H19]; rfl) (by decide) ?_
            refine pw_aload_n e_Mod_link_130 rfl ?_
            refine pw_getf e_Mod_link_131 fl_Mod_40 (gO_get hnd (i := 0) rfl) rfl ?_
            refine pw_iload_n e_Mod_link_134 rfl ?_
            have hb29 := hw.whr l
            refine pw_ialdC e_Mod_link_135 (gO_get hnd (i := 11) rfl) (by omega) (by decide) hb29.1 ?_
            replace hb29 := hb29.2
            refine pw_iret e_Mod_link_136 rfl rfl ?_
            rw [f_Mod_link_44, if_neg (Nat.not_le.mpr H1), if_pos H16, if_neg H17, if_neg H18, if_pos H19] at hk
            exact hk
          · by_cases H20 : v = 3
            · refine pw_tableIn (tgt := 137) e_Mod_link_63 (by rw [nI_toInt (by omega)]; omega) (by rw [nI_toInt (by omega)]; omega) (by rw [nI_toInt (by omega), H20]; rfl) (by decide) ?_
              refine pw_aload_n e_Mod_link_137 rfl ?_
              refine pw_getf e_Mod_link_138 fl_Mod_89 (gO_get hnd (i := 0) rfl) rfl ?_
              refine pw_iload_n e_Mod_link_141 rfl ?_
              refine pw_ialdN e_Mod_link_142 (gO_get hnd (i := 23) rfl) (by omega) (by decide) ?_
              refine pw_iret e_Mod_link_143 rfl rfl ?_
              rw [f_Mod_link_44, if_neg (Nat.not_le.mpr H1), if_pos H16, if_neg H17, if_neg H18, if_neg H19, if_pos H20] at hk
              exact hk
            · by_cases H21 : v = 4
              · refine pw_tableIn (tgt := 151) e_Mod_link_63 (by rw [nI_toInt (by omega)]; omega) (by rw [nI_toInt (by omega)]; omega) (by rw [nI_toInt (by omega), H21]; rfl) (by decide) ?_
                refine w_Mod_link_151 hst hnd x y Z l v hw (by omega) (by omega) ?_
                rw [f_Mod_link_44, if_neg (Nat.not_le.mpr H1), if_pos H16, if_neg H17, if_neg H18, if_neg H19, if_neg H20, if_pos H21] at hk
                exact hk
              · by_cases H22 : v = 5
                · refine pw_tableIn (tgt := 151) e_Mod_link_63 (by rw [nI_toInt (by omega)]; omega) (by rw [nI_toInt (by omega)]; omega) (by rw [nI_toInt (by omega), H22]; rfl) (by decide) ?_
                  refine w_Mod_link_151 hst hnd x y Z l v hw (by omega) (by omega) ?_
                  rw [f_Mod_link_44, if_neg (Nat.not_le.mpr H1), if_pos H16, if_neg H17, if_neg H18, if_neg H19, if_neg H20, if_neg H21, if_pos H22] at hk
                  exact hk
                · by_cases H23 : v = 6
                  · refine pw_tableIn (tgt := 151) e_Mod_link_63 (by rw [nI_toInt (by omega)]; omega) (by rw [nI_toInt (by omega)]; omega) (by rw [nI_toInt (by omega), H23]; rfl) (by decide) ?_
                    refine w_Mod_link_151 hst hnd x y Z l v hw (by omega) (by omega) ?_
                    rw [f_Mod_link_44, if_neg (Nat.not_le.mpr H1), if_pos H16, if_neg H17, if_neg H18, if_neg H19, if_neg H20, if_neg H21, if_neg H22, if_pos H23] at hk
                    exact hk
                  · by_cases H24 : v = 7
                    · refine pw_tableIn (tgt := 151) e_Mod_link_63 (by rw [nI_toInt (by omega)]; omega) (by rw [nI_toInt (by omega)]; omega) (by rw [nI_toInt (by omega), H24]; rfl) (by decide) ?_
                      refine w_Mod_link_151 hst hnd x y Z l v hw (by omega) (by omega) ?_
                      rw [f_Mod_link_44, if_neg (Nat.not_le.mpr H1), if_pos H16, if_neg H17, if_neg H18, if_neg H19, if_neg H20, if_neg H21, if_neg H22, if_neg H23, if_pos H24] at hk
                      exact hk
                    · by_cases H25 : v = 8
                      · refine pw_tableIn (tgt := 151) e_Mod_link_63 (by rw [nI_toInt (by omega)]; omega) (by rw [nI_toInt (by omega)]; omega) (by rw [nI_toInt (by omega), H25]; rfl) (by decide) ?_
                        refine w_Mod_link_151 hst hnd x y Z l v hw (by omega) (by omega) ?_
                        rw [f_Mod_link_44, if_neg (Nat.not_le.mpr H1), if_pos H16, if_neg H17, if_neg H18, if_neg H19, if_neg H20, if_neg H21, if_neg H22, if_neg H23, if_neg H24, if_pos H25] at hk
                        exact hk
                      · by_cases H26 : v = 9
                        · refine pw_tableIn (tgt := 144) e_Mod_link_63 (by rw [nI_toInt (by omega)]; omega) (by rw [nI_toInt (by omega)]; omega) (by rw [nI_toInt (by omega), H26]; rfl) (by decide) ?_
                          refine pw_aload_n e_Mod_link_144 rfl ?_
                          refine pw_getf e_Mod_link_145 fl_Mod_92 (gO_get hnd (i := 0) rfl) rfl ?_
                          refine pw_iload_n e_Mod_link_148 rfl ?_
                          refine pw_ialdN e_Mod_link_149 (gO_get hnd (i := 24) rfl) (by omega) (by decide) ?_
                          refine pw_iret e_Mod_link_150 rfl rfl ?_
                          rw [f_Mod_link_44, if_neg (Nat.not_le.mpr H1), if_pos H16, if_neg H17, if_neg H18, if_neg H19, if_neg H20, if_neg H21, if_neg H22, if_neg H23, if_neg H24, if_neg H25, if_pos H26] at hk
                          exact hk
                        · refine pw_tableOut (tgt := 151) e_Mod_link_63 (Or.inr (by rw [nI_toInt (by omega)]; omega)) (by decide) ?_
                          refine w_Mod_link_151 hst hnd x y Z l v hw (by omega) (by omega) ?_
                          rw [f_Mod_link_44, if_neg (Nat.not_le.mpr H1), if_pos H16, if_neg H17, if_neg H18, if_neg H19, if_neg H20, if_neg H21, if_neg H22, if_neg H23, if_neg H24, if_neg H25, if_neg H26] at hk
                          exact hk
    · refine pw_iconst (v := (-1)) e_Mod_link_60 (by decide) ?_
      refine pw_iret e_Mod_link_61 rfl rfl ?_
      rw [f_Mod_link_44, if_neg (Nat.not_le.mpr H1), if_neg H16] at hk
      exact hk
def f_Mod_link (x : Int32) (y : Int32) (Z : Nat → Nat → Int32) : Int32 × (Nat → Nat → Int32) :=
  if (f_Mod_within x (nI 0) ((nI (pN Z 100 21)) - 1)) = 0 then (0, (f_Mod_right (nI 0) (nI 1) (u2 Z 100 18 0)).2) else if (f_Mod_within y (nI 0) (nI 14)) = 0 then (0, (f_Mod_right (nI 0) (nI 1) (u2 Z 100 18 0)).2) else if ((f_Mod_right (nI 1) (nI 1) (u2 Z 100 18 0)).1) = 0 then (0, (f_Mod_right (nI 1) (nI 1) (u2 Z 100 18 0)).2) else f_Mod_link_44 x y ((f_Mod_right (nI 1) (nI 1) (u2 Z 100 18 0)).2) x.toNatClampNeg y.toNatClampNeg
set_option maxRecDepth 4000 in
theorem w_Mod_link_0 {g : GG} {Q : QT} {h : Hp} {kc ks : Nat} (hst : (gl g).stackTraces = false) {A : Nat → Nat} (hnd : (gK (moL g A)).Nodup) (x : Int32) (y : Int32)  (Z : Nat → Nat → Int32) (hw : wfM Z) (hk : Q (.inl (some (.int (f_Mod_link x y Z).1))) (ov h (gO (moL g A) ((f_Mod_link x y Z).2)))) : PW g M_Mod_link 3 kc ks Q 0 [.ref (A 100), .int (x), .int (y)] [] (ov h (gO (moL g A) Z)) := by
  have hz0 := hw.blk.2
  have hz1 := hw.lnk.2
  have hz2 := hw.dvs.2
  refine pw_aload_n e_Mod_link_0 rfl ?_
  refine pw_iconst (v := nI 0) e_Mod_link_1 (by decide) ?_
  refine pw_putGi (i := 0) (ps := 18) (x := 0) e_Mod_link_2 fp_Mod_159 hnd (mo_x _ _) rfl (Nat.le_of_ble_eq_true rfl) rfl rfl (fun _ _ => rfl) ?_
  refine pw_aload_n e_Mod_link_5 rfl ?_
  refine pw_iload_n e_Mod_link_6 rfl ?_
  refine pw_iconst (v := nI 0) e_Mod_link_7 (by decide) ?_
  refine pw_aload_n e_Mod_link_8 rfl ?_
  refine pw_getf e_Mod_link_9 fl_Mod_162 (gO_get hnd (i := 0) rfl) rfl ?_
  rw [show (u2 Z 100 18 0) 100 21 = nI (pN Z 100 21) from hw.lnk.1]
  refine pw_iconst (v := nI 1) e_Mod_link_12 (by decide) ?_
  refine pw_isub e_Mod_link_13 ?_
  refine pw_detS (As := [.int (x), .int (nI (0)), .int ((nI (pN Z 100 21)) - 1)]) e_Mod_link_14 li_Mod_312 (q_Mod_within hst x (nI 0) ((nI (pN Z 100 21)) - 1)) rfl (by decide) (Nat.le_of_ble_eq_true rfl) rfl ?_
  refine pw_if_eq (tgt := 34) e_Mod_link_17 (by decide) (fun (H1 : (f_Mod_within x (nI 0) ((nI (pN Z 100 21)) - 1)) = 0) => ?_) (fun (H1 : ¬ (f_Mod_within x (nI 0) ((nI (pN Z 100 21)) - 1)) = 0) => ?_)
  · refine pw_iconst (v := nI 0) e_Mod_link_34 (by decide) ?_
    refine pw_iconst (v := nI 1) e_Mod_link_35 (by decide) ?_
    refine pw_detV (As := [.int (nI (0)), .int (nI (1))]) e_Mod_link_36 li_Mod_372 rfl (gO_get hnd (i := 0) rfl) (q_Mod_right hst hnd (nI 0) (nI 1) (u2 Z 100 18 0) (gO_in hnd (fun _ z => z))) rfl (by decide) (Nat.le_of_ble_eq_true rfl) rfl ?_
    refine pw_sameG hnd ?_
    refine pw_if_ne (tgt := 44) e_Mod_link_39 (by decide) (fun (H2 : ¬ ((f_Mod_right (nI 0) (nI 1) (u2 Z 100 18 0)).1) = 0) => ?_) (fun (H2 : ((f_Mod_right (nI 0) (nI 1) (u2 Z 100 18 0)).1) = 0) => ?_)
    · exact absurd H2 (fun q => (rt_of (by decide) q).1 rfl)
    · refine pw_iconst (v := nI 0) e_Mod_link_42 (by decide) ?_
      refine pw_iret e_Mod_link_43 rfl rfl ?_
      rw [f_Mod_link, if_pos H1] at hk
      exact hk
  · refine pw_iload_n e_Mod_link_20 rfl ?_
    refine pw_iconst (v := nI 0) e_Mod_link_21 (by decide) ?_
    refine pw_bipush (v := nI 14) e_Mod_link_22 (by decide) ?_
    refine pw_detS (As := [.int (y), .int (nI (0)), .int (nI (14))]) e_Mod_link_24 li_Mod_312 (q_Mod_within hst y (nI 0) (nI 14)) rfl (by decide) (Nat.le_of_ble_eq_true rfl) rfl ?_
    refine pw_if_eq (tgt := 34) e_Mod_link_27 (by decide) (fun (H3 : (f_Mod_within y (nI 0) (nI 14)) = 0) => ?_) (fun (H3 : ¬ (f_Mod_within y (nI 0) (nI 14)) = 0) => ?_)
    · refine pw_iconst (v := nI 0) e_Mod_link_34 (by decide) ?_
      refine pw_iconst (v := nI 1) e_Mod_link_35 (by decide) ?_
      refine pw_detV (As := [.int (nI (0)), .int (nI (1))]) e_Mod_link_36 li_Mod_372 rfl (gO_get hnd (i := 0) rfl) (q_Mod_right hst hnd (nI 0) (nI 1) (u2 Z 100 18 0) (gO_in hnd (fun _ z => z))) rfl (by decide) (Nat.le_of_ble_eq_true rfl) rfl ?_
      refine pw_sameG hnd ?_
      refine pw_if_ne (tgt := 44) e_Mod_link_39 (by decide) (fun (H4 : ¬ ((f_Mod_right (nI 0) (nI 1) (u2 Z 100 18 0)).1) = 0) => ?_) (fun (H4 : ((f_Mod_right (nI 0) (nI 1) (u2 Z 100 18 0)).1) = 0) => ?_)
      · exact absurd H4 (fun q => (rt_of (by decide) q).1 rfl)
      · refine pw_iconst (v := nI 0) e_Mod_link_42 (by decide) ?_
        refine pw_iret e_Mod_link_43 rfl rfl ?_
        rw [f_Mod_link, if_neg H1, if_pos H3] at hk
        exact hk
    · refine pw_iconst (v := nI 1) e_Mod_link_30 (by decide) ?_
      refine pw_goto (tgt := 35) e_Mod_link_31 (by decide) ?_
      refine pw_iconst (v := nI 1) e_Mod_link_35 (by decide) ?_
      refine pw_detV (As := [.int (nI (1)), .int (nI (1))]) e_Mod_link_36 li_Mod_372 rfl (gO_get hnd (i := 0) rfl) (q_Mod_right hst hnd (nI 1) (nI 1) (u2 Z 100 18 0) (gO_in hnd (fun _ z => z))) rfl (by decide) (Nat.le_of_ble_eq_true rfl) rfl ?_
      refine pw_sameG hnd ?_
      refine pw_if_ne (tgt := 44) e_Mod_link_39 (by decide) (fun (H5 : ¬ ((f_Mod_right (nI 1) (nI 1) (u2 Z 100 18 0)).1) = 0) => ?_) (fun (H5 : ((f_Mod_right (nI 1) (nI 1) (u2 Z 100 18 0)).1) = 0) => ?_)
      · refine pw_eqls (ls' := [.ref (A 100), .int (nI (x.toNatClampNeg)), .int (y)]) (by rw [← (show x = nI (x.toNatClampNeg) from (wi_of (by omega) H1).1)]) ?_
        refine pw_eqls (ls' := [.ref (A 100), .int (nI (x.toNatClampNeg)), .int (nI (y.toNatClampNeg))]) (by rw [← (show y = nI (y.toNatClampNeg) from (win_M (n := 14) (by decide) H3).1)]) ?_
        refine w_Mod_link_44 hst hnd x y ((f_Mod_right (nI 1) (nI 1) (u2 Z 100 18 0)).2) x.toNatClampNeg y.toNatClampNeg (z_right (wfM.of (Q := u2 Z 100 18 0) hw rfl rfl rfl rfl rfl rfl rfl rfl rfl rfl rfl rfl)) (by have := (wi_of (by omega) H1).2; omega) (win_M (n := 14) (by decide) H3).2 ?_
        rw [f_Mod_link, if_neg H1, if_neg H3, if_neg H5] at hk
        exact hk
      · refine pw_iconst (v := nI 0) e_Mod_link_42 (by decide) ?_
        refine pw_iret e_Mod_link_43 rfl rfl ?_
        rw [f_Mod_link, if_neg H1, if_neg H3, if_pos H5] at hk
        exact hk
theorem q_Mod_link {g : GG} {h : Hp} (hst : (gl g).stackTraces = false) {A : Nat → Nat} (hnd : (gK (moL g A)).Nodup) (x : Int32) (y : Int32)  (Z : Nat → Nat → Int32) (hm : ∀ q ∈ gO (moL g A) Z, h q.1 = some q.2) (hw : wfM Z) : PM g M_Mod_link 3 0 0 [.ref (A 100), .int (x), .int (y)] h (RetV (some (.int (f_Mod_link x y Z).1)) (ov h (gO (moL g A) ((f_Mod_link x y Z).2)))) := by
  refine PM.of hst (by decide) rfl (fun v hv => ?_) (Nat.le_of_ble_eq_true rfl) ?_
  · simp only [List.mem_cons, List.not_mem_nil, or_false] at hv; rcases hv with rfl | rfl | rfl <;> rfl
  · have hq := w_Mod_link_0 (g := g) (Q := RetV (some (.int (f_Mod_link x y Z).1)) (ov h (gO (moL g A) ((f_Mod_link x y Z).2)))) (h := h) (kc := 0) (ks := 0) hst hnd x y Z hw ?_
    · rw [ov_self hm] at hq; exact hq
    · exact ⟨rfl, rfl⟩

def f_Mod_plant_38 (x : Int32) (y : Int32) (Z : Nat → Nat → Int32) (l : Nat) : Int32 × (Nat → Nat → Int32) :=
  if y = 0 then ((Z 0) (200 + l), Z) else if y = 1 then ((Z 11) l, Z) else (f_Mod_actuated Z 0 (nI (l)) (Z 0), Z)
set_option maxRecDepth 4000 in
theorem w_Mod_plant_38 {g : GG} {Q : QT} {h : Hp} {kc ks : Nat} (hst : (gl g).stackTraces = false) {A : Nat → Nat} (hnd : (gK (moL g A)).Nodup) (x : Int32) (y : Int32)  (Z : Nat → Nat → Int32) (l : Nat) (hw : wfM Z) (hl : l < 4) (hk : Q (.inl (some (.int (f_Mod_plant_38 x y Z l).1))) (ov h (gO (moL g A) ((f_Mod_plant_38 x y Z l).2)))) : PW g M_Mod_plant 3 kc ks Q 38 [.ref (A 100), .int (nI (l)), .int (y)] [] (ov h (gO (moL g A) Z)) := by
  have hz0 := hw.blk.2
  have hz1 := hw.lnk.2
  have hz2 := hw.dvs.2
  refine pw_iload_n e_Mod_plant_38 rfl ?_
  refine pw_if_ne (tgt := 55) e_Mod_plant_39 (by decide) (fun (H1 : ¬ y = 0) => ?_) (fun (H1 : y = 0) => ?_)
  · refine pw_iload_n e_Mod_plant_55 rfl ?_
    refine pw_iconst (v := nI 1) e_Mod_plant_56 (by decide) ?_
    refine pw_icmp_ne (tgt := 69) e_Mod_plant_57 (by decide) (fun (H2 : ¬ y = 1) => ?_) (fun (H2 : y = 1) => ?_)
    · refine pw_aload_n e_Mod_plant_69 rfl ?_
      refine pw_iconst (v := nI 0) e_Mod_plant_70 (by decide) ?_
      refine pw_iload_n e_Mod_plant_71 rfl ?_
      refine pw_detV (As := [.int (nI (0)), .int (nI (l))]) e_Mod_plant_72 li_Mod_255 rfl (gO_get hnd (i := 0) rfl) (q_Mod_actuated hst (mo_at hnd) hw 0 (nI (l)) (by omega) (Z 0) (gO_get hnd (i := 1) rfl)) rfl (by decide) (Nat.le_of_ble_eq_true rfl) rfl ?_
      refine pw_iret e_Mod_plant_75 rfl rfl ?_
      rw [f_Mod_plant_38, if_neg H1, if_neg H2] at hk
      exact hk
    · refine pw_aload_n e_Mod_plant_60 rfl ?_
      refine pw_getf e_Mod_plant_61 fl_Mod_43 (gO_get hnd (i := 0) rfl) rfl ?_
      refine pw_iload_n e_Mod_plant_64 rfl ?_
      refine pw_ialdN e_Mod_plant_65 (gO_get hnd (i := 12) rfl) (by omega) (by decide) ?_
      refine pw_goto (tgt := 75) e_Mod_plant_66 (by decide) ?_
      refine pw_iret e_Mod_plant_75 rfl rfl ?_
      rw [f_Mod_plant_38, if_neg H1, if_pos H2] at hk
      exact hk
  · refine pw_aload_n e_Mod_plant_42 rfl ?_
    refine pw_getf e_Mod_plant_43 fl_Mod_9 (gO_get hnd (i := 0) rfl) rfl ?_
    refine pw_sipush (v := nI 200) e_Mod_plant_46 (by decide) ?_
    refine pw_iload_n e_Mod_plant_49 rfl ?_
    refine pw_iaddN e_Mod_plant_50 ?_
    refine pw_ialdN e_Mod_plant_51 (gO_get hnd (i := 1) rfl) (by omega) (by decide) ?_
    refine pw_goto (tgt := 75) e_Mod_plant_52 (by decide) ?_
    refine pw_iret e_Mod_plant_75 rfl rfl ?_
    rw [f_Mod_plant_38, if_pos H1] at hk
    exact hk
def f_Mod_plant (x : Int32) (y : Int32) (Z : Nat → Nat → Int32) : Int32 × (Nat → Nat → Int32) :=
  if (f_Mod_within x (nI 0) (nI 3)) = 0 then (0, (f_Mod_right (nI 0) (nI 1) (u2 Z 100 18 0)).2) else if (f_Mod_within y (nI 0) (nI 2)) = 0 then (0, (f_Mod_right (nI 0) (nI 1) (u2 Z 100 18 0)).2) else if ((f_Mod_right (nI 1) (nI 1) (u2 Z 100 18 0)).1) = 0 then (0, (f_Mod_right (nI 1) (nI 1) (u2 Z 100 18 0)).2) else f_Mod_plant_38 x y ((f_Mod_right (nI 1) (nI 1) (u2 Z 100 18 0)).2) x.toNatClampNeg
set_option maxRecDepth 4000 in
theorem w_Mod_plant_0 {g : GG} {Q : QT} {h : Hp} {kc ks : Nat} (hst : (gl g).stackTraces = false) {A : Nat → Nat} (hnd : (gK (moL g A)).Nodup) (x : Int32) (y : Int32)  (Z : Nat → Nat → Int32) (hw : wfM Z) (hk : Q (.inl (some (.int (f_Mod_plant x y Z).1))) (ov h (gO (moL g A) ((f_Mod_plant x y Z).2)))) : PW g M_Mod_plant 3 kc ks Q 0 [.ref (A 100), .int (x), .int (y)] [] (ov h (gO (moL g A) Z)) := by
  have hz0 := hw.blk.2
  have hz1 := hw.lnk.2
  have hz2 := hw.dvs.2
  refine pw_aload_n e_Mod_plant_0 rfl ?_
  refine pw_iconst (v := nI 0) e_Mod_plant_1 (by decide) ?_
  refine pw_putGi (i := 0) (ps := 18) (x := 0) e_Mod_plant_2 fp_Mod_159 hnd (mo_x _ _) rfl (Nat.le_of_ble_eq_true rfl) rfl rfl (fun _ _ => rfl) ?_
  refine pw_aload_n e_Mod_plant_5 rfl ?_
  refine pw_iload_n e_Mod_plant_6 rfl ?_
  refine pw_iconst (v := nI 0) e_Mod_plant_7 (by decide) ?_
  refine pw_iconst (v := nI 3) e_Mod_plant_8 (by decide) ?_
  refine pw_detS (As := [.int (x), .int (nI (0)), .int (nI (3))]) e_Mod_plant_9 li_Mod_312 (q_Mod_within hst x (nI 0) (nI 3)) rfl (by decide) (Nat.le_of_ble_eq_true rfl) rfl ?_
  refine pw_if_eq (tgt := 28) e_Mod_plant_12 (by decide) (fun (H1 : (f_Mod_within x (nI 0) (nI 3)) = 0) => ?_) (fun (H1 : ¬ (f_Mod_within x (nI 0) (nI 3)) = 0) => ?_)
  · refine pw_iconst (v := nI 0) e_Mod_plant_28 (by decide) ?_
    refine pw_iconst (v := nI 1) e_Mod_plant_29 (by decide) ?_
    refine pw_detV (As := [.int (nI (0)), .int (nI (1))]) e_Mod_plant_30 li_Mod_372 rfl (gO_get hnd (i := 0) rfl) (q_Mod_right hst hnd (nI 0) (nI 1) (u2 Z 100 18 0) (gO_in hnd (fun _ z => z))) rfl (by decide) (Nat.le_of_ble_eq_true rfl) rfl ?_
    refine pw_sameG hnd ?_
    refine pw_if_ne (tgt := 38) e_Mod_plant_33 (by decide) (fun (H2 : ¬ ((f_Mod_right (nI 0) (nI 1) (u2 Z 100 18 0)).1) = 0) => ?_) (fun (H2 : ((f_Mod_right (nI 0) (nI 1) (u2 Z 100 18 0)).1) = 0) => ?_)
    · exact absurd H2 (fun q => (rt_of (by decide) q).1 rfl)
    · refine pw_iconst (v := nI 0) e_Mod_plant_36 (by decide) ?_
      refine pw_iret e_Mod_plant_37 rfl rfl ?_
      rw [f_Mod_plant, if_pos H1] at hk
      exact hk
  · refine pw_iload_n e_Mod_plant_15 rfl ?_
    refine pw_iconst (v := nI 0) e_Mod_plant_16 (by decide) ?_
    refine pw_iconst (v := nI 2) e_Mod_plant_17 (by decide) ?_
    refine pw_detS (As := [.int (y), .int (nI (0)), .int (nI (2))]) e_Mod_plant_18 li_Mod_312 (q_Mod_within hst y (nI 0) (nI 2)) rfl (by decide) (Nat.le_of_ble_eq_true rfl) rfl ?_
    refine pw_if_eq (tgt := 28) e_Mod_plant_21 (by decide) (fun (H3 : (f_Mod_within y (nI 0) (nI 2)) = 0) => ?_) (fun (H3 : ¬ (f_Mod_within y (nI 0) (nI 2)) = 0) => ?_)
    · refine pw_iconst (v := nI 0) e_Mod_plant_28 (by decide) ?_
      refine pw_iconst (v := nI 1) e_Mod_plant_29 (by decide) ?_
      refine pw_detV (As := [.int (nI (0)), .int (nI (1))]) e_Mod_plant_30 li_Mod_372 rfl (gO_get hnd (i := 0) rfl) (q_Mod_right hst hnd (nI 0) (nI 1) (u2 Z 100 18 0) (gO_in hnd (fun _ z => z))) rfl (by decide) (Nat.le_of_ble_eq_true rfl) rfl ?_
      refine pw_sameG hnd ?_
      refine pw_if_ne (tgt := 38) e_Mod_plant_33 (by decide) (fun (H4 : ¬ ((f_Mod_right (nI 0) (nI 1) (u2 Z 100 18 0)).1) = 0) => ?_) (fun (H4 : ((f_Mod_right (nI 0) (nI 1) (u2 Z 100 18 0)).1) = 0) => ?_)
      · exact absurd H4 (fun q => (rt_of (by decide) q).1 rfl)
      · refine pw_iconst (v := nI 0) e_Mod_plant_36 (by decide) ?_
        refine pw_iret e_Mod_plant_37 rfl rfl ?_
        rw [f_Mod_plant, if_neg H1, if_pos H3] at hk
        exact hk
    · refine pw_iconst (v := nI 1) e_Mod_plant_24 (by decide) ?_
      refine pw_goto (tgt := 29) e_Mod_plant_25 (by decide) ?_
      refine pw_iconst (v := nI 1) e_Mod_plant_29 (by decide) ?_
      refine pw_detV (As := [.int (nI (1)), .int (nI (1))]) e_Mod_plant_30 li_Mod_372 rfl (gO_get hnd (i := 0) rfl) (q_Mod_right hst hnd (nI 1) (nI 1) (u2 Z 100 18 0) (gO_in hnd (fun _ z => z))) rfl (by decide) (Nat.le_of_ble_eq_true rfl) rfl ?_
      refine pw_sameG hnd ?_
      refine pw_if_ne (tgt := 38) e_Mod_plant_33 (by decide) (fun (H5 : ¬ ((f_Mod_right (nI 1) (nI 1) (u2 Z 100 18 0)).1) = 0) => ?_) (fun (H5 : ((f_Mod_right (nI 1) (nI 1) (u2 Z 100 18 0)).1) = 0) => ?_)
      · refine pw_eqls (ls' := [.ref (A 100), .int (nI (x.toNatClampNeg)), .int (y)]) (by rw [← (show x = nI (x.toNatClampNeg) from (win_M (n := 3) (by decide) H1).1)]) ?_
        refine w_Mod_plant_38 hst hnd x y ((f_Mod_right (nI 1) (nI 1) (u2 Z 100 18 0)).2) x.toNatClampNeg (z_right (wfM.of (Q := u2 Z 100 18 0) hw rfl rfl rfl rfl rfl rfl rfl rfl rfl rfl rfl rfl)) (win_M (n := 3) (by decide) H1).2 ?_
        rw [f_Mod_plant, if_neg H1, if_neg H3, if_neg H5] at hk
        exact hk
      · refine pw_iconst (v := nI 0) e_Mod_plant_36 (by decide) ?_
        refine pw_iret e_Mod_plant_37 rfl rfl ?_
        rw [f_Mod_plant, if_neg H1, if_neg H3, if_pos H5] at hk
        exact hk
theorem q_Mod_plant {g : GG} {h : Hp} (hst : (gl g).stackTraces = false) {A : Nat → Nat} (hnd : (gK (moL g A)).Nodup) (x : Int32) (y : Int32)  (Z : Nat → Nat → Int32) (hm : ∀ q ∈ gO (moL g A) Z, h q.1 = some q.2) (hw : wfM Z) : PM g M_Mod_plant 3 0 0 [.ref (A 100), .int (x), .int (y)] h (RetV (some (.int (f_Mod_plant x y Z).1)) (ov h (gO (moL g A) ((f_Mod_plant x y Z).2)))) := by
  refine PM.of hst (by decide) rfl (fun v hv => ?_) (Nat.le_of_ble_eq_true rfl) ?_
  · simp only [List.mem_cons, List.not_mem_nil, or_false] at hv; rcases hv with rfl | rfl | rfl <;> rfl
  · have hq := w_Mod_plant_0 (g := g) (Q := RetV (some (.int (f_Mod_plant x y Z).1)) (ov h (gO (moL g A) ((f_Mod_plant x y Z).2)))) (h := h) (kc := 0) (ks := 0) hst hnd x y Z hw ?_
    · rw [ov_self hm] at hq; exact hq
    · exact ⟨rfl, rfl⟩

def f_Mod_target_21 (x : Int32) (y : Int32) (Z : Nat → Nat → Int32) (b : Nat) : Int32 × (Nat → Nat → Int32) :=
  (((f_Mod_keeps Z) 0) ((0 + 8 * b) + 0), u2 (f_Mod_keeps Z) 0 ((0 + 8 * b) + 0) y)
set_option maxRecDepth 4000 in
theorem w_Mod_target_21 {g : GG} {Q : QT} {h : Hp} {kc ks : Nat} (hst : (gl g).stackTraces = false) {A : Nat → Nat} (hnd : (gK (moL g A)).Nodup) (x : Int32) (y : Int32)  (Z : Nat → Nat → Int32) (b : Nat) (hw : wfM Z) (hb : b < 10) (hA : AcI Z) (hk : Q (.inl (some (.int (f_Mod_target_21 x y Z b).1))) (ov h (gO (moL g A) ((f_Mod_target_21 x y Z b).2)))) : PW g M_Mod_target 4 kc ks Q 21 [.ref (A 100), .int (nI (b)), .int (y), .retAddr 0] [] (ov h (gO (moL g A) Z)) := by
  have hz0 := hw.blk.2
  have hz1 := hw.lnk.2
  have hz2 := hw.dvs.2
  refine pw_aload_n e_Mod_target_21 rfl ?_
  refine pw_detV (As := []) e_Mod_target_22 li_Mod_416 rfl (gO_get hnd (i := 0) rfl) (q_Mod_keeps hst hnd Z (gO_in hnd (fun _ z => z)) hw hA) rfl (by decide) (Nat.le_of_ble_eq_true rfl) rfl ?_
  refine pw_sameG hnd ?_
  refine pw_aload_n e_Mod_target_25 rfl ?_
  refine pw_getf e_Mod_target_26 fl_Mod_9 (gO_get hnd (i := 0) rfl) rfl ?_
  refine pw_iconst (v := nI 0) e_Mod_target_29 (by decide) ?_
  refine pw_iload_n e_Mod_target_30 rfl ?_
  refine pw_detS (As := [.int (nI (0)), .int (nI (b))]) e_Mod_target_31 li_Mod_193 (q_at hst 0 b) rfl (by decide) (Nat.le_of_ble_eq_true rfl) rfl ?_
  refine pw_iconst (v := nI 0) e_Mod_target_34 (by decide) ?_
  refine pw_iaddN e_Mod_target_35 ?_
  refine pw_ialdN e_Mod_target_36 (gO_get hnd (i := 1) rfl) (by omega) (by decide) ?_
  refine pw_istore_n (ls2 := [_, _, _, _]) e_Mod_target_37 (by decide) rfl ?_
  refine pw_aload_n e_Mod_target_38 rfl ?_
  refine pw_getf e_Mod_target_39 fl_Mod_9 (gO_get hnd (i := 0) rfl) rfl ?_
  refine pw_iconst (v := nI 0) e_Mod_target_42 (by decide) ?_
  refine pw_iload_n e_Mod_target_43 rfl ?_
  refine pw_detS (As := [.int (nI (0)), .int (nI (b))]) e_Mod_target_44 li_Mod_193 (q_at hst 0 b) rfl (by decide) (Nat.le_of_ble_eq_true rfl) rfl ?_
  refine pw_iconst (v := nI 0) e_Mod_target_47 (by decide) ?_
  refine pw_iaddN e_Mod_target_48 ?_
  refine pw_iload_n e_Mod_target_49 rfl ?_
  refine pw_iastG (i := 1) e_Mod_target_50 hnd (mo_x _ _) rfl (by omega) (by decide) ?_
  refine pw_iload_n e_Mod_target_51 rfl ?_
  refine pw_iret e_Mod_target_52 rfl rfl ?_
  rw [f_Mod_target_21] at hk
  exact hk
def f_Mod_target (x : Int32) (y : Int32) (Z : Nat → Nat → Int32) : Int32 × (Nat → Nat → Int32) :=
  if (f_Mod_canTarget (u2 Z 100 18 0) 0 x y ((u2 Z 100 18 0) 0)) = 0 then ((f_Mod_refuses 1 (u2 Z 100 18 0)).1, (f_Mod_refuses 1 (u2 Z 100 18 0)).2) else f_Mod_target_21 x y (u2 Z 100 18 0) x.toNatClampNeg
set_option maxRecDepth 4000 in
theorem w_Mod_target_0 {g : GG} {Q : QT} {h : Hp} {kc ks : Nat} (hst : (gl g).stackTraces = false) {A : Nat → Nat} (hnd : (gK (moL g A)).Nodup) (x : Int32) (y : Int32)  (Z : Nat → Nat → Int32) (hw : wfM Z) (hA : AcI Z) (hk : Q (.inl (some (.int (f_Mod_target x y Z).1))) (ov h (gO (moL g A) ((f_Mod_target x y Z).2)))) : PW g M_Mod_target 4 kc ks Q 0 [.ref (A 100), .int (x), .int (y), .retAddr 0] [] (ov h (gO (moL g A) Z)) := by
  have hz0 := hw.blk.2
  have hz1 := hw.lnk.2
  have hz2 := hw.dvs.2
  refine pw_aload_n e_Mod_target_0 rfl ?_
  refine pw_iconst (v := nI 0) e_Mod_target_1 (by decide) ?_
  refine pw_putGi (i := 0) (ps := 18) (x := 0) e_Mod_target_2 fp_Mod_159 hnd (mo_x _ _) rfl (Nat.le_of_ble_eq_true rfl) rfl rfl (fun _ _ => rfl) ?_
  refine pw_aload_n e_Mod_target_5 rfl ?_
  refine pw_iconst (v := nI 0) e_Mod_target_6 (by decide) ?_
  refine pw_iload_n e_Mod_target_7 rfl ?_
  refine pw_iload_n e_Mod_target_8 rfl ?_
  refine pw_detV (As := [.int (nI (0)), .int (x), .int (y)]) e_Mod_target_9 li_Mod_410 rfl (gO_get hnd (i := 0) rfl) (q_Mod_canTarget hst (mo_at hnd) (wfM.of (Q := u2 Z 100 18 0) hw rfl rfl rfl rfl rfl rfl rfl rfl rfl rfl rfl rfl) 0 x y (by omega) ((u2 Z 100 18 0) 0) (gO_get hnd (i := 1) rfl)) rfl (by decide) (Nat.le_of_ble_eq_true rfl) rfl ?_
  refine pw_if_ne (tgt := 21) e_Mod_target_12 (by decide) (fun (H1 : ¬ (f_Mod_canTarget (u2 Z 100 18 0) 0 x y ((u2 Z 100 18 0) 0)) = 0) => ?_) (fun (H1 : (f_Mod_canTarget (u2 Z 100 18 0) 0 x y ((u2 Z 100 18 0) 0)) = 0) => ?_)
  · refine pw_eqls (ls' := [.ref (A 100), .int (nI (x.toNatClampNeg)), .int (y), .retAddr 0]) (by rw [← (show x = nI (x.toNatClampNeg) from (ct_of (wfM.of (Q := u2 Z 100 18 0) hw rfl rfl rfl rfl rfl rfl rfl rfl rfl rfl rfl rfl) H1).1)]) ?_
    refine w_Mod_target_21 hst hnd x y (u2 Z 100 18 0) x.toNatClampNeg (wfM.of (Q := u2 Z 100 18 0) hw rfl rfl rfl rfl rfl rfl rfl rfl rfl rfl rfl rfl) (ct_of (wfM.of (Q := u2 Z 100 18 0) hw rfl rfl rfl rfl rfl rfl rfl rfl rfl rfl rfl rfl) H1).2 (hA.of rfl rfl) ?_
    rw [f_Mod_target, if_neg H1] at hk
    exact hk
  · refine pw_aload_n e_Mod_target_15 rfl ?_
    refine pw_iconst (v := nI 1) e_Mod_target_16 (by decide) ?_
    refine pw_detV (As := [.int (nI (1))]) e_Mod_target_17 li_Mod_413 rfl (gO_get hnd (i := 0) rfl) (q_Mod_refuses hst hnd 1 (by decide) (u2 Z 100 18 0) (gO_in hnd (fun _ z => z)) (wfM.of (Q := u2 Z 100 18 0) hw rfl rfl rfl rfl rfl rfl rfl rfl rfl rfl rfl rfl)) rfl (by decide) (Nat.le_of_ble_eq_true rfl) rfl ?_
    refine pw_sameG hnd ?_
    refine pw_iret e_Mod_target_20 rfl rfl ?_
    rw [f_Mod_target, if_pos H1] at hk
    exact hk
theorem q_Mod_target {g : GG} {h : Hp} (hst : (gl g).stackTraces = false) {A : Nat → Nat} (hnd : (gK (moL g A)).Nodup) (x : Int32) (y : Int32)  (Z : Nat → Nat → Int32) (hm : ∀ q ∈ gO (moL g A) Z, h q.1 = some q.2) (hw : wfM Z) (hA : AcI Z) : PM g M_Mod_target 4 0 0 [.ref (A 100), .int (x), .int (y)] h (RetV (some (.int (f_Mod_target x y Z).1)) (ov h (gO (moL g A) ((f_Mod_target x y Z).2)))) := by
  refine PM.of hst (by decide) rfl (fun v hv => ?_) (Nat.le_of_ble_eq_true rfl) ?_
  · simp only [List.mem_cons, List.not_mem_nil, or_false] at hv; rcases hv with rfl | rfl | rfl <;> rfl
  · have hq := w_Mod_target_0 (g := g) (Q := RetV (some (.int (f_Mod_target x y Z).1)) (ov h (gO (moL g A) ((f_Mod_target x y Z).2)))) (h := h) (kc := 0) (ks := 0) hst hnd x y Z hw hA ?_
    · rw [ov_self hm] at hq; exact hq
    · exact ⟨rfl, rfl⟩

def f_Mod_hand_34 (x : Int32) (y : Int32) (Z : Nat → Nat → Int32) (b : Nat) (v : Nat) : Int32 × (Nat → Nat → Int32) :=
  (((f_Mod_keeps Z) 0) ((0 + 8 * b) + v), u2 (f_Mod_keeps Z) 0 ((0 + 8 * b) + v) y)
set_option maxRecDepth 4000 in
theorem w_Mod_hand_34 {g : GG} {Q : QT} {h : Hp} {kc ks : Nat} (hst : (gl g).stackTraces = false) {A : Nat → Nat} (hnd : (gK (moL g A)).Nodup) (x : Int32) (y : Int32)  (Z : Nat → Nat → Int32) (b : Nat) (v : Nat) (hw : wfM Z) (hb : b < 10) (hv : v < 4) (hA : AcI Z) (hk : Q (.inl (some (.int (f_Mod_hand_34 x y Z b v).1))) (ov h (gO (moL g A) ((f_Mod_hand_34 x y Z b v).2)))) : PW g M_Mod_hand 4 kc ks Q 34 [.ref (A 100), .int (nI (b)), .int (y), .int (nI (v)), .retAddr 0] [] (ov h (gO (moL g A) Z)) := by
  have hz0 := hw.blk.2
  have hz1 := hw.lnk.2
  have hz2 := hw.dvs.2
  refine pw_aload_n e_Mod_hand_34 rfl ?_
  refine pw_detV (As := []) e_Mod_hand_35 li_Mod_416 rfl (gO_get hnd (i := 0) rfl) (q_Mod_keeps hst hnd Z (gO_in hnd (fun _ z => z)) hw hA) rfl (by decide) (Nat.le_of_ble_eq_true rfl) rfl ?_
  refine pw_sameG hnd ?_
  refine pw_aload_n e_Mod_hand_38 rfl ?_
  refine pw_getf e_Mod_hand_39 fl_Mod_9 (gO_get hnd (i := 0) rfl) rfl ?_
  refine pw_iconst (v := nI 0) e_Mod_hand_42 (by decide) ?_
  refine pw_iload_n e_Mod_hand_43 rfl ?_
  refine pw_detS (As := [.int (nI (0)), .int (nI (b))]) e_Mod_hand_44 li_Mod_193 (q_at hst 0 b) rfl (by decide) (Nat.le_of_ble_eq_true rfl) rfl ?_
  refine pw_iload_n e_Mod_hand_47 rfl ?_
  refine pw_iaddN e_Mod_hand_48 ?_
  refine pw_ialdN e_Mod_hand_49 (gO_get hnd (i := 1) rfl) (by omega) (by decide) ?_
  refine pw_istore (ls2 := [_, _, _, _, _]) e_Mod_hand_50 (by decide) rfl ?_
  refine pw_aload_n e_Mod_hand_52 rfl ?_
  refine pw_getf e_Mod_hand_53 fl_Mod_9 (gO_get hnd (i := 0) rfl) rfl ?_
  refine pw_iconst (v := nI 0) e_Mod_hand_56 (by decide) ?_
  refine pw_iload_n e_Mod_hand_57 rfl ?_
  refine pw_detS (As := [.int (nI (0)), .int (nI (b))]) e_Mod_hand_58 li_Mod_193 (q_at hst 0 b) rfl (by decide) (Nat.le_of_ble_eq_true rfl) rfl ?_
  refine pw_iload_n e_Mod_hand_61 rfl ?_
  refine pw_iaddN e_Mod_hand_62 ?_
  refine pw_iload_n e_Mod_hand_63 rfl ?_
  refine pw_iastG (i := 1) e_Mod_hand_64 hnd (mo_x _ _) rfl (by omega) (by decide) ?_
  refine pw_iload e_Mod_hand_65 rfl ?_
  refine pw_iret e_Mod_hand_67 rfl rfl ?_
  rw [f_Mod_hand_34] at hk
  exact hk
def f_Mod_hand (x : Int32) (y : Int32) (Z : Nat → Nat → Int32) : Int32 × (Nat → Nat → Int32) :=
  if (f_Mod_byHand (u2 Z 100 18 0) 0 x ((u2 Z 100 18 0) 0)) = ((-1)) then ((f_Mod_refuses 1 (u2 Z 100 18 0)).1, (f_Mod_refuses 1 (u2 Z 100 18 0)).2) else if (f_Mod_within y (nI 0) (nI 1000)) = 0 then ((f_Mod_refuses 1 (u2 Z 100 18 0)).1, (f_Mod_refuses 1 (u2 Z 100 18 0)).2) else f_Mod_hand_34 x y (u2 Z 100 18 0) x.toNatClampNeg ((f_Mod_byHand (u2 Z 100 18 0) 0 x ((u2 Z 100 18 0) 0)).toNatClampNeg)
set_option maxRecDepth 4000 in
theorem w_Mod_hand_0 {g : GG} {Q : QT} {h : Hp} {kc ks : Nat} (hst : (gl g).stackTraces = false) {A : Nat → Nat} (hnd : (gK (moL g A)).Nodup) (x : Int32) (y : Int32)  (Z : Nat → Nat → Int32) (hw : wfM Z) (hA : AcI Z) (hk : Q (.inl (some (.int (f_Mod_hand x y Z).1))) (ov h (gO (moL g A) ((f_Mod_hand x y Z).2)))) : PW g M_Mod_hand 4 kc ks Q 0 [.ref (A 100), .int (x), .int (y), .retAddr 0, .retAddr 0] [] (ov h (gO (moL g A) Z)) := by
  have hz0 := hw.blk.2
  have hz1 := hw.lnk.2
  have hz2 := hw.dvs.2
  refine pw_aload_n e_Mod_hand_0 rfl ?_
  refine pw_iconst (v := nI 0) e_Mod_hand_1 (by decide) ?_
  refine pw_putGi (i := 0) (ps := 18) (x := 0) e_Mod_hand_2 fp_Mod_159 hnd (mo_x _ _) rfl (Nat.le_of_ble_eq_true rfl) rfl rfl (fun _ _ => rfl) ?_
  refine pw_aload_n e_Mod_hand_5 rfl ?_
  refine pw_iconst (v := nI 0) e_Mod_hand_6 (by decide) ?_
  refine pw_iload_n e_Mod_hand_7 rfl ?_
  refine pw_detV (As := [.int (nI (0)), .int (x)]) e_Mod_hand_8 li_Mod_419 rfl (gO_get hnd (i := 0) rfl) (q_Mod_byHand hst (mo_at hnd) (wfM.of (Q := u2 Z 100 18 0) hw rfl rfl rfl rfl rfl rfl rfl rfl rfl rfl rfl rfl) 0 x (by omega) ((u2 Z 100 18 0) 0) (gO_get hnd (i := 1) rfl)) rfl (by decide) (Nat.le_of_ble_eq_true rfl) rfl ?_
  refine pw_istore_n (ls2 := [_, _, _, _, _]) e_Mod_hand_11 (by decide) rfl ?_
  refine pw_iload_n e_Mod_hand_12 rfl ?_
  refine pw_iconst (v := (-1)) e_Mod_hand_13 (by decide) ?_
  refine pw_icmp_eq (tgt := 28) e_Mod_hand_14 (by decide) (fun (H1 : (f_Mod_byHand (u2 Z 100 18 0) 0 x ((u2 Z 100 18 0) 0)) = ((-1))) => ?_) (fun (H1 : ¬ (f_Mod_byHand (u2 Z 100 18 0) 0 x ((u2 Z 100 18 0) 0)) = ((-1))) => ?_)
  · refine pw_aload_n e_Mod_hand_28 rfl ?_
    refine pw_iconst (v := nI 1) e_Mod_hand_29 (by decide) ?_
    refine pw_detV (As := [.int (nI (1))]) e_Mod_hand_30 li_Mod_413 rfl (gO_get hnd (i := 0) rfl) (q_Mod_refuses hst hnd 1 (by decide) (u2 Z 100 18 0) (gO_in hnd (fun _ z => z)) (wfM.of (Q := u2 Z 100 18 0) hw rfl rfl rfl rfl rfl rfl rfl rfl rfl rfl rfl rfl)) rfl (by decide) (Nat.le_of_ble_eq_true rfl) rfl ?_
    refine pw_sameG hnd ?_
    refine pw_iret e_Mod_hand_33 rfl rfl ?_
    rw [f_Mod_hand, if_pos H1] at hk
    exact hk
  · refine pw_iload_n e_Mod_hand_17 rfl ?_
    refine pw_iconst (v := nI 0) e_Mod_hand_18 (by decide) ?_
    refine pw_sipush (v := nI 1000) e_Mod_hand_19 (by decide) ?_
    refine pw_detS (As := [.int (y), .int (nI (0)), .int (nI (1000))]) e_Mod_hand_22 li_Mod_312 (q_Mod_within hst y (nI 0) (nI 1000)) rfl (by decide) (Nat.le_of_ble_eq_true rfl) rfl ?_
    refine pw_if_ne (tgt := 34) e_Mod_hand_25 (by decide) (fun (H2 : ¬ (f_Mod_within y (nI 0) (nI 1000)) = 0) => ?_) (fun (H2 : (f_Mod_within y (nI 0) (nI 1000)) = 0) => ?_)
    · refine pw_eqls (ls' := [.ref (A 100), .int (nI (x.toNatClampNeg)), .int (y), .int (f_Mod_byHand (u2 Z 100 18 0) 0 x ((u2 Z 100 18 0) 0)), .retAddr 0]) (by rw [← (show x = nI (x.toNatClampNeg) from (bh_of (wfM.of (Q := u2 Z 100 18 0) hw rfl rfl rfl rfl rfl rfl rfl rfl rfl rfl rfl rfl) H1).1.1)]) ?_
      refine pw_eqls (ls' := [.ref (A 100), .int (nI (x.toNatClampNeg)), .int (y), .int (nI ((f_Mod_byHand (u2 Z 100 18 0) 0 x ((u2 Z 100 18 0) 0)).toNatClampNeg)), .retAddr 0]) (by rw [← (show f_Mod_byHand (u2 Z 100 18 0) 0 x ((u2 Z 100 18 0) 0) = nI ((f_Mod_byHand (u2 Z 100 18 0) 0 x ((u2 Z 100 18 0) 0)).toNatClampNeg) from (bh_of (wfM.of (Q := u2 Z 100 18 0) hw rfl rfl rfl rfl rfl rfl rfl rfl rfl rfl rfl rfl) H1).2.1)]) ?_
      refine w_Mod_hand_34 hst hnd x y (u2 Z 100 18 0) x.toNatClampNeg ((f_Mod_byHand (u2 Z 100 18 0) 0 x ((u2 Z 100 18 0) 0)).toNatClampNeg) (wfM.of (Q := u2 Z 100 18 0) hw rfl rfl rfl rfl rfl rfl rfl rfl rfl rfl rfl rfl) (bh_of (wfM.of (Q := u2 Z 100 18 0) hw rfl rfl rfl rfl rfl rfl rfl rfl rfl rfl rfl rfl) H1).1.2 (bh_of (wfM.of (Q := u2 Z 100 18 0) hw rfl rfl rfl rfl rfl rfl rfl rfl rfl rfl rfl rfl) H1).2.2 (hA.of rfl rfl) ?_
      rw [f_Mod_hand, if_neg H1, if_neg H2] at hk
      exact hk
    · refine pw_aload_n e_Mod_hand_28 rfl ?_
      refine pw_iconst (v := nI 1) e_Mod_hand_29 (by decide) ?_
      refine pw_detV (As := [.int (nI (1))]) e_Mod_hand_30 li_Mod_413 rfl (gO_get hnd (i := 0) rfl) (q_Mod_refuses hst hnd 1 (by decide) (u2 Z 100 18 0) (gO_in hnd (fun _ z => z)) (wfM.of (Q := u2 Z 100 18 0) hw rfl rfl rfl rfl rfl rfl rfl rfl rfl rfl rfl rfl)) rfl (by decide) (Nat.le_of_ble_eq_true rfl) rfl ?_
      refine pw_sameG hnd ?_
      refine pw_iret e_Mod_hand_33 rfl rfl ?_
      rw [f_Mod_hand, if_neg H1, if_pos H2] at hk
      exact hk
theorem q_Mod_hand {g : GG} {h : Hp} (hst : (gl g).stackTraces = false) {A : Nat → Nat} (hnd : (gK (moL g A)).Nodup) (x : Int32) (y : Int32)  (Z : Nat → Nat → Int32) (hm : ∀ q ∈ gO (moL g A) Z, h q.1 = some q.2) (hw : wfM Z) (hA : AcI Z) : PM g M_Mod_hand 4 0 0 [.ref (A 100), .int (x), .int (y)] h (RetV (some (.int (f_Mod_hand x y Z).1)) (ov h (gO (moL g A) ((f_Mod_hand x y Z).2)))) := by
  refine PM.of hst (by decide) rfl (fun v hv => ?_) (Nat.le_of_ble_eq_true rfl) ?_
  · simp only [List.mem_cons, List.not_mem_nil, or_false] at hv; rcases hv with rfl | rfl | rfl <;> rfl
  · have hq := w_Mod_hand_0 (g := g) (Q := RetV (some (.int (f_Mod_hand x y Z).1)) (ov h (gO (moL g A) ((f_Mod_hand x y Z).2)))) (h := h) (kc := 0) (ks := 0) hst hnd x y Z hw hA ?_
    · rw [ov_self hm] at hq; exact hq
    · exact ⟨rfl, rfl⟩

def f_Mod_power_19 (x : Int32) (y : Int32) (Z : Nat → Nat → Int32) (d : Nat) : Int32 × (Nat → Nat → Int32) :=
  if (f_Mod_isOn Z 0 d (Z 0)) = y then ((f_Mod_refuses 1 Z).1, (f_Mod_refuses 1 Z).2) else (((va_up (f_Mod_keeps Z) 0 (f_Mod_powers (f_Mod_keeps Z) 0 (nI (d)) y ((f_Mod_keeps Z) 0))) 0) 205, va_up (f_Mod_keeps Z) 0 (f_Mod_powers (f_Mod_keeps Z) 0 (nI (d)) y ((f_Mod_keeps Z) 0)))
set_option maxRecDepth 4000 in
theorem w_Mod_power_19 {g : GG} {Q : QT} {h : Hp} {kc ks : Nat} (hst : (gl g).stackTraces = false) {A : Nat → Nat} (hnd : (gK (moL g A)).Nodup) (x : Int32) (y : Int32)  (Z : Nat → Nat → Int32) (d : Nat) (hw : wfM Z) (hd : d < 6) (hA : AcI Z) (hk : Q (.inl (some (.int (f_Mod_power_19 x y Z d).1))) (ov h (gO (moL g A) ((f_Mod_power_19 x y Z d).2)))) : PW g M_Mod_power 4 kc ks Q 19 [.ref (A 100), .int (nI (d)), .int (y)] [] (ov h (gO (moL g A) Z)) := by
  have hz0 := hw.blk.2
  have hz1 := hw.lnk.2
  have hz2 := hw.dvs.2
  refine pw_aload_n e_Mod_power_19 rfl ?_
  refine pw_iconst (v := nI 0) e_Mod_power_20 (by decide) ?_
  refine pw_iload_n e_Mod_power_21 rfl ?_
  refine pw_detV (As := [.int (nI (0)), .int (nI (d))]) e_Mod_power_22 li_Mod_205 rfl (gO_get hnd (i := 0) rfl) (q_Mod_isOn hst (mo_at hnd) hw 0 d (by omega) (Z 0) (gO_get hnd (i := 1) rfl)) rfl (by decide) (Nat.le_of_ble_eq_true rfl) rfl ?_
  refine pw_iload_n e_Mod_power_25 rfl ?_
  refine pw_icmp_ne (tgt := 35) e_Mod_power_26 (by decide) (fun (H1 : ¬ (f_Mod_isOn Z 0 d (Z 0)) = y) => ?_) (fun (H1 : (f_Mod_isOn Z 0 d (Z 0)) = y) => ?_)
  · refine pw_aload_n e_Mod_power_35 rfl ?_
    refine pw_detV (As := []) e_Mod_power_36 li_Mod_416 rfl (gO_get hnd (i := 0) rfl) (q_Mod_keeps hst hnd Z (gO_in hnd (fun _ z => z)) hw hA) rfl (by decide) (Nat.le_of_ble_eq_true rfl) rfl ?_
    refine pw_sameG hnd ?_
    refine pw_aload_n e_Mod_power_39 rfl ?_
    refine pw_iconst (v := nI 0) e_Mod_power_40 (by decide) ?_
    refine pw_iload_n e_Mod_power_41 rfl ?_
    refine pw_iload_n e_Mod_power_42 rfl ?_
    refine pw_detV (As := [.int (nI (0)), .int (nI (d)), .int (y)]) e_Mod_power_43 li_Mod_422 rfl (gO_get hnd (i := 0) rfl) (q_Mod_powers hst (mo_at hnd) (z_keeps hw) 0 (nI (d)) y (by omega) ((f_Mod_keeps Z) 0) (gO_get hnd (i := 1) rfl)) rfl (by decide) (Nat.le_of_ble_eq_true rfl) rfl ?_
    refine pw_upG (i := 1) hnd (mo_x _ _) rfl rfl ?_
    refine pw_aload_n e_Mod_power_46 rfl ?_
    refine pw_getf e_Mod_power_47 fl_Mod_9 (gO_get hnd (i := 0) rfl) rfl ?_
    refine pw_sipush (v := nI 205) e_Mod_power_50 (by decide) ?_
    refine pw_ialdN e_Mod_power_53 (gO_get hnd (i := 1) rfl) (by omega) (by decide) ?_
    refine pw_iret e_Mod_power_54 rfl rfl ?_
    rw [f_Mod_power_19, if_neg H1] at hk
    exact hk
  · refine pw_aload_n e_Mod_power_29 rfl ?_
    refine pw_iconst (v := nI 1) e_Mod_power_30 (by decide) ?_
    refine pw_detV (As := [.int (nI (1))]) e_Mod_power_31 li_Mod_413 rfl (gO_get hnd (i := 0) rfl) (q_Mod_refuses hst hnd 1 (by decide) Z (gO_in hnd (fun _ z => z)) hw) rfl (by decide) (Nat.le_of_ble_eq_true rfl) rfl ?_
    refine pw_sameG hnd ?_
    refine pw_iret e_Mod_power_34 rfl rfl ?_
    rw [f_Mod_power_19, if_pos H1] at hk
    exact hk
def f_Mod_power (x : Int32) (y : Int32) (Z : Nat → Nat → Int32) : Int32 × (Nat → Nat → Int32) :=
  if (f_Mod_within x (nI 0) ((nI (pN Z 100 19)) - 1)) = 0 then ((f_Mod_refuses 1 (u2 Z 100 18 0)).1, (f_Mod_refuses 1 (u2 Z 100 18 0)).2) else f_Mod_power_19 x y (u2 Z 100 18 0) x.toNatClampNeg
set_option maxRecDepth 4000 in
theorem w_Mod_power_0 {g : GG} {Q : QT} {h : Hp} {kc ks : Nat} (hst : (gl g).stackTraces = false) {A : Nat → Nat} (hnd : (gK (moL g A)).Nodup) (x : Int32) (y : Int32)  (Z : Nat → Nat → Int32) (hw : wfM Z) (hA : AcI Z) (hk : Q (.inl (some (.int (f_Mod_power x y Z).1))) (ov h (gO (moL g A) ((f_Mod_power x y Z).2)))) : PW g M_Mod_power 4 kc ks Q 0 [.ref (A 100), .int (x), .int (y)] [] (ov h (gO (moL g A) Z)) := by
  have hz0 := hw.blk.2
  have hz1 := hw.lnk.2
  have hz2 := hw.dvs.2
  refine pw_aload_n e_Mod_power_0 rfl ?_
  refine pw_iconst (v := nI 0) e_Mod_power_1 (by decide) ?_
  refine pw_putGi (i := 0) (ps := 18) (x := 0) e_Mod_power_2 fp_Mod_159 hnd (mo_x _ _) rfl (Nat.le_of_ble_eq_true rfl) rfl rfl (fun _ _ => rfl) ?_
  refine pw_iload_n e_Mod_power_5 rfl ?_
  refine pw_iconst (v := nI 0) e_Mod_power_6 (by decide) ?_
  refine pw_aload_n e_Mod_power_7 rfl ?_
  refine pw_getf e_Mod_power_8 fl_Mod_64 (gO_get hnd (i := 0) rfl) rfl ?_
  rw [show (u2 Z 100 18 0) 100 19 = nI (pN Z 100 19) from hw.dvs.1]
  refine pw_iconst (v := nI 1) e_Mod_power_11 (by decide) ?_
  refine pw_isub e_Mod_power_12 ?_
  refine pw_detS (As := [.int (x), .int (nI (0)), .int ((nI (pN Z 100 19)) - 1)]) e_Mod_power_13 li_Mod_312 (q_Mod_within hst x (nI 0) ((nI (pN Z 100 19)) - 1)) rfl (by decide) (Nat.le_of_ble_eq_true rfl) rfl ?_
  refine pw_if_eq (tgt := 29) e_Mod_power_16 (by decide) (fun (H1 : (f_Mod_within x (nI 0) ((nI (pN Z 100 19)) - 1)) = 0) => ?_) (fun (H1 : ¬ (f_Mod_within x (nI 0) ((nI (pN Z 100 19)) - 1)) = 0) => ?_)
  · refine pw_aload_n e_Mod_power_29 rfl ?_
    refine pw_iconst (v := nI 1) e_Mod_power_30 (by decide) ?_
    refine pw_detV (As := [.int (nI (1))]) e_Mod_power_31 li_Mod_413 rfl (gO_get hnd (i := 0) rfl) (q_Mod_refuses hst hnd 1 (by decide) (u2 Z 100 18 0) (gO_in hnd (fun _ z => z)) (wfM.of (Q := u2 Z 100 18 0) hw rfl rfl rfl rfl rfl rfl rfl rfl rfl rfl rfl rfl)) rfl (by decide) (Nat.le_of_ble_eq_true rfl) rfl ?_
    refine pw_sameG hnd ?_
    refine pw_iret e_Mod_power_34 rfl rfl ?_
    rw [f_Mod_power, if_pos H1] at hk
    exact hk
  · refine pw_eqls (ls' := [.ref (A 100), .int (nI (x.toNatClampNeg)), .int (y)]) (by rw [← (show x = nI (x.toNatClampNeg) from (wi_of (by omega) H1).1)]) ?_
    refine w_Mod_power_19 hst hnd x y (u2 Z 100 18 0) x.toNatClampNeg (wfM.of (Q := u2 Z 100 18 0) hw rfl rfl rfl rfl rfl rfl rfl rfl rfl rfl rfl rfl) (by have := (wi_of (by omega) H1).2; omega) (hA.of rfl rfl) ?_
    rw [f_Mod_power, if_neg H1] at hk
    exact hk
theorem q_Mod_power {g : GG} {h : Hp} (hst : (gl g).stackTraces = false) {A : Nat → Nat} (hnd : (gK (moL g A)).Nodup) (x : Int32) (y : Int32)  (Z : Nat → Nat → Int32) (hm : ∀ q ∈ gO (moL g A) Z, h q.1 = some q.2) (hw : wfM Z) (hA : AcI Z) : PM g M_Mod_power 4 0 0 [.ref (A 100), .int (x), .int (y)] h (RetV (some (.int (f_Mod_power x y Z).1)) (ov h (gO (moL g A) ((f_Mod_power x y Z).2)))) := by
  refine PM.of hst (by decide) rfl (fun v hv => ?_) (Nat.le_of_ble_eq_true rfl) ?_
  · simp only [List.mem_cons, List.not_mem_nil, or_false] at hv; rcases hv with rfl | rfl | rfl <;> rfl
  · have hq := w_Mod_power_0 (g := g) (Q := RetV (some (.int (f_Mod_power x y Z).1)) (ov h (gO (moL g A) ((f_Mod_power x y Z).2)))) (h := h) (kc := 0) (ks := 0) hst hnd x y Z hw hA ?_
    · rw [ov_self hm] at hq; exact hq
    · exact ⟨rfl, rfl⟩

def f_Mod_broken_44 (x : Int32) (y : Int32) (Z : Nat → Nat → Int32) : Int32 × (Nat → Nat → Int32) :=
  (((u2 (f_Mod_keeps Z) 0 204 ((((f_Mod_keeps Z) 0) 204) ^^^ ((1 : Int32) <<< (x &&& 31)))) 0) 204, u2 (f_Mod_keeps Z) 0 204 ((((f_Mod_keeps Z) 0) 204) ^^^ ((1 : Int32) <<< (x &&& 31))))
set_option maxRecDepth 4000 in
theorem w_Mod_broken_44 {g : GG} {Q : QT} {h : Hp} {kc ks : Nat} (hst : (gl g).stackTraces = false) {A : Nat → Nat} (hnd : (gK (moL g A)).Nodup) (x : Int32) (y : Int32)  (Z : Nat → Nat → Int32) (hw : wfM Z) (hA : AcI Z) (hk : Q (.inl (some (.int (f_Mod_broken_44 x y Z).1))) (ov h (gO (moL g A) ((f_Mod_broken_44 x y Z).2)))) : PW g M_Mod_broken 4 kc ks Q 44 [.ref (A 100), .int (x), .int (y)] [] (ov h (gO (moL g A) Z)) := by
  have hz0 := hw.blk.2
  have hz1 := hw.lnk.2
  have hz2 := hw.dvs.2
  refine pw_aload_n e_Mod_broken_44 rfl ?_
  refine pw_detV (As := []) e_Mod_broken_45 li_Mod_416 rfl (gO_get hnd (i := 0) rfl) (q_Mod_keeps hst hnd Z (gO_in hnd (fun _ z => z)) hw hA) rfl (by decide) (Nat.le_of_ble_eq_true rfl) rfl ?_
  refine pw_sameG hnd ?_
  refine pw_aload_n e_Mod_broken_48 rfl ?_
  refine pw_getf e_Mod_broken_49 fl_Mod_9 (gO_get hnd (i := 0) rfl) rfl ?_
  refine pw_sipush (v := nI 204) e_Mod_broken_52 (by decide) ?_
  refine pw_dup2 e_Mod_broken_55 rfl rfl ?_
  refine pw_ialdN e_Mod_broken_56 (gO_get hnd (i := 1) rfl) (by omega) (by decide) ?_
  refine pw_iconst (v := nI 1) e_Mod_broken_57 (by decide) ?_
  refine pw_iload_n e_Mod_broken_58 rfl ?_
  refine pw_ishl e_Mod_broken_59 ?_
  refine pw_ixor e_Mod_broken_60 ?_
  refine pw_iastG (i := 1) e_Mod_broken_61 hnd (mo_x _ _) rfl (by omega) (by decide) ?_
  refine pw_aload_n e_Mod_broken_62 rfl ?_
  refine pw_getf e_Mod_broken_63 fl_Mod_9 (gO_get hnd (i := 0) rfl) rfl ?_
  refine pw_sipush (v := nI 204) e_Mod_broken_66 (by decide) ?_
  refine pw_ialdN e_Mod_broken_69 (gO_get hnd (i := 1) rfl) (by omega) (by decide) ?_
  refine pw_iret e_Mod_broken_70 rfl rfl ?_
  rw [f_Mod_broken_44] at hk
  exact hk
def f_Mod_broken (x : Int32) (y : Int32) (Z : Nat → Nat → Int32) : Int32 × (Nat → Nat → Int32) :=
  if (f_Mod_within x (nI 0) (nI 3)) = 0 then ((f_Mod_refuses 1 (u2 Z 100 18 0)).1, (f_Mod_refuses 1 (u2 Z 100 18 0)).2) else if y = 0 then if (((((u2 Z 100 18 0) 0) 204) >>> (x &&& 31)) &&& 1) = 0 then ((f_Mod_refuses 1 (u2 Z 100 18 0)).1, (f_Mod_refuses 1 (u2 Z 100 18 0)).2) else f_Mod_broken_44 x y (u2 Z 100 18 0) else if (((((u2 Z 100 18 0) 0) 204) >>> (x &&& 31)) &&& 1) = 1 then ((f_Mod_refuses 1 (u2 Z 100 18 0)).1, (f_Mod_refuses 1 (u2 Z 100 18 0)).2) else f_Mod_broken_44 x y (u2 Z 100 18 0)
set_option maxRecDepth 4000 in
theorem w_Mod_broken_0 {g : GG} {Q : QT} {h : Hp} {kc ks : Nat} (hst : (gl g).stackTraces = false) {A : Nat → Nat} (hnd : (gK (moL g A)).Nodup) (x : Int32) (y : Int32)  (Z : Nat → Nat → Int32) (hw : wfM Z) (hA : AcI Z) (hk : Q (.inl (some (.int (f_Mod_broken x y Z).1))) (ov h (gO (moL g A) ((f_Mod_broken x y Z).2)))) : PW g M_Mod_broken 4 kc ks Q 0 [.ref (A 100), .int (x), .int (y)] [] (ov h (gO (moL g A) Z)) := by
  have hz0 := hw.blk.2
  have hz1 := hw.lnk.2
  have hz2 := hw.dvs.2
  refine pw_aload_n e_Mod_broken_0 rfl ?_
  refine pw_iconst (v := nI 0) e_Mod_broken_1 (by decide) ?_
  refine pw_putGi (i := 0) (ps := 18) (x := 0) e_Mod_broken_2 fp_Mod_159 hnd (mo_x _ _) rfl (Nat.le_of_ble_eq_true rfl) rfl rfl (fun _ _ => rfl) ?_
  refine pw_iload_n e_Mod_broken_5 rfl ?_
  refine pw_iconst (v := nI 0) e_Mod_broken_6 (by decide) ?_
  refine pw_iconst (v := nI 3) e_Mod_broken_7 (by decide) ?_
  refine pw_detS (As := [.int (x), .int (nI (0)), .int (nI (3))]) e_Mod_broken_8 li_Mod_312 (q_Mod_within hst x (nI 0) (nI 3)) rfl (by decide) (Nat.le_of_ble_eq_true rfl) rfl ?_
  refine pw_if_eq (tgt := 38) e_Mod_broken_11 (by decide) (fun (H1 : (f_Mod_within x (nI 0) (nI 3)) = 0) => ?_) (fun (H1 : ¬ (f_Mod_within x (nI 0) (nI 3)) = 0) => ?_)
  · refine pw_aload_n e_Mod_broken_38 rfl ?_
    refine pw_iconst (v := nI 1) e_Mod_broken_39 (by decide) ?_
    refine pw_detV (As := [.int (nI (1))]) e_Mod_broken_40 li_Mod_413 rfl (gO_get hnd (i := 0) rfl) (q_Mod_refuses hst hnd 1 (by decide) (u2 Z 100 18 0) (gO_in hnd (fun _ z => z)) (wfM.of (Q := u2 Z 100 18 0) hw rfl rfl rfl rfl rfl rfl rfl rfl rfl rfl rfl rfl)) rfl (by decide) (Nat.le_of_ble_eq_true rfl) rfl ?_
    refine pw_sameG hnd ?_
    refine pw_iret e_Mod_broken_43 rfl rfl ?_
    rw [f_Mod_broken, if_pos H1] at hk
    exact hk
  · refine pw_aload_n e_Mod_broken_14 rfl ?_
    refine pw_getf e_Mod_broken_15 fl_Mod_9 (gO_get hnd (i := 0) rfl) rfl ?_
    refine pw_sipush (v := nI 204) e_Mod_broken_18 (by decide) ?_
    refine pw_ialdN e_Mod_broken_21 (gO_get hnd (i := 1) rfl) (by omega) (by decide) ?_
    refine pw_iload_n e_Mod_broken_22 rfl ?_
    refine pw_ishr e_Mod_broken_23 ?_
    refine pw_iconst (v := nI 1) e_Mod_broken_24 (by decide) ?_
    refine pw_iand e_Mod_broken_25 ?_
    refine pw_iload_n e_Mod_broken_26 rfl ?_
    refine pw_if_eq (tgt := 34) e_Mod_broken_27 (by decide) (fun (H2 : y = 0) => ?_) (fun (H2 : ¬ y = 0) => ?_)
    · refine pw_iconst (v := nI 0) e_Mod_broken_34 (by decide) ?_
      refine pw_icmp_ne (tgt := 44) e_Mod_broken_35 (by decide) (fun (H3 : ¬ (((((u2 Z 100 18 0) 0) 204) >>> (x &&& 31)) &&& 1) = 0) => ?_) (fun (H3 : (((((u2 Z 100 18 0) 0) 204) >>> (x &&& 31)) &&& 1) = 0) => ?_)
      · refine w_Mod_broken_44 hst hnd x y (u2 Z 100 18 0) (wfM.of (Q := u2 Z 100 18 0) hw rfl rfl rfl rfl rfl rfl rfl rfl rfl rfl rfl rfl) (hA.of rfl rfl) ?_
        rw [f_Mod_broken, if_neg H1, if_pos H2, if_neg H3] at hk
        exact hk
      · refine pw_aload_n e_Mod_broken_38 rfl ?_
        refine pw_iconst (v := nI 1) e_Mod_broken_39 (by decide) ?_
        refine pw_detV (As := [.int (nI (1))]) e_Mod_broken_40 li_Mod_413 rfl (gO_get hnd (i := 0) rfl) (q_Mod_refuses hst hnd 1 (by decide) (u2 Z 100 18 0) (gO_in hnd (fun _ z => z)) (wfM.of (Q := u2 Z 100 18 0) hw rfl rfl rfl rfl rfl rfl rfl rfl rfl rfl rfl rfl)) rfl (by decide) (Nat.le_of_ble_eq_true rfl) rfl ?_
        refine pw_sameG hnd ?_
        refine pw_iret e_Mod_broken_43 rfl rfl ?_
        rw [f_Mod_broken, if_neg H1, if_pos H2, if_pos H3] at hk
        exact hk
    · refine pw_iconst (v := nI 1) e_Mod_broken_30 (by decide) ?_
      refine pw_goto (tgt := 35) e_Mod_broken_31 (by decide) ?_
      refine pw_icmp_ne (tgt := 44) e_Mod_broken_35 (by decide) (fun (H4 : ¬ (((((u2 Z 100 18 0) 0) 204) >>> (x &&& 31)) &&& 1) = 1) => ?_) (fun (H4 : (((((u2 Z 100 18 0) 0) 204) >>> (x &&& 31)) &&& 1) = 1) => ?_)
      · refine w_Mod_broken_44 hst hnd x y (u2 Z 100 18 0) (wfM.of (Q := u2 Z 100 18 0) hw rfl rfl rfl rfl rfl rfl rfl rfl rfl rfl rfl rfl) (hA.of rfl rfl) ?_
        rw [f_Mod_broken, if_neg H1, if_neg H2, if_neg H4] at hk
        exact hk
      · refine pw_aload_n e_Mod_broken_38 rfl ?_
        refine pw_iconst (v := nI 1) e_Mod_broken_39 (by decide) ?_
        refine pw_detV (As := [.int (nI (1))]) e_Mod_broken_40 li_Mod_413 rfl (gO_get hnd (i := 0) rfl) (q_Mod_refuses hst hnd 1 (by decide) (u2 Z 100 18 0) (gO_in hnd (fun _ z => z)) (wfM.of (Q := u2 Z 100 18 0) hw rfl rfl rfl rfl rfl rfl rfl rfl rfl rfl rfl rfl)) rfl (by decide) (Nat.le_of_ble_eq_true rfl) rfl ?_
        refine pw_sameG hnd ?_
        refine pw_iret e_Mod_broken_43 rfl rfl ?_
        rw [f_Mod_broken, if_neg H1, if_neg H2, if_pos H4] at hk
        exact hk
theorem q_Mod_broken {g : GG} {h : Hp} (hst : (gl g).stackTraces = false) {A : Nat → Nat} (hnd : (gK (moL g A)).Nodup) (x : Int32) (y : Int32)  (Z : Nat → Nat → Int32) (hm : ∀ q ∈ gO (moL g A) Z, h q.1 = some q.2) (hw : wfM Z) (hA : AcI Z) : PM g M_Mod_broken 4 0 0 [.ref (A 100), .int (x), .int (y)] h (RetV (some (.int (f_Mod_broken x y Z).1)) (ov h (gO (moL g A) ((f_Mod_broken x y Z).2)))) := by
  refine PM.of hst (by decide) rfl (fun v hv => ?_) (Nat.le_of_ble_eq_true rfl) ?_
  · simp only [List.mem_cons, List.not_mem_nil, or_false] at hv; rcases hv with rfl | rfl | rfl <;> rfl
  · have hq := w_Mod_broken_0 (g := g) (Q := RetV (some (.int (f_Mod_broken x y Z).1)) (ov h (gO (moL g A) ((f_Mod_broken x y Z).2)))) (h := h) (kc := 0) (ks := 0) hst hnd x y Z hw hA ?_
    · rw [ov_self hm] at hq; exact hq
    · exact ⟨rfl, rfl⟩

def f_Mod_cycles_37 (x : Int32) (Z : Nat → Nat → Int32) (n : Nat) : Int32 × (Nat → Nat → Int32) :=
  (((va_up (f_Mod_keeps Z) 0 (f_Mod_goes (f_Mod_keeps Z) 0 n ((f_Mod_keeps Z) 0))) 0) 208, va_up (f_Mod_keeps Z) 0 (f_Mod_goes (f_Mod_keeps Z) 0 n ((f_Mod_keeps Z) 0)))
set_option maxRecDepth 4000 in
theorem w_Mod_cycles_37 {g : GG} {Q : QT} {h : Hp} {kc ks : Nat} (hst : (gl g).stackTraces = false) {A : Nat → Nat} (hnd : (gK (moL g A)).Nodup) (x : Int32)  (Z : Nat → Nat → Int32) (n : Nat) (hw : wfM Z) (hn : n < 31) (hA : AcI Z) (hk : Q (.inl (some (.int (f_Mod_cycles_37 x Z n).1))) (ov h (gO (moL g A) ((f_Mod_cycles_37 x Z n).2)))) : PW g M_Mod_cycles 7 kc ks Q 37 [.ref (A 100), .int (nI (n))] [] (ov h (gO (moL g A) Z)) := by
  have hz0 := hw.blk.2
  have hz1 := hw.lnk.2
  have hz2 := hw.dvs.2
  refine pw_aload_n e_Mod_cycles_37 rfl ?_
  refine pw_detV (As := []) e_Mod_cycles_38 li_Mod_416 rfl (gO_get hnd (i := 0) rfl) (q_Mod_keeps hst hnd Z (gO_in hnd (fun _ z => z)) hw hA) rfl (by decide) (Nat.le_of_ble_eq_true rfl) rfl ?_
  refine pw_sameG hnd ?_
  refine pw_aload_n e_Mod_cycles_41 rfl ?_
  refine pw_iconst (v := nI 0) e_Mod_cycles_42 (by decide) ?_
  refine pw_iload_n e_Mod_cycles_43 rfl ?_
  refine pw_detV (As := [.int (nI (0)), .int (nI (n))]) e_Mod_cycles_44 li_Mod_426 rfl (gO_get hnd (i := 0) rfl) (q_Mod_goes hst (mo_at hnd) (z_keeps hw) 0 n (by omega) (by omega) ((f_Mod_keeps Z) 0) (gO_get hnd (i := 1) rfl)) rfl (by decide) (Nat.le_of_ble_eq_true rfl) rfl ?_
  refine pw_upG (i := 1) hnd (mo_x _ _) rfl rfl ?_
  refine pw_aload_n e_Mod_cycles_47 rfl ?_
  refine pw_getf e_Mod_cycles_48 fl_Mod_9 (gO_get hnd (i := 0) rfl) rfl ?_
  refine pw_sipush (v := nI 208) e_Mod_cycles_51 (by decide) ?_
  refine pw_ialdN e_Mod_cycles_54 (gO_get hnd (i := 1) rfl) (by omega) (by decide) ?_
  refine pw_iret e_Mod_cycles_55 rfl rfl ?_
  rw [f_Mod_cycles_37] at hk
  exact hk
def f_Mod_cycles (x : Int32) (Z : Nat → Nat → Int32) : Int32 × (Nat → Nat → Int32) :=
  if (f_Mod_within x (nI 1) (nI 30)) = 0 then ((f_Mod_refuses 1 (u2 Z 100 18 0)).1, (f_Mod_refuses 1 (u2 Z 100 18 0)).2) else if ((((u2 Z 100 18 0) 0) 208) + x) ≤ 2000 then f_Mod_cycles_37 x (u2 Z 100 18 0) x.toNatClampNeg else ((f_Mod_refuses 1 (u2 Z 100 18 0)).1, (f_Mod_refuses 1 (u2 Z 100 18 0)).2)
set_option maxRecDepth 4000 in
theorem w_Mod_cycles_0 {g : GG} {Q : QT} {h : Hp} {kc ks : Nat} (hst : (gl g).stackTraces = false) {A : Nat → Nat} (hnd : (gK (moL g A)).Nodup) (x : Int32)  (Z : Nat → Nat → Int32) (hw : wfM Z) (hA : AcI Z) (hk : Q (.inl (some (.int (f_Mod_cycles x Z).1))) (ov h (gO (moL g A) ((f_Mod_cycles x Z).2)))) : PW g M_Mod_cycles 7 kc ks Q 0 [.ref (A 100), .int (x)] [] (ov h (gO (moL g A) Z)) := by
  have hz0 := hw.blk.2
  have hz1 := hw.lnk.2
  have hz2 := hw.dvs.2
  refine pw_aload_n e_Mod_cycles_0 rfl ?_
  refine pw_iconst (v := nI 0) e_Mod_cycles_1 (by decide) ?_
  refine pw_putGi (i := 0) (ps := 18) (x := 0) e_Mod_cycles_2 fp_Mod_159 hnd (mo_x _ _) rfl (Nat.le_of_ble_eq_true rfl) rfl rfl (fun _ _ => rfl) ?_
  refine pw_iload_n e_Mod_cycles_5 rfl ?_
  refine pw_iconst (v := nI 1) e_Mod_cycles_6 (by decide) ?_
  refine pw_bipush (v := nI 30) e_Mod_cycles_7 (by decide) ?_
  refine pw_detS (As := [.int (x), .int (nI (1)), .int (nI (30))]) e_Mod_cycles_9 li_Mod_312 (q_Mod_within hst x (nI 1) (nI 30)) rfl (by decide) (Nat.le_of_ble_eq_true rfl) rfl ?_
  refine pw_if_eq (tgt := 31) e_Mod_cycles_12 (by decide) (fun (H1 : (f_Mod_within x (nI 1) (nI 30)) = 0) => ?_) (fun (H1 : ¬ (f_Mod_within x (nI 1) (nI 30)) = 0) => ?_)
  · refine pw_aload_n e_Mod_cycles_31 rfl ?_
    refine pw_iconst (v := nI 1) e_Mod_cycles_32 (by decide) ?_
    refine pw_detV (As := [.int (nI (1))]) e_Mod_cycles_33 li_Mod_413 rfl (gO_get hnd (i := 0) rfl) (q_Mod_refuses hst hnd 1 (by decide) (u2 Z 100 18 0) (gO_in hnd (fun _ z => z)) (wfM.of (Q := u2 Z 100 18 0) hw rfl rfl rfl rfl rfl rfl rfl rfl rfl rfl rfl rfl)) rfl (by decide) (Nat.le_of_ble_eq_true rfl) rfl ?_
    refine pw_sameG hnd ?_
    refine pw_iret e_Mod_cycles_36 rfl rfl ?_
    rw [f_Mod_cycles, if_pos H1] at hk
    exact hk
  · refine pw_aload_n e_Mod_cycles_15 rfl ?_
    refine pw_getf e_Mod_cycles_16 fl_Mod_9 (gO_get hnd (i := 0) rfl) rfl ?_
    refine pw_sipush (v := nI 208) e_Mod_cycles_19 (by decide) ?_
    refine pw_ialdN e_Mod_cycles_22 (gO_get hnd (i := 1) rfl) (by omega) (by decide) ?_
    refine pw_iload_n e_Mod_cycles_23 rfl ?_
    refine pw_iadd e_Mod_cycles_24 ?_
    refine pw_sipush (v := nI 2000) e_Mod_cycles_25 (by decide) ?_
    refine pw_icmp_le (tgt := 37) e_Mod_cycles_28 (by decide) (fun (H2 : ((((u2 Z 100 18 0) 0) 208) + x) ≤ 2000) => ?_) (fun (H2 : ¬ ((((u2 Z 100 18 0) 0) 208) + x) ≤ 2000) => ?_)
    · refine pw_eqls (ls' := [.ref (A 100), .int (nI (x.toNatClampNeg))]) (by rw [← (show x = nI (x.toNatClampNeg) from (win_M1 (n := 30) (by decide) H1).1)]) ?_
      refine w_Mod_cycles_37 hst hnd x (u2 Z 100 18 0) x.toNatClampNeg (wfM.of (Q := u2 Z 100 18 0) hw rfl rfl rfl rfl rfl rfl rfl rfl rfl rfl rfl rfl) (win_M1 (n := 30) (by decide) H1).2.2 (hA.of rfl rfl) ?_
      rw [f_Mod_cycles, if_neg H1, if_pos H2] at hk
      exact hk
    · refine pw_aload_n e_Mod_cycles_31 rfl ?_
      refine pw_iconst (v := nI 1) e_Mod_cycles_32 (by decide) ?_
      refine pw_detV (As := [.int (nI (1))]) e_Mod_cycles_33 li_Mod_413 rfl (gO_get hnd (i := 0) rfl) (q_Mod_refuses hst hnd 1 (by decide) (u2 Z 100 18 0) (gO_in hnd (fun _ z => z)) (wfM.of (Q := u2 Z 100 18 0) hw rfl rfl rfl rfl rfl rfl rfl rfl rfl rfl rfl rfl)) rfl (by decide) (Nat.le_of_ble_eq_true rfl) rfl ?_
      refine pw_sameG hnd ?_
      refine pw_iret e_Mod_cycles_36 rfl rfl ?_
      rw [f_Mod_cycles, if_neg H1, if_neg H2] at hk
      exact hk
theorem q_Mod_cycles {g : GG} {h : Hp} (hst : (gl g).stackTraces = false) {A : Nat → Nat} (hnd : (gK (moL g A)).Nodup) (x : Int32)  (Z : Nat → Nat → Int32) (hm : ∀ q ∈ gO (moL g A) Z, h q.1 = some q.2) (hw : wfM Z) (hA : AcI Z) : PM g M_Mod_cycles 7 0 0 [.ref (A 100), .int (x)] h (RetV (some (.int (f_Mod_cycles x Z).1)) (ov h (gO (moL g A) ((f_Mod_cycles x Z).2)))) := by
  refine PM.of hst (by decide) rfl (fun v hv => ?_) (Nat.le_of_ble_eq_true rfl) ?_
  · simp only [List.mem_cons, List.not_mem_nil, or_false] at hv; rcases hv with rfl | rfl <;> rfl
  · have hq := w_Mod_cycles_0 (g := g) (Q := RetV (some (.int (f_Mod_cycles x Z).1)) (ov h (gO (moL g A) ((f_Mod_cycles x Z).2)))) (h := h) (kc := 0) (ks := 0) hst hnd x Z hw hA ?_
    · rw [ov_self hm] at hq; exact hq
    · exact ⟨rfl, rfl⟩

def f_Mod_undo  (Z : Nat → Nat → Int32) : Int32 × (Nat → Nat → Int32) :=
  if (pN Z 100 24) = 0 then ((-1), u2 Z 100 18 0) else (nI ((pN Z 100 24) - 1), va_up (u2 (u2 Z 100 18 0) 100 24 (nI ((pN Z 100 24) - 1))) 0 (f_Mod_copies (u2 (u2 Z 100 18 0) 100 24 (nI ((pN Z 100 24) - 1))) (630 + 210 * (((pN Z 100 25) + ((pN Z 100 24) - 1)) % 40)) 0 210 ((u2 (u2 Z 100 18 0) 100 24 (nI ((pN Z 100 24) - 1))) 0)))
set_option maxRecDepth 4000 in
theorem w_Mod_undo_0 {g : GG} {Q : QT} {h : Hp} {kc ks : Nat} (hst : (gl g).stackTraces = false) {A : Nat → Nat} (hnd : (gK (moL g A)).Nodup)  (Z : Nat → Nat → Int32) (hw : wfM Z) (hA : AcI Z) (hk : Q (.inl (some (.int (f_Mod_undo  Z).1))) (ov h (gO (moL g A) ((f_Mod_undo  Z).2)))) : PW g M_Mod_undo 2 kc ks Q 0 [.ref (A 100)] [] (ov h (gO (moL g A) Z)) := by
  have ha1 := hA.1.2
  have ha2 := hA.2.2
  have hz0 := hw.blk.2
  have hz1 := hw.lnk.2
  have hz2 := hw.dvs.2
  refine pw_aload_n e_Mod_undo_0 rfl ?_
  refine pw_iconst (v := nI 0) e_Mod_undo_1 (by decide) ?_
  refine pw_putGi (i := 0) (ps := 18) (x := 0) e_Mod_undo_2 fp_Mod_159 hnd (mo_x _ _) rfl (Nat.le_of_ble_eq_true rfl) rfl rfl (fun _ _ => rfl) ?_
  refine pw_aload_n e_Mod_undo_5 rfl ?_
  refine pw_getf e_Mod_undo_6 fl_Mod_394 (gO_get hnd (i := 0) rfl) rfl ?_
  refine pw_eqst (congrArg (fun q => Value.int q :: []) (show _ = nI (pN Z 100 24) from (u2_i (by decide) hA.1.1))) ?_
  refine pw_if_neN (tgt := 14) e_Mod_undo_9 (by decide) (by omega) (fun (H1 : ¬ (pN Z 100 24) = 0) => ?_) (fun (H1 : (pN Z 100 24) = 0) => ?_)
  · refine pw_aload_n e_Mod_undo_14 rfl ?_
    refine pw_dup e_Mod_undo_15 rfl ?_
    refine pw_getf e_Mod_undo_16 fl_Mod_394 (gO_get hnd (i := 0) rfl) rfl ?_
    refine pw_eqst (congrArg (fun q => Value.int q :: [.ref (A 100)]) (show _ = nI (pN Z 100 24) from (u2_i (by decide) hA.1.1))) ?_
    refine pw_iconst (v := nI 1) e_Mod_undo_19 (by decide) ?_
    refine pw_isubN (by omega) e_Mod_undo_20 ?_
    refine pw_putGi (i := 0) (ps := 24) (x := nI ((pN Z 100 24) - 1)) e_Mod_undo_21 fp_Mod_394 hnd (mo_x _ _) rfl (Nat.le_of_ble_eq_true rfl) rfl rfl (fun _ _ => rfl) ?_
    refine pw_aload_n e_Mod_undo_24 rfl ?_
    refine pw_aload_n e_Mod_undo_25 rfl ?_
    refine pw_getf e_Mod_undo_26 fl_Mod_391 (gO_get hnd (i := 0) rfl) rfl ?_
    refine pw_eqst (congrArg (fun q => Value.int q :: [.ref (A 100)]) (show _ = nI (pN Z 100 25) from (u2_i (by decide) (u2_i (by decide) hA.2.1)))) ?_
    refine pw_aload_n e_Mod_undo_29 rfl ?_
    refine pw_getf e_Mod_undo_30 fl_Mod_394 (gO_get hnd (i := 0) rfl) rfl ?_
    refine pw_eqst (congrArg (fun q => Value.int q :: [.int (nI (pN Z 100 25)), .ref (A 100)]) (show _ = nI ((pN Z 100 24) - 1) from u2_s)) ?_
    have hb2 := Nat.mod_lt ((pN Z 100 25) + ((pN Z 100 24) - 1)) (show 0 < 40 by decide)
    refine pw_detS (As := [.int (nI (pN Z 100 25)), .int (nI ((pN Z 100 24) - 1))]) e_Mod_undo_33 li_Mod_403 (q_keptAt hst (pN Z 100 25) ((pN Z 100 24) - 1) (by omega) (by omega)) rfl (by decide) (Nat.le_of_ble_eq_true rfl) rfl ?_
    refine pw_iconst (v := nI 0) e_Mod_undo_36 (by decide) ?_
    refine pw_sipush (v := nI 210) e_Mod_undo_37 (by decide) ?_
    refine pw_detV (As := [.int (nI (630 + 210 * (((pN Z 100 25) + ((pN Z 100 24) - 1)) % 40))), .int (nI (0)), .int (nI (210))]) e_Mod_undo_40 li_Mod_406 rfl (gO_get hnd (i := 0) rfl) (q_Mod_copies hst (mo_at hnd) (wfM.of (Q := u2 (u2 Z 100 18 0) 100 24 (nI ((pN Z 100 24) - 1))) (wfM.of (Q := u2 Z 100 18 0) hw rfl rfl rfl rfl rfl rfl rfl rfl rfl rfl rfl rfl) rfl rfl rfl rfl rfl rfl rfl rfl rfl rfl rfl rfl) (630 + 210 * (((pN Z 100 25) + ((pN Z 100 24) - 1)) % 40)) 0 210 (by omega) (by omega) ((u2 (u2 Z 100 18 0) 100 24 (nI ((pN Z 100 24) - 1))) 0) (gO_get hnd (i := 1) rfl)) rfl (by decide) (Nat.le_of_ble_eq_true rfl) rfl ?_
    refine pw_upG (i := 1) hnd (mo_x _ _) rfl rfl ?_
    refine pw_aload_n e_Mod_undo_43 rfl ?_
    refine pw_getf e_Mod_undo_44 fl_Mod_394 (gO_get hnd (i := 0) rfl) rfl ?_
    refine pw_eqst (congrArg (fun q => Value.int q :: []) (show _ = nI ((pN Z 100 24) - 1) from (up_o (by decide) u2_s))) ?_
    refine pw_iret e_Mod_undo_47 rfl rfl ?_
    rw [f_Mod_undo, if_neg H1] at hk
    exact hk
  · refine pw_iconst (v := (-1)) e_Mod_undo_12 (by decide) ?_
    refine pw_iret e_Mod_undo_13 rfl rfl ?_
    rw [f_Mod_undo, if_pos H1] at hk
    exact hk
theorem q_Mod_undo {g : GG} {h : Hp} (hst : (gl g).stackTraces = false) {A : Nat → Nat} (hnd : (gK (moL g A)).Nodup)  (Z : Nat → Nat → Int32) (hm : ∀ q ∈ gO (moL g A) Z, h q.1 = some q.2) (hw : wfM Z) (hA : AcI Z) : PM g M_Mod_undo 2 0 0 [.ref (A 100)] h (RetV (some (.int (f_Mod_undo  Z).1)) (ov h (gO (moL g A) ((f_Mod_undo  Z).2)))) := by
  refine PM.of hst (by decide) rfl (fun v hv => ?_) (Nat.le_of_ble_eq_true rfl) ?_
  · simp only [List.mem_cons, List.not_mem_nil, or_false] at hv; rcases hv with rfl <;> rfl
  · have hq := w_Mod_undo_0 (g := g) (Q := RetV (some (.int (f_Mod_undo  Z).1)) (ov h (gO (moL g A) ((f_Mod_undo  Z).2)))) (h := h) (kc := 0) (ks := 0) hst hnd Z hw hA ?_
    · rw [ov_self hm] at hq; exact hq
    · exact ⟨rfl, rfl⟩

def f_Mod_then_44 (x : Int32) (y : Int32) (z : Int32) (Z : Nat → Nat → Int32) (b : Nat) (n : Nat) : Int32 × (Nat → Nat → Int32) :=
  if z = 0 then (((va_up (va_up Z 0 (f_Mod_tries Z (Z 0))) 0 (f_Mod_goes (va_up Z 0 (f_Mod_tries Z (Z 0))) 210 n ((va_up Z 0 (f_Mod_tries Z (Z 0))) 0))) 0) ((210 + 8 * b) + 3), va_up (va_up Z 0 (f_Mod_tries Z (Z 0))) 0 (f_Mod_goes (va_up Z 0 (f_Mod_tries Z (Z 0))) 210 n ((va_up Z 0 (f_Mod_tries Z (Z 0))) 0))) else if z = 1 then (((va_up (va_up Z 0 (f_Mod_tries Z (Z 0))) 0 (f_Mod_goes (va_up Z 0 (f_Mod_tries Z (Z 0))) 210 n ((va_up Z 0 (f_Mod_tries Z (Z 0))) 0))) 0) ((210 + 8 * b) + 1), va_up (va_up Z 0 (f_Mod_tries Z (Z 0))) 0 (f_Mod_goes (va_up Z 0 (f_Mod_tries Z (Z 0))) 210 n ((va_up Z 0 (f_Mod_tries Z (Z 0))) 0))) else if z = 2 then (((va_up (va_up Z 0 (f_Mod_tries Z (Z 0))) 0 (f_Mod_goes (va_up Z 0 (f_Mod_tries Z (Z 0))) 210 n ((va_up Z 0 (f_Mod_tries Z (Z 0))) 0))) 0) ((210 + 8 * b) + 2), va_up (va_up Z 0 (f_Mod_tries Z (Z 0))) 0 (f_Mod_goes (va_up Z 0 (f_Mod_tries Z (Z 0))) 210 n ((va_up Z 0 (f_Mod_tries Z (Z 0))) 0))) else if z = 3 then (((va_up (va_up Z 0 (f_Mod_tries Z (Z 0))) 0 (f_Mod_goes (va_up Z 0 (f_Mod_tries Z (Z 0))) 210 n ((va_up Z 0 (f_Mod_tries Z (Z 0))) 0))) 0) ((210 + 8 * b) + 5), va_up (va_up Z 0 (f_Mod_tries Z (Z 0))) 0 (f_Mod_goes (va_up Z 0 (f_Mod_tries Z (Z 0))) 210 n ((va_up Z 0 (f_Mod_tries Z (Z 0))) 0))) else if z = 4 then (((va_up (va_up Z 0 (f_Mod_tries Z (Z 0))) 0 (f_Mod_goes (va_up Z 0 (f_Mod_tries Z (Z 0))) 210 n ((va_up Z 0 (f_Mod_tries Z (Z 0))) 0))) 0) ((210 + 8 * b) + 6), va_up (va_up Z 0 (f_Mod_tries Z (Z 0))) 0 (f_Mod_goes (va_up Z 0 (f_Mod_tries Z (Z 0))) 210 n ((va_up Z 0 (f_Mod_tries Z (Z 0))) 0))) else (((va_up (va_up Z 0 (f_Mod_tries Z (Z 0))) 0 (f_Mod_goes (va_up Z 0 (f_Mod_tries Z (Z 0))) 210 n ((va_up Z 0 (f_Mod_tries Z (Z 0))) 0))) 0) ((210 + 8 * b) + 0), va_up (va_up Z 0 (f_Mod_tries Z (Z 0))) 0 (f_Mod_goes (va_up Z 0 (f_Mod_tries Z (Z 0))) 210 n ((va_up Z 0 (f_Mod_tries Z (Z 0))) 0)))
set_option maxRecDepth 4000 in
theorem w_Mod_then_44 {g : GG} {Q : QT} {h : Hp} {kc ks : Nat} (hst : (gl g).stackTraces = false) {A : Nat → Nat} (hnd : (gK (moL g A)).Nodup) (x : Int32) (y : Int32) (z : Int32)  (Z : Nat → Nat → Int32) (b : Nat) (n : Nat) (hw : wfM Z) (hb : b < 10) (hn : n < 61) (hk : Q (.inl (some (.int (f_Mod_then_44 x y z Z b n).1))) (ov h (gO (moL g A) ((f_Mod_then_44 x y z Z b n).2)))) : PW g M_Mod_then 7 kc ks Q 44 [.ref (A 100), .int (nI (b)), .int (nI (n)), .int (z), .retAddr 0] [] (ov h (gO (moL g A) Z)) := by
  have hz0 := hw.blk.2
  have hz1 := hw.lnk.2
  have hz2 := hw.dvs.2
  refine pw_aload_n e_Mod_then_44 rfl ?_
  refine pw_detV (As := []) e_Mod_then_45 li_Mod_429 rfl (gO_get hnd (i := 0) rfl) (q_Mod_tries hst (mo_at hnd) hw  (Z 0) (gO_get hnd (i := 1) rfl)) rfl (by decide) (Nat.le_of_ble_eq_true rfl) rfl ?_
  refine pw_upG (i := 1) hnd (mo_x _ _) rfl rfl ?_
  refine pw_aload_n e_Mod_then_48 rfl ?_
  refine pw_sipush (v := nI 210) e_Mod_then_49 (by decide) ?_
  refine pw_iload_n e_Mod_then_52 rfl ?_
  refine pw_detV (As := [.int (nI (210)), .int (nI (n))]) e_Mod_then_53 li_Mod_426 rfl (gO_get hnd (i := 0) rfl) (q_Mod_goes hst (mo_at hnd) (wfM.of (Q := va_up Z 0 (f_Mod_tries Z (Z 0))) hw rfl rfl rfl rfl rfl rfl rfl rfl rfl rfl rfl rfl) 210 n (by omega) (by omega) ((va_up Z 0 (f_Mod_tries Z (Z 0))) 0) (gO_get hnd (i := 1) rfl)) rfl (by decide) (Nat.le_of_ble_eq_true rfl) rfl ?_
  refine pw_upG (i := 1) hnd (mo_x _ _) rfl rfl ?_
  refine pw_sipush (v := nI 210) e_Mod_then_56 (by decide) ?_
  refine pw_iload_n e_Mod_then_59 rfl ?_
  refine pw_detS (As := [.int (nI (210)), .int (nI (b))]) e_Mod_then_60 li_Mod_193 (q_at hst 210 b) rfl (by decide) (Nat.le_of_ble_eq_true rfl) rfl ?_
  refine pw_istore (ls2 := [_, _, _, _, _]) e_Mod_then_63 (by decide) rfl ?_
  refine pw_aload_n e_Mod_then_65 rfl ?_
  refine pw_getf e_Mod_then_66 fl_Mod_9 (gO_get hnd (i := 0) rfl) rfl ?_
  refine pw_iload e_Mod_then_69 rfl ?_
  refine pw_iload_n e_Mod_then_71 rfl ?_
  refine pw_if_ne (tgt := 79) e_Mod_then_72 (by decide) (fun (H1 : ¬ z = 0) => ?_) (fun (H1 : z = 0) => ?_)
  · refine pw_iload_n e_Mod_then_79 rfl ?_
    refine pw_iconst (v := nI 1) e_Mod_then_80 (by decide) ?_
    refine pw_icmp_ne (tgt := 88) e_Mod_then_81 (by decide) (fun (H2 : ¬ z = 1) => ?_) (fun (H2 : z = 1) => ?_)
    · refine pw_iload_n e_Mod_then_88 rfl ?_
      refine pw_iconst (v := nI 2) e_Mod_then_89 (by decide) ?_
      refine pw_icmp_ne (tgt := 97) e_Mod_then_90 (by decide) (fun (H3 : ¬ z = 2) => ?_) (fun (H3 : z = 2) => ?_)
      · refine pw_iload_n e_Mod_then_97 rfl ?_
        refine pw_iconst (v := nI 3) e_Mod_then_98 (by decide) ?_
        refine pw_icmp_ne (tgt := 106) e_Mod_then_99 (by decide) (fun (H4 : ¬ z = 3) => ?_) (fun (H4 : z = 3) => ?_)
        · refine pw_iload_n e_Mod_then_106 rfl ?_
          refine pw_iconst (v := nI 4) e_Mod_then_107 (by decide) ?_
          refine pw_icmp_ne (tgt := 116) e_Mod_then_108 (by decide) (fun (H5 : ¬ z = 4) => ?_) (fun (H5 : z = 4) => ?_)
          · refine pw_iconst (v := nI 0) e_Mod_then_116 (by decide) ?_
            refine pw_iaddN e_Mod_then_117 ?_
            refine pw_ialdN e_Mod_then_118 (gO_get hnd (i := 1) rfl) (by omega) (by decide) ?_
            refine pw_iret e_Mod_then_119 rfl rfl ?_
            rw [f_Mod_then_44, if_neg H1, if_neg H2, if_neg H3, if_neg H4, if_neg H5] at hk
            exact hk
          · refine pw_bipush (v := nI 6) e_Mod_then_111 (by decide) ?_
            refine pw_goto (tgt := 117) e_Mod_then_113 (by decide) ?_
            refine pw_iaddN e_Mod_then_117 ?_
            refine pw_ialdN e_Mod_then_118 (gO_get hnd (i := 1) rfl) (by omega) (by decide) ?_
            refine pw_iret e_Mod_then_119 rfl rfl ?_
            rw [f_Mod_then_44, if_neg H1, if_neg H2, if_neg H3, if_neg H4, if_pos H5] at hk
            exact hk
        · refine pw_iconst (v := nI 5) e_Mod_then_102 (by decide) ?_
          refine pw_goto (tgt := 117) e_Mod_then_103 (by decide) ?_
          refine pw_iaddN e_Mod_then_117 ?_
          refine pw_ialdN e_Mod_then_118 (gO_get hnd (i := 1) rfl) (by omega) (by decide) ?_
          refine pw_iret e_Mod_then_119 rfl rfl ?_
          rw [f_Mod_then_44, if_neg H1, if_neg H2, if_neg H3, if_pos H4] at hk
          exact hk
      · refine pw_iconst (v := nI 2) e_Mod_then_93 (by decide) ?_
        refine pw_goto (tgt := 117) e_Mod_then_94 (by decide) ?_
        refine pw_iaddN e_Mod_then_117 ?_
        refine pw_ialdN e_Mod_then_118 (gO_get hnd (i := 1) rfl) (by omega) (by decide) ?_
        refine pw_iret e_Mod_then_119 rfl rfl ?_
        rw [f_Mod_then_44, if_neg H1, if_neg H2, if_pos H3] at hk
        exact hk
    · refine pw_iconst (v := nI 1) e_Mod_then_84 (by decide) ?_
      refine pw_goto (tgt := 117) e_Mod_then_85 (by decide) ?_
      refine pw_iaddN e_Mod_then_117 ?_
      refine pw_ialdN e_Mod_then_118 (gO_get hnd (i := 1) rfl) (by omega) (by decide) ?_
      refine pw_iret e_Mod_then_119 rfl rfl ?_
      rw [f_Mod_then_44, if_neg H1, if_pos H2] at hk
      exact hk
  · refine pw_iconst (v := nI 3) e_Mod_then_75 (by decide) ?_
    refine pw_goto (tgt := 117) e_Mod_then_76 (by decide) ?_
    refine pw_iaddN e_Mod_then_117 ?_
    refine pw_ialdN e_Mod_then_118 (gO_get hnd (i := 1) rfl) (by omega) (by decide) ?_
    refine pw_iret e_Mod_then_119 rfl rfl ?_
    rw [f_Mod_then_44, if_pos H1] at hk
    exact hk
def f_Mod_then (x : Int32) (y : Int32) (z : Int32) (Z : Nat → Nat → Int32) : Int32 × (Nat → Nat → Int32) :=
  if ((f_Mod_isBlock x (u2 Z 100 18 0)).1) = 0 then (0, (f_Mod_isBlock x (u2 Z 100 18 0)).2) else if ((f_Mod_right (f_Mod_within z (nI 0) (nI 5)) (nI 1) ((f_Mod_isBlock x (u2 Z 100 18 0)).2)).1) = 0 then (0, (f_Mod_right (f_Mod_within z (nI 0) (nI 5)) (nI 1) ((f_Mod_isBlock x (u2 Z 100 18 0)).2)).2) else if ((f_Mod_right (f_Mod_within y (nI 0) (nI 60)) (nI 2) ((f_Mod_right (f_Mod_within z (nI 0) (nI 5)) (nI 1) ((f_Mod_isBlock x (u2 Z 100 18 0)).2)).2)).1) = 0 then (0, (f_Mod_right (f_Mod_within y (nI 0) (nI 60)) (nI 2) ((f_Mod_right (f_Mod_within z (nI 0) (nI 5)) (nI 1) ((f_Mod_isBlock x (u2 Z 100 18 0)).2)).2)).2) else f_Mod_then_44 x y z ((f_Mod_right (f_Mod_within y (nI 0) (nI 60)) (nI 2) ((f_Mod_right (f_Mod_within z (nI 0) (nI 5)) (nI 1) ((f_Mod_isBlock x (u2 Z 100 18 0)).2)).2)).2) x.toNatClampNeg y.toNatClampNeg
set_option maxRecDepth 4000 in
theorem w_Mod_then_0 {g : GG} {Q : QT} {h : Hp} {kc ks : Nat} (hst : (gl g).stackTraces = false) {A : Nat → Nat} (hnd : (gK (moL g A)).Nodup) (x : Int32) (y : Int32) (z : Int32)  (Z : Nat → Nat → Int32) (hw : wfM Z) (hk : Q (.inl (some (.int (f_Mod_then x y z Z).1))) (ov h (gO (moL g A) ((f_Mod_then x y z Z).2)))) : PW g M_Mod_then 7 kc ks Q 0 [.ref (A 100), .int (x), .int (y), .int (z), .retAddr 0] [] (ov h (gO (moL g A) Z)) := by
  have hz0 := hw.blk.2
  have hz1 := hw.lnk.2
  have hz2 := hw.dvs.2
  refine pw_aload_n e_Mod_then_0 rfl ?_
  refine pw_iconst (v := nI 0) e_Mod_then_1 (by decide) ?_
  refine pw_putGi (i := 0) (ps := 18) (x := 0) e_Mod_then_2 fp_Mod_159 hnd (mo_x _ _) rfl (Nat.le_of_ble_eq_true rfl) rfl rfl (fun _ _ => rfl) ?_
  refine pw_aload_n e_Mod_then_5 rfl ?_
  refine pw_iload_n e_Mod_then_6 rfl ?_
  refine pw_detV (As := [.int (x)]) e_Mod_then_7 li_Mod_397 rfl (gO_get hnd (i := 0) rfl) (q_Mod_isBlock hst hnd x (u2 Z 100 18 0) (gO_in hnd (fun _ z => z)) (wfM.of (Q := u2 Z 100 18 0) hw rfl rfl rfl rfl rfl rfl rfl rfl rfl rfl rfl rfl)) rfl (by decide) (Nat.le_of_ble_eq_true rfl) rfl ?_
  refine pw_sameG hnd ?_
  refine pw_if_eq (tgt := 42) e_Mod_then_10 (by decide) (fun (H1 : ((f_Mod_isBlock x (u2 Z 100 18 0)).1) = 0) => ?_) (fun (H1 : ¬ ((f_Mod_isBlock x (u2 Z 100 18 0)).1) = 0) => ?_)
  · refine pw_iconst (v := nI 0) e_Mod_then_42 (by decide) ?_
    refine pw_iret e_Mod_then_43 rfl rfl ?_
    rw [f_Mod_then, if_pos H1] at hk
    exact hk
  · refine pw_aload_n e_Mod_then_13 rfl ?_
    refine pw_iload_n e_Mod_then_14 rfl ?_
    refine pw_iconst (v := nI 0) e_Mod_then_15 (by decide) ?_
    refine pw_iconst (v := nI 5) e_Mod_then_16 (by decide) ?_
    refine pw_detS (As := [.int (z), .int (nI (0)), .int (nI (5))]) e_Mod_then_17 li_Mod_312 (q_Mod_within hst z (nI 0) (nI 5)) rfl (by decide) (Nat.le_of_ble_eq_true rfl) rfl ?_
    refine pw_iconst (v := nI 1) e_Mod_then_20 (by decide) ?_
    refine pw_detV (As := [.int (f_Mod_within z (nI 0) (nI 5)), .int (nI (1))]) e_Mod_then_21 li_Mod_372 rfl (gO_get hnd (i := 0) rfl) (q_Mod_right hst hnd (f_Mod_within z (nI 0) (nI 5)) (nI 1) ((f_Mod_isBlock x (u2 Z 100 18 0)).2) (gO_in hnd (fun _ z => z))) rfl (by decide) (Nat.le_of_ble_eq_true rfl) rfl ?_
    refine pw_sameG hnd ?_
    refine pw_if_eq (tgt := 42) e_Mod_then_24 (by decide) (fun (H2 : ((f_Mod_right (f_Mod_within z (nI 0) (nI 5)) (nI 1) ((f_Mod_isBlock x (u2 Z 100 18 0)).2)).1) = 0) => ?_) (fun (H2 : ¬ ((f_Mod_right (f_Mod_within z (nI 0) (nI 5)) (nI 1) ((f_Mod_isBlock x (u2 Z 100 18 0)).2)).1) = 0) => ?_)
    · refine pw_iconst (v := nI 0) e_Mod_then_42 (by decide) ?_
      refine pw_iret e_Mod_then_43 rfl rfl ?_
      rw [f_Mod_then, if_neg H1, if_pos H2] at hk
      exact hk
    · refine pw_aload_n e_Mod_then_27 rfl ?_
      refine pw_iload_n e_Mod_then_28 rfl ?_
      refine pw_iconst (v := nI 0) e_Mod_then_29 (by decide) ?_
      refine pw_bipush (v := nI 60) e_Mod_then_30 (by decide) ?_
      refine pw_detS (As := [.int (y), .int (nI (0)), .int (nI (60))]) e_Mod_then_32 li_Mod_312 (q_Mod_within hst y (nI 0) (nI 60)) rfl (by decide) (Nat.le_of_ble_eq_true rfl) rfl ?_
      refine pw_iconst (v := nI 2) e_Mod_then_35 (by decide) ?_
      refine pw_detV (As := [.int (f_Mod_within y (nI 0) (nI 60)), .int (nI (2))]) e_Mod_then_36 li_Mod_372 rfl (gO_get hnd (i := 0) rfl) (q_Mod_right hst hnd (f_Mod_within y (nI 0) (nI 60)) (nI 2) ((f_Mod_right (f_Mod_within z (nI 0) (nI 5)) (nI 1) ((f_Mod_isBlock x (u2 Z 100 18 0)).2)).2) (gO_in hnd (fun _ z => z))) rfl (by decide) (Nat.le_of_ble_eq_true rfl) rfl ?_
      refine pw_sameG hnd ?_
      refine pw_if_ne (tgt := 44) e_Mod_then_39 (by decide) (fun (H3 : ¬ ((f_Mod_right (f_Mod_within y (nI 0) (nI 60)) (nI 2) ((f_Mod_right (f_Mod_within z (nI 0) (nI 5)) (nI 1) ((f_Mod_isBlock x (u2 Z 100 18 0)).2)).2)).1) = 0) => ?_) (fun (H3 : ((f_Mod_right (f_Mod_within y (nI 0) (nI 60)) (nI 2) ((f_Mod_right (f_Mod_within z (nI 0) (nI 5)) (nI 1) ((f_Mod_isBlock x (u2 Z 100 18 0)).2)).2)).1) = 0) => ?_)
      · refine pw_eqls (ls' := [.ref (A 100), .int (nI (x.toNatClampNeg)), .int (y), .int (z), .retAddr 0]) (by rw [← (show x = nI (x.toNatClampNeg) from (ib10 (wfM.of (Q := u2 Z 100 18 0) hw rfl rfl rfl rfl rfl rfl rfl rfl rfl rfl rfl rfl) H1).1)]) ?_
        refine pw_eqls (ls' := [.ref (A 100), .int (nI (x.toNatClampNeg)), .int (nI (y.toNatClampNeg)), .int (z), .retAddr 0]) (by rw [← (show y = nI (y.toNatClampNeg) from (win_M (n := 60) (by decide) (rt_of (by decide) H3).1).1)]) ?_
        refine w_Mod_then_44 hst hnd x y z ((f_Mod_right (f_Mod_within y (nI 0) (nI 60)) (nI 2) ((f_Mod_right (f_Mod_within z (nI 0) (nI 5)) (nI 1) ((f_Mod_isBlock x (u2 Z 100 18 0)).2)).2)).2) x.toNatClampNeg y.toNatClampNeg (z_right (z_right (z_isBlock (wfM.of (Q := u2 Z 100 18 0) hw rfl rfl rfl rfl rfl rfl rfl rfl rfl rfl rfl rfl)))) (ib10 (wfM.of (Q := u2 Z 100 18 0) hw rfl rfl rfl rfl rfl rfl rfl rfl rfl rfl rfl rfl) H1).2 (win_M (n := 60) (by decide) (rt_of (by decide) H3).1).2 ?_
        rw [f_Mod_then, if_neg H1, if_neg H2, if_neg H3] at hk
        exact hk
      · refine pw_iconst (v := nI 0) e_Mod_then_42 (by decide) ?_
        refine pw_iret e_Mod_then_43 rfl rfl ?_
        rw [f_Mod_then, if_neg H1, if_neg H2, if_pos H3] at hk
        exact hk
theorem q_Mod_then {g : GG} {h : Hp} (hst : (gl g).stackTraces = false) {A : Nat → Nat} (hnd : (gK (moL g A)).Nodup) (x : Int32) (y : Int32) (z : Int32)  (Z : Nat → Nat → Int32) (hm : ∀ q ∈ gO (moL g A) Z, h q.1 = some q.2) (hw : wfM Z) : PM g M_Mod_then 7 0 0 [.ref (A 100), .int (x), .int (y), .int (z)] h (RetV (some (.int (f_Mod_then x y z Z).1)) (ov h (gO (moL g A) ((f_Mod_then x y z Z).2)))) := by
  refine PM.of hst (by decide) rfl (fun v hv => ?_) (Nat.le_of_ble_eq_true rfl) ?_
  · simp only [List.mem_cons, List.not_mem_nil, or_false] at hv; rcases hv with rfl | rfl | rfl | rfl <;> rfl
  · have hq := w_Mod_then_0 (g := g) (Q := RetV (some (.int (f_Mod_then x y z Z).1)) (ov h (gO (moL g A) ((f_Mod_then x y z Z).2)))) (h := h) (kc := 0) (ks := 0) hst hnd x y z Z hw ?_
    · rw [ov_self hm] at hq; exact hq
    · exact ⟨rfl, rfl⟩

def f_Mod_first_21 (x : Int32) : Nat → (Nat → Nat → Int32) → (Nat) → (Nat) → Int32 × (Nat → Nat → Int32)
  | 0, Z, _, _ => (0, Z)
  | t + 1, Z, b, n => if 60 < n then ((-1), Z) else if (((va_up Z 0 (f_Mod_cycle Z 210 (Z 0))) 0) ((210 + 8 * b) + 1)) = (((va_up Z 0 (f_Mod_cycle Z 210 (Z 0))) 0) ((0 + 8 * b) + 1)) then f_Mod_first_21 x t (va_up Z 0 (f_Mod_cycle Z 210 (Z 0))) b (n + 1) else (nI (n), va_up Z 0 (f_Mod_cycle Z 210 (Z 0)))
set_option maxRecDepth 4000 in
theorem w_Mod_first_21 {g : GG} {Q : QT} {h : Hp} {kc ks : Nat} (hst : (gl g).stackTraces = false) {A : Nat → Nat} (hnd : (gK (moL g A)).Nodup) (x : Int32)  (t : Nat) : ∀ (Z : Nat → Nat → Int32) (b : Nat) (n : Nat) (hw : wfM Z) (hb : b < 10) (hn9 : 1 ≤ n ∧ n ≤ 61) (hlt : 61 - n < t) (hk : Q (.inl (some (.int (f_Mod_first_21 x t Z b n).1))) (ov h (gO (moL g A) ((f_Mod_first_21 x t Z b n).2)))), PW g M_Mod_first 6 kc ks Q 21 [.ref (A 100), .int (nI (b)), .int (nI (n))] [] (ov h (gO (moL g A) Z)) := by
  induction t with
  | zero => intro Z b n hw hb hn9 hlt _; exact absurd hlt (Nat.not_lt_zero _)
  | succ t ih =>
    intro Z b n hw hb hn9 hlt hk
    have hz0 := hw.blk.2
    have hz1 := hw.lnk.2
    have hz2 := hw.dvs.2
    refine pw_iload_n e_Mod_first_21 rfl ?_
    refine pw_bipush (v := nI 60) e_Mod_first_22 (by decide) ?_
    refine pw_icmp_gtN (tgt := 71) e_Mod_first_24 (by decide) (by omega) (by omega) (fun (H1 : 60 < n) => ?_) (fun (H1 : n ≤ 60) => ?_)
    · refine pw_iconst (v := (-1)) e_Mod_first_71 (by decide) ?_
      refine pw_iret e_Mod_first_72 rfl rfl ?_
      rw [f_Mod_first_21, if_pos H1] at hk
      exact hk
    · refine pw_aload_n e_Mod_first_27 rfl ?_
      refine pw_sipush (v := nI 210) e_Mod_first_28 (by decide) ?_
      refine pw_detV (As := [.int (nI (210))]) e_Mod_first_31 li_Mod_270 rfl (gO_get hnd (i := 0) rfl) (q_Mod_cycle hst (mo_at hnd) hw 210 (by omega) (Z 0) (gO_get hnd (i := 1) rfl)) rfl (by decide) (Nat.le_of_ble_eq_true rfl) rfl ?_
      refine pw_upG (i := 1) hnd (mo_x _ _) rfl rfl ?_
      refine pw_aload_n e_Mod_first_34 rfl ?_
      refine pw_getf e_Mod_first_35 fl_Mod_9 (gO_get hnd (i := 0) rfl) rfl ?_
      refine pw_sipush (v := nI 210) e_Mod_first_38 (by decide) ?_
      refine pw_iload_n e_Mod_first_41 rfl ?_
      refine pw_detS (As := [.int (nI (210)), .int (nI (b))]) e_Mod_first_42 li_Mod_193 (q_at hst 210 b) rfl (by decide) (Nat.le_of_ble_eq_true rfl) rfl ?_
      refine pw_iconst (v := nI 1) e_Mod_first_45 (by decide) ?_
      refine pw_iaddN e_Mod_first_46 ?_
      refine pw_ialdN e_Mod_first_47 (gO_get hnd (i := 1) rfl) (by omega) (by decide) ?_
      refine pw_aload_n e_Mod_first_48 rfl ?_
      refine pw_getf e_Mod_first_49 fl_Mod_9 (gO_get hnd (i := 0) rfl) rfl ?_
      refine pw_iconst (v := nI 0) e_Mod_first_52 (by decide) ?_
      refine pw_iload_n e_Mod_first_53 rfl ?_
      refine pw_detS (As := [.int (nI (0)), .int (nI (b))]) e_Mod_first_54 li_Mod_193 (q_at hst 0 b) rfl (by decide) (Nat.le_of_ble_eq_true rfl) rfl ?_
      refine pw_iconst (v := nI 1) e_Mod_first_57 (by decide) ?_
      refine pw_iaddN e_Mod_first_58 ?_
      refine pw_ialdN e_Mod_first_59 (gO_get hnd (i := 1) rfl) (by omega) (by decide) ?_
      refine pw_icmp_eq (tgt := 65) e_Mod_first_60 (by decide) (fun (H2 : (((va_up Z 0 (f_Mod_cycle Z 210 (Z 0))) 0) ((210 + 8 * b) + 1)) = (((va_up Z 0 (f_Mod_cycle Z 210 (Z 0))) 0) ((0 + 8 * b) + 1))) => ?_) (fun (H2 : ¬ (((va_up Z 0 (f_Mod_cycle Z 210 (Z 0))) 0) ((210 + 8 * b) + 1)) = (((va_up Z 0 (f_Mod_cycle Z 210 (Z 0))) 0) ((0 + 8 * b) + 1))) => ?_)
      · refine pw_iincN (ls2 := [_, _, _]) e_Mod_first_65 rfl (by decide) rfl ?_
        refine pw_goto (tgt := 21) e_Mod_first_68 (by decide) ?_
        refine ih (va_up Z 0 (f_Mod_cycle Z 210 (Z 0))) b (n + 1) (wfM.of (Q := va_up Z 0 (f_Mod_cycle Z 210 (Z 0))) hw rfl rfl rfl rfl rfl rfl rfl rfl rfl rfl rfl rfl) (by omega) (by omega) (by omega) ?_
        rw [f_Mod_first_21, if_neg (Nat.not_lt.mpr H1), if_pos H2] at hk
        exact hk
      · refine pw_iload_n e_Mod_first_63 rfl ?_
        refine pw_iret e_Mod_first_64 rfl rfl ?_
        rw [f_Mod_first_21, if_neg (Nat.not_lt.mpr H1), if_neg H2] at hk
        exact hk
def f_Mod_first_15 (x : Int32) (Z : Nat → Nat → Int32) (b : Nat) : Int32 × (Nat → Nat → Int32) :=
  f_Mod_first_21 x 61 (va_up Z 0 (f_Mod_tries Z (Z 0))) b 1
set_option maxRecDepth 4000 in
theorem w_Mod_first_15 {g : GG} {Q : QT} {h : Hp} {kc ks : Nat} (hst : (gl g).stackTraces = false) {A : Nat → Nat} (hnd : (gK (moL g A)).Nodup) (x : Int32)  (Z : Nat → Nat → Int32) (b : Nat) (hw : wfM Z) (hb : b < 10) (hk : Q (.inl (some (.int (f_Mod_first_15 x Z b).1))) (ov h (gO (moL g A) ((f_Mod_first_15 x Z b).2)))) : PW g M_Mod_first 6 kc ks Q 15 [.ref (A 100), .int (nI (b)), .retAddr 0] [] (ov h (gO (moL g A) Z)) := by
  have hz0 := hw.blk.2
  have hz1 := hw.lnk.2
  have hz2 := hw.dvs.2
  refine pw_aload_n e_Mod_first_15 rfl ?_
  refine pw_detV (As := []) e_Mod_first_16 li_Mod_429 rfl (gO_get hnd (i := 0) rfl) (q_Mod_tries hst (mo_at hnd) hw  (Z 0) (gO_get hnd (i := 1) rfl)) rfl (by decide) (Nat.le_of_ble_eq_true rfl) rfl ?_
  refine pw_upG (i := 1) hnd (mo_x _ _) rfl rfl ?_
  refine pw_iconst (v := nI 1) e_Mod_first_19 (by decide) ?_
  refine pw_istore_n (ls2 := [_, _, _]) e_Mod_first_20 (by decide) rfl ?_
  refine w_Mod_first_21 hst hnd x 61 (va_up Z 0 (f_Mod_tries Z (Z 0))) b 1 (wfM.of (Q := va_up Z 0 (f_Mod_tries Z (Z 0))) hw rfl rfl rfl rfl rfl rfl rfl rfl rfl rfl rfl rfl) (by omega) (by omega) (by omega) ?_
  rw [f_Mod_first_15] at hk
  exact hk
def f_Mod_first (x : Int32) (Z : Nat → Nat → Int32) : Int32 × (Nat → Nat → Int32) :=
  if ((f_Mod_isBlock x (u2 Z 100 18 0)).1) = 0 then (0, (f_Mod_isBlock x (u2 Z 100 18 0)).2) else f_Mod_first_15 x ((f_Mod_isBlock x (u2 Z 100 18 0)).2) x.toNatClampNeg
set_option maxRecDepth 4000 in
theorem w_Mod_first_0 {g : GG} {Q : QT} {h : Hp} {kc ks : Nat} (hst : (gl g).stackTraces = false) {A : Nat → Nat} (hnd : (gK (moL g A)).Nodup) (x : Int32)  (Z : Nat → Nat → Int32) (hw : wfM Z) (hk : Q (.inl (some (.int (f_Mod_first x Z).1))) (ov h (gO (moL g A) ((f_Mod_first x Z).2)))) : PW g M_Mod_first 6 kc ks Q 0 [.ref (A 100), .int (x), .retAddr 0] [] (ov h (gO (moL g A) Z)) := by
  have hz0 := hw.blk.2
  have hz1 := hw.lnk.2
  have hz2 := hw.dvs.2
  refine pw_aload_n e_Mod_first_0 rfl ?_
  refine pw_iconst (v := nI 0) e_Mod_first_1 (by decide) ?_
  refine pw_putGi (i := 0) (ps := 18) (x := 0) e_Mod_first_2 fp_Mod_159 hnd (mo_x _ _) rfl (Nat.le_of_ble_eq_true rfl) rfl rfl (fun _ _ => rfl) ?_
  refine pw_aload_n e_Mod_first_5 rfl ?_
  refine pw_iload_n e_Mod_first_6 rfl ?_
  refine pw_detV (As := [.int (x)]) e_Mod_first_7 li_Mod_397 rfl (gO_get hnd (i := 0) rfl) (q_Mod_isBlock hst hnd x (u2 Z 100 18 0) (gO_in hnd (fun _ z => z)) (wfM.of (Q := u2 Z 100 18 0) hw rfl rfl rfl rfl rfl rfl rfl rfl rfl rfl rfl rfl)) rfl (by decide) (Nat.le_of_ble_eq_true rfl) rfl ?_
  refine pw_sameG hnd ?_
  refine pw_if_ne (tgt := 15) e_Mod_first_10 (by decide) (fun (H1 : ¬ ((f_Mod_isBlock x (u2 Z 100 18 0)).1) = 0) => ?_) (fun (H1 : ((f_Mod_isBlock x (u2 Z 100 18 0)).1) = 0) => ?_)
  · refine pw_eqls (ls' := [.ref (A 100), .int (nI (x.toNatClampNeg)), .retAddr 0]) (by rw [← (show x = nI (x.toNatClampNeg) from (ib10 (wfM.of (Q := u2 Z 100 18 0) hw rfl rfl rfl rfl rfl rfl rfl rfl rfl rfl rfl rfl) H1).1)]) ?_
    refine w_Mod_first_15 hst hnd x ((f_Mod_isBlock x (u2 Z 100 18 0)).2) x.toNatClampNeg (z_isBlock (wfM.of (Q := u2 Z 100 18 0) hw rfl rfl rfl rfl rfl rfl rfl rfl rfl rfl rfl rfl)) (ib10 (wfM.of (Q := u2 Z 100 18 0) hw rfl rfl rfl rfl rfl rfl rfl rfl rfl rfl rfl rfl) H1).2 ?_
    rw [f_Mod_first, if_neg H1] at hk
    exact hk
  · refine pw_iconst (v := nI 0) e_Mod_first_13 (by decide) ?_
    refine pw_iret e_Mod_first_14 rfl rfl ?_
    rw [f_Mod_first, if_pos H1] at hk
    exact hk
theorem q_Mod_first {g : GG} {h : Hp} (hst : (gl g).stackTraces = false) {A : Nat → Nat} (hnd : (gK (moL g A)).Nodup) (x : Int32)  (Z : Nat → Nat → Int32) (hm : ∀ q ∈ gO (moL g A) Z, h q.1 = some q.2) (hw : wfM Z) : PM g M_Mod_first 6 0 0 [.ref (A 100), .int (x)] h (RetV (some (.int (f_Mod_first x Z).1)) (ov h (gO (moL g A) ((f_Mod_first x Z).2)))) := by
  refine PM.of hst (by decide) rfl (fun v hv => ?_) (Nat.le_of_ble_eq_true rfl) ?_
  · simp only [List.mem_cons, List.not_mem_nil, or_false] at hv; rcases hv with rfl | rfl <;> rfl
  · have hq := w_Mod_first_0 (g := g) (Q := RetV (some (.int (f_Mod_first x Z).1)) (ov h (gO (moL g A) ((f_Mod_first x Z).2)))) (h := h) (kc := 0) (ks := 0) hst hnd x Z hw ?_
    · rw [ov_self hm] at hq; exact hq
    · exact ⟨rfl, rfl⟩

def f_Mod_jump_39 (x : Int32) (y : Int32) : Nat → (Nat → Nat → Int32) → (Nat) → (Nat) → (Int32) → (Nat) → Int32 × (Nat → Nat → Int32)
  | 0, Z, _, _, _, _ => (0, Z)
  | t + 1, Z, b, n, tp, k => if n ≤ k then (tp, Z) else f_Mod_jump_39 x y t (va_up Z 0 (f_Mod_cycle Z 210 (Z 0))) b n (f_Mod_greater tp (f_Mod_span ((((va_up Z 0 (f_Mod_cycle Z 210 (Z 0))) 0) ((210 + 8 * b) + 3)) - ((Z 0) ((210 + 8 * b) + 3))))) (k + 1)
set_option maxRecDepth 4000 in
theorem w_Mod_jump_39 {g : GG} {Q : QT} {h : Hp} {kc ks : Nat} (hst : (gl g).stackTraces = false) {A : Nat → Nat} (hnd : (gK (moL g A)).Nodup) (x : Int32) (y : Int32)  (t : Nat) : ∀ (Z : Nat → Nat → Int32) (b : Nat) (n : Nat) (tp : Int32) (k : Nat) (hw : wfM Z) (hb : b < 10) (hn : n < 61) (hk9 : k ≤ n) (hlt : n - k < t) (hk : Q (.inl (some (.int (f_Mod_jump_39 x y t Z b n tp k).1))) (ov h (gO (moL g A) ((f_Mod_jump_39 x y t Z b n tp k).2)))), PW g M_Mod_jump 6 kc ks Q 39 [.ref (A 100), .int (nI (b)), .int (nI (n)), .int (tp), .int (nI (k)), .retAddr 0] [] (ov h (gO (moL g A) Z)) := by
  induction t with
  | zero => intro Z b n tp k hw hb hn hk9 hlt _; exact absurd hlt (Nat.not_lt_zero _)
  | succ t ih =>
    intro Z b n tp k hw hb hn hk9 hlt hk
    have hz0 := hw.blk.2
    have hz1 := hw.lnk.2
    have hz2 := hw.dvs.2
    refine pw_iload e_Mod_jump_39 rfl ?_
    refine pw_iload_n e_Mod_jump_41 rfl ?_
    refine pw_icmp_geN (tgt := 99) e_Mod_jump_42 (by decide) (by omega) (by omega) (fun (H1 : n ≤ k) => ?_) (fun (H1 : k < n) => ?_)
    · refine pw_iload_n e_Mod_jump_99 rfl ?_
      refine pw_iret e_Mod_jump_100 rfl rfl ?_
      rw [f_Mod_jump_39, if_pos H1] at hk
      exact hk
    · refine pw_aload_n e_Mod_jump_45 rfl ?_
      refine pw_getf e_Mod_jump_46 fl_Mod_9 (gO_get hnd (i := 0) rfl) rfl ?_
      refine pw_sipush (v := nI 210) e_Mod_jump_49 (by decide) ?_
      refine pw_iload_n e_Mod_jump_52 rfl ?_
      refine pw_detS (As := [.int (nI (210)), .int (nI (b))]) e_Mod_jump_53 li_Mod_193 (q_at hst 210 b) rfl (by decide) (Nat.le_of_ble_eq_true rfl) rfl ?_
      refine pw_iconst (v := nI 3) e_Mod_jump_56 (by decide) ?_
      refine pw_iaddN e_Mod_jump_57 ?_
      refine pw_ialdN e_Mod_jump_58 (gO_get hnd (i := 1) rfl) (by omega) (by decide) ?_
      refine pw_istore (ls2 := [_, _, _, _, _, _]) e_Mod_jump_59 (by decide) rfl ?_
      refine pw_aload_n e_Mod_jump_61 rfl ?_
      refine pw_sipush (v := nI 210) e_Mod_jump_62 (by decide) ?_
      refine pw_detV (As := [.int (nI (210))]) e_Mod_jump_65 li_Mod_270 rfl (gO_get hnd (i := 0) rfl) (q_Mod_cycle hst (mo_at hnd) hw 210 (by omega) (Z 0) (gO_get hnd (i := 1) rfl)) rfl (by decide) (Nat.le_of_ble_eq_true rfl) rfl ?_
      refine pw_upG (i := 1) hnd (mo_x _ _) rfl rfl ?_
      refine pw_iload_n e_Mod_jump_68 rfl ?_
      refine pw_aload_n e_Mod_jump_69 rfl ?_
      refine pw_getf e_Mod_jump_70 fl_Mod_9 (gO_get hnd (i := 0) rfl) rfl ?_
      refine pw_sipush (v := nI 210) e_Mod_jump_73 (by decide) ?_
      refine pw_iload_n e_Mod_jump_76 rfl ?_
      refine pw_detS (As := [.int (nI (210)), .int (nI (b))]) e_Mod_jump_77 li_Mod_193 (q_at hst 210 b) rfl (by decide) (Nat.le_of_ble_eq_true rfl) rfl ?_
      refine pw_iconst (v := nI 3) e_Mod_jump_80 (by decide) ?_
      refine pw_iaddN e_Mod_jump_81 ?_
      refine pw_ialdN e_Mod_jump_82 (gO_get hnd (i := 1) rfl) (by omega) (by decide) ?_
      refine pw_iload e_Mod_jump_83 rfl ?_
      refine pw_isub e_Mod_jump_85 ?_
      refine pw_detS (As := [.int ((((va_up Z 0 (f_Mod_cycle Z 210 (Z 0))) 0) ((210 + 8 * b) + 3)) - ((Z 0) ((210 + 8 * b) + 3)))]) e_Mod_jump_86 li_Mod_432 (q_Mod_span hst ((((va_up Z 0 (f_Mod_cycle Z 210 (Z 0))) 0) ((210 + 8 * b) + 3)) - ((Z 0) ((210 + 8 * b) + 3)))) rfl (by decide) (Nat.le_of_ble_eq_true rfl) rfl ?_
      refine pw_detS (As := [.int (tp), .int (f_Mod_span ((((va_up Z 0 (f_Mod_cycle Z 210 (Z 0))) 0) ((210 + 8 * b) + 3)) - ((Z 0) ((210 + 8 * b) + 3))))]) e_Mod_jump_89 li_Mod_171 (q_Mod_greater hst tp (f_Mod_span ((((va_up Z 0 (f_Mod_cycle Z 210 (Z 0))) 0) ((210 + 8 * b) + 3)) - ((Z 0) ((210 + 8 * b) + 3))))) rfl (by decide) (Nat.le_of_ble_eq_true rfl) rfl ?_
      refine pw_istore_n (ls2 := [_, _, _, _, _, _]) e_Mod_jump_92 (by decide) rfl ?_
      refine pw_iincN (ls2 := [_, _, _, _, _, _]) e_Mod_jump_93 rfl (by decide) rfl ?_
      refine pw_goto (tgt := 39) e_Mod_jump_96 (by decide) ?_
      refine pw_fgt (ls' := [.ref (A 100), .int (nI (b)), .int (nI (n)), .int (f_Mod_greater tp (f_Mod_span ((((va_up Z 0 (f_Mod_cycle Z 210 (Z 0))) 0) ((210 + 8 * b) + 3)) - ((Z 0) ((210 + 8 * b) + 3))))), .int (nI (k + 1)), .retAddr 0]) ⟨Or.inr rfl, Or.inr rfl, Or.inr rfl, Or.inr rfl, Or.inr rfl, Or.inl rfl, trivial⟩ ?_
      refine ih (va_up Z 0 (f_Mod_cycle Z 210 (Z 0))) b n (f_Mod_greater tp (f_Mod_span ((((va_up Z 0 (f_Mod_cycle Z 210 (Z 0))) 0) ((210 + 8 * b) + 3)) - ((Z 0) ((210 + 8 * b) + 3))))) (k + 1) (wfM.of (Q := va_up Z 0 (f_Mod_cycle Z 210 (Z 0))) hw rfl rfl rfl rfl rfl rfl rfl rfl rfl rfl rfl rfl) (by omega) (by omega) (by omega) (by omega) ?_
      rw [f_Mod_jump_39, if_neg (Nat.not_le.mpr H1)] at hk
      exact hk
def f_Mod_jump_30 (x : Int32) (y : Int32) (Z : Nat → Nat → Int32) (b : Nat) (n : Nat) : Int32 × (Nat → Nat → Int32) :=
  f_Mod_jump_39 x y 61 (va_up Z 0 (f_Mod_tries Z (Z 0))) b n 0 0
set_option maxRecDepth 4000 in
theorem w_Mod_jump_30 {g : GG} {Q : QT} {h : Hp} {kc ks : Nat} (hst : (gl g).stackTraces = false) {A : Nat → Nat} (hnd : (gK (moL g A)).Nodup) (x : Int32) (y : Int32)  (Z : Nat → Nat → Int32) (b : Nat) (n : Nat) (hw : wfM Z) (hb : b < 10) (hn : n < 61) (hk : Q (.inl (some (.int (f_Mod_jump_30 x y Z b n).1))) (ov h (gO (moL g A) ((f_Mod_jump_30 x y Z b n).2)))) : PW g M_Mod_jump 6 kc ks Q 30 [.ref (A 100), .int (nI (b)), .int (nI (n)), .retAddr 0, .retAddr 0, .retAddr 0] [] (ov h (gO (moL g A) Z)) := by
  have hz0 := hw.blk.2
  have hz1 := hw.lnk.2
  have hz2 := hw.dvs.2
  refine pw_aload_n e_Mod_jump_30 rfl ?_
  refine pw_detV (As := []) e_Mod_jump_31 li_Mod_429 rfl (gO_get hnd (i := 0) rfl) (q_Mod_tries hst (mo_at hnd) hw  (Z 0) (gO_get hnd (i := 1) rfl)) rfl (by decide) (Nat.le_of_ble_eq_true rfl) rfl ?_
  refine pw_upG (i := 1) hnd (mo_x _ _) rfl rfl ?_
  refine pw_iconst (v := nI 0) e_Mod_jump_34 (by decide) ?_
  refine pw_istore_n (ls2 := [_, _, _, _, _, _]) e_Mod_jump_35 (by decide) rfl ?_
  refine pw_iconst (v := nI 0) e_Mod_jump_36 (by decide) ?_
  refine pw_istore (ls2 := [_, _, _, _, _, _]) e_Mod_jump_37 (by decide) rfl ?_
  refine w_Mod_jump_39 hst hnd x y 61 (va_up Z 0 (f_Mod_tries Z (Z 0))) b n 0 0 (wfM.of (Q := va_up Z 0 (f_Mod_tries Z (Z 0))) hw rfl rfl rfl rfl rfl rfl rfl rfl rfl rfl rfl rfl) (by omega) (by omega) (by omega) (by omega) ?_
  rw [f_Mod_jump_30] at hk
  exact hk
def f_Mod_jump (x : Int32) (y : Int32) (Z : Nat → Nat → Int32) : Int32 × (Nat → Nat → Int32) :=
  if ((f_Mod_isBlock x (u2 Z 100 18 0)).1) = 0 then (0, (f_Mod_isBlock x (u2 Z 100 18 0)).2) else if ((f_Mod_right (f_Mod_within y (nI 1) (nI 60)) (nI 2) ((f_Mod_isBlock x (u2 Z 100 18 0)).2)).1) = 0 then (0, (f_Mod_right (f_Mod_within y (nI 1) (nI 60)) (nI 2) ((f_Mod_isBlock x (u2 Z 100 18 0)).2)).2) else f_Mod_jump_30 x y ((f_Mod_right (f_Mod_within y (nI 1) (nI 60)) (nI 2) ((f_Mod_isBlock x (u2 Z 100 18 0)).2)).2) x.toNatClampNeg y.toNatClampNeg
set_option maxRecDepth 4000 in
theorem w_Mod_jump_0 {g : GG} {Q : QT} {h : Hp} {kc ks : Nat} (hst : (gl g).stackTraces = false) {A : Nat → Nat} (hnd : (gK (moL g A)).Nodup) (x : Int32) (y : Int32)  (Z : Nat → Nat → Int32) (hw : wfM Z) (hk : Q (.inl (some (.int (f_Mod_jump x y Z).1))) (ov h (gO (moL g A) ((f_Mod_jump x y Z).2)))) : PW g M_Mod_jump 6 kc ks Q 0 [.ref (A 100), .int (x), .int (y), .retAddr 0, .retAddr 0, .retAddr 0] [] (ov h (gO (moL g A) Z)) := by
  have hz0 := hw.blk.2
  have hz1 := hw.lnk.2
  have hz2 := hw.dvs.2
  refine pw_aload_n e_Mod_jump_0 rfl ?_
  refine pw_iconst (v := nI 0) e_Mod_jump_1 (by decide) ?_
  refine pw_putGi (i := 0) (ps := 18) (x := 0) e_Mod_jump_2 fp_Mod_159 hnd (mo_x _ _) rfl (Nat.le_of_ble_eq_true rfl) rfl rfl (fun _ _ => rfl) ?_
  refine pw_aload_n e_Mod_jump_5 rfl ?_
  refine pw_iload_n e_Mod_jump_6 rfl ?_
  refine pw_detV (As := [.int (x)]) e_Mod_jump_7 li_Mod_397 rfl (gO_get hnd (i := 0) rfl) (q_Mod_isBlock hst hnd x (u2 Z 100 18 0) (gO_in hnd (fun _ z => z)) (wfM.of (Q := u2 Z 100 18 0) hw rfl rfl rfl rfl rfl rfl rfl rfl rfl rfl rfl rfl)) rfl (by decide) (Nat.le_of_ble_eq_true rfl) rfl ?_
  refine pw_sameG hnd ?_
  refine pw_if_eq (tgt := 28) e_Mod_jump_10 (by decide) (fun (H1 : ((f_Mod_isBlock x (u2 Z 100 18 0)).1) = 0) => ?_) (fun (H1 : ¬ ((f_Mod_isBlock x (u2 Z 100 18 0)).1) = 0) => ?_)
  · refine pw_iconst (v := nI 0) e_Mod_jump_28 (by decide) ?_
    refine pw_iret e_Mod_jump_29 rfl rfl ?_
    rw [f_Mod_jump, if_pos H1] at hk
    exact hk
  · refine pw_aload_n e_Mod_jump_13 rfl ?_
    refine pw_iload_n e_Mod_jump_14 rfl ?_
    refine pw_iconst (v := nI 1) e_Mod_jump_15 (by decide) ?_
    refine pw_bipush (v := nI 60) e_Mod_jump_16 (by decide) ?_
    refine pw_detS (As := [.int (y), .int (nI (1)), .int (nI (60))]) e_Mod_jump_18 li_Mod_312 (q_Mod_within hst y (nI 1) (nI 60)) rfl (by decide) (Nat.le_of_ble_eq_true rfl) rfl ?_
    refine pw_iconst (v := nI 2) e_Mod_jump_21 (by decide) ?_
    refine pw_detV (As := [.int (f_Mod_within y (nI 1) (nI 60)), .int (nI (2))]) e_Mod_jump_22 li_Mod_372 rfl (gO_get hnd (i := 0) rfl) (q_Mod_right hst hnd (f_Mod_within y (nI 1) (nI 60)) (nI 2) ((f_Mod_isBlock x (u2 Z 100 18 0)).2) (gO_in hnd (fun _ z => z))) rfl (by decide) (Nat.le_of_ble_eq_true rfl) rfl ?_
    refine pw_sameG hnd ?_
    refine pw_if_ne (tgt := 30) e_Mod_jump_25 (by decide) (fun (H2 : ¬ ((f_Mod_right (f_Mod_within y (nI 1) (nI 60)) (nI 2) ((f_Mod_isBlock x (u2 Z 100 18 0)).2)).1) = 0) => ?_) (fun (H2 : ((f_Mod_right (f_Mod_within y (nI 1) (nI 60)) (nI 2) ((f_Mod_isBlock x (u2 Z 100 18 0)).2)).1) = 0) => ?_)
    · refine pw_eqls (ls' := [.ref (A 100), .int (nI (x.toNatClampNeg)), .int (y), .retAddr 0, .retAddr 0, .retAddr 0]) (by rw [← (show x = nI (x.toNatClampNeg) from (ib10 (wfM.of (Q := u2 Z 100 18 0) hw rfl rfl rfl rfl rfl rfl rfl rfl rfl rfl rfl rfl) H1).1)]) ?_
      refine pw_eqls (ls' := [.ref (A 100), .int (nI (x.toNatClampNeg)), .int (nI (y.toNatClampNeg)), .retAddr 0, .retAddr 0, .retAddr 0]) (by rw [← (show y = nI (y.toNatClampNeg) from (win_M1 (n := 60) (by decide) (rt_of (by decide) H2).1).1)]) ?_
      refine w_Mod_jump_30 hst hnd x y ((f_Mod_right (f_Mod_within y (nI 1) (nI 60)) (nI 2) ((f_Mod_isBlock x (u2 Z 100 18 0)).2)).2) x.toNatClampNeg y.toNatClampNeg (z_right (z_isBlock (wfM.of (Q := u2 Z 100 18 0) hw rfl rfl rfl rfl rfl rfl rfl rfl rfl rfl rfl rfl))) (ib10 (wfM.of (Q := u2 Z 100 18 0) hw rfl rfl rfl rfl rfl rfl rfl rfl rfl rfl rfl rfl) H1).2 (win_M1 (n := 60) (by decide) (rt_of (by decide) H2).1).2.2 ?_
      rw [f_Mod_jump, if_neg H1, if_neg H2] at hk
      exact hk
    · refine pw_iconst (v := nI 0) e_Mod_jump_28 (by decide) ?_
      refine pw_iret e_Mod_jump_29 rfl rfl ?_
      rw [f_Mod_jump, if_neg H1, if_pos H2] at hk
      exact hk
theorem q_Mod_jump {g : GG} {h : Hp} (hst : (gl g).stackTraces = false) {A : Nat → Nat} (hnd : (gK (moL g A)).Nodup) (x : Int32) (y : Int32)  (Z : Nat → Nat → Int32) (hm : ∀ q ∈ gO (moL g A) Z, h q.1 = some q.2) (hw : wfM Z) : PM g M_Mod_jump 6 0 0 [.ref (A 100), .int (x), .int (y)] h (RetV (some (.int (f_Mod_jump x y Z).1)) (ov h (gO (moL g A) ((f_Mod_jump x y Z).2)))) := by
  refine PM.of hst (by decide) rfl (fun v hv => ?_) (Nat.le_of_ble_eq_true rfl) ?_
  · simp only [List.mem_cons, List.not_mem_nil, or_false] at hv; rcases hv with rfl | rfl | rfl <;> rfl
  · have hq := w_Mod_jump_0 (g := g) (Q := RetV (some (.int (f_Mod_jump x y Z).1)) (ov h (gO (moL g A) ((f_Mod_jump x y Z).2)))) (h := h) (kc := 0) (ks := 0) hst hnd x y Z hw ?_
    · rw [ov_self hm] at hq; exact hq
    · exact ⟨rfl, rfl⟩

