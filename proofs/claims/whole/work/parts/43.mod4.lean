/-! the reference: its calls (written by wip/whole/c_mod4.py) -/
/-- how many acts are kept, and where the first of them lies -/
def AcI (Z : Nat → Nat → Int32) : Prop := (Z 100 24 = nI (pN Z 100 24) ∧ pN Z 100 24 ≤ 40) ∧ (Z 100 25 = nI (pN Z 100 25) ∧ pN Z 100 25 < 40)
theorem win_M {x : Int32} {n : Nat} (hn : n < 2 ^ 30) (H : f_Mod_within x (nI 0) (nI n) ≠ 0) : x = nI x.toNatClampNeg ∧ x.toNatClampNeg < n + 1 := by
  rw [f_Mod_within] at H
  by_cases h0 : x < nI 0
  · rw [if_pos h0] at H; exact absurd rfl H
  · rw [if_neg h0] at H
    by_cases h1 : nI n < x
    · rw [if_pos h1] at H; exact absurd rfl H
    · refine toN (by omega) h0 ?_
      rw [i_lt] at h1 ⊢
      rw [nI_toInt (by omega)] at h1 ⊢
      omega
theorem win_M1 {x : Int32} {n : Nat} (hn : n < 2 ^ 30) (H : f_Mod_within x (nI 1) (nI n) ≠ 0) : x = nI x.toNatClampNeg ∧ 1 ≤ x.toNatClampNeg ∧ x.toNatClampNeg < n + 1 := by
  rw [f_Mod_within] at H
  by_cases h0 : x < nI 1
  · rw [if_pos h0] at H; exact absurd rfl H
  · rw [if_neg h0] at H
    by_cases h1 : nI n < x
    · rw [if_pos h1] at H; exact absurd rfl H
    · have a : ¬ x.toInt < 1 := fun q => h0 (i_lt.mpr (by rw [show (nI 1).toInt = 1 by decide]; exact q))
      have b : ¬ (n : Int) < x.toInt := fun q => h1 (i_lt.mpr (by rw [nI_toInt (by omega)]; exact q))
      have e : x.toNatClampNeg = x.toInt.toNat := rfl
      have e2 : x = nI x.toInt.toNat := by
        apply Int32.toInt_inj.mp
        rw [nI_toInt (by omega)]; omega
      rw [e]
      exact ⟨e2, by omega, by omega⟩
theorem z_fault {Z : Nat → Nat → Int32} (h : wfM Z) : wfM (f_Mod_fault Z).2 := h.of rfl rfl rfl rfl rfl rfl rfl rfl rfl rfl rfl rfl
def f_Mod_keptAt (f : Nat) (k : Nat) : Int32 :=
  nI (630 + (210 * ((f + k) % 40)))
set_option maxRecDepth 4000 in
theorem w_Mod_keptAt_0 {g : GG} {Q : QT} {h : Hp} {kc ks : Nat} (hst : (gl g).stackTraces = false) (f : Nat) (k : Nat) (hf : f < 40) (hk9 : k ≤ 40)  (hk : Q (.inl (some (.int (f_Mod_keptAt f k)))) h) : PW g M_Mod_keptAt 0 kc ks Q 0 [.int (nI (f)), .int (nI (k))] [] h := by
  refine pw_sipush (v := nI 630) e_Mod_keptAt_0 (by decide) ?_
  refine pw_sipush (v := nI 210) e_Mod_keptAt_3 (by decide) ?_
  refine pw_iload_n e_Mod_keptAt_6 rfl ?_
  refine pw_iload_n e_Mod_keptAt_7 rfl ?_
  refine pw_iaddN e_Mod_keptAt_8 ?_
  refine pw_bipush (v := nI 40) e_Mod_keptAt_9 (by decide) ?_
  refine pw_iremN (by omega) (by omega) (by omega) e_Mod_keptAt_11 ?_
  refine pw_imulN e_Mod_keptAt_12 ?_
  refine pw_iaddN e_Mod_keptAt_13 ?_
  refine pw_iret e_Mod_keptAt_14 rfl rfl ?_
  rw [f_Mod_keptAt] at hk
  exact hk
theorem q_Mod_keptAt {g : GG} {h : Hp} (hst : (gl g).stackTraces = false) (f : Nat) (k : Nat) (hf : f < 40) (hk9 : k ≤ 40)  : PM g M_Mod_keptAt 0 0 0 [.int (nI (f)), .int (nI (k))] h (RetV (some (.int (f_Mod_keptAt f k))) h) := by
  refine PM.of hst (by decide) rfl (fun v hv => ?_) (Nat.le_of_ble_eq_true rfl) ?_
  · simp only [List.mem_cons, List.not_mem_nil, or_false] at hv; rcases hv with rfl | rfl <;> rfl
  · have hq := w_Mod_keptAt_0 (g := g) (Q := RetV (some (.int (f_Mod_keptAt f k))) h) (h := h) (kc := 0) (ks := 0) hst f k hf hk9 ?_
    · exact hq
    · exact ⟨rfl, rfl⟩

theorem q_keptAt {g : GG} {h : Hp} (hst : (gl g).stackTraces = false) (f k : Nat) (hf : f < 40) (hk : k ≤ 40) : PM g M_Mod_keptAt 0 0 0 [.int (nI f), .int (nI k)] h (RetV (some (.int (nI (630 + 210 * ((f + k) % 40))))) h) := q_Mod_keptAt hst f k hf hk
def f_Mod_keeps_32  (Z : Nat → Nat → Int32) : (Nat → Nat → Int32) :=
  u2 (va_up Z 0 (f_Mod_copies Z 0 (630 + 210 * (((pN Z 100 25) + (pN Z 100 24)) % 40)) 210 (Z 0))) 100 24 (nI ((pN Z 100 24) + 1))
set_option maxRecDepth 4000 in
theorem w_Mod_keeps_32 {g : GG} {Q : QT} {h : Hp} {kc ks : Nat} (hst : (gl g).stackTraces = false) {A : Nat → Nat} (hnd : (gK (moL g A)).Nodup)  (Z : Nat → Nat → Int32) (hw : wfM Z) (hA : AcI Z) (ha39 : pN Z 100 24 < 40) (hk : Q (.inl none) (ov h (gO (moL g A) (f_Mod_keeps_32  Z)))) : PW g M_Mod_keeps 2 kc ks Q 32 [.ref (A 100)] [] (ov h (gO (moL g A) Z)) := by
  have ha1 := hA.1.2
  have ha2 := hA.2.2
  have hz0 := hw.blk.2
  have hz1 := hw.lnk.2
  have hz2 := hw.dvs.2
  refine pw_aload_n e_Mod_keeps_32 rfl ?_
  refine pw_iconst (v := nI 0) e_Mod_keeps_33 (by decide) ?_
  refine pw_aload_n e_Mod_keeps_34 rfl ?_
  refine pw_getf e_Mod_keeps_35 fl_Mod_391 (gO_get hnd (i := 0) rfl) rfl ?_
  refine pw_eqst (congrArg (fun q => Value.int q :: [.int (nI (0)), .ref (A 100)]) (show _ = nI (pN Z 100 25) from hA.2.1)) ?_
  refine pw_aload_n e_Mod_keeps_38 rfl ?_
  refine pw_getf e_Mod_keeps_39 fl_Mod_394 (gO_get hnd (i := 0) rfl) rfl ?_
  refine pw_eqst (congrArg (fun q => Value.int q :: [.int (nI (pN Z 100 25)), .int (nI (0)), .ref (A 100)]) (show _ = nI (pN Z 100 24) from hA.1.1)) ?_
  have hb1 := Nat.mod_lt ((pN Z 100 25) + (pN Z 100 24)) (show 0 < 40 by decide)
  refine pw_detS (As := [.int (nI (pN Z 100 25)), .int (nI (pN Z 100 24))]) e_Mod_keeps_42 li_Mod_403 (q_keptAt hst (pN Z 100 25) (pN Z 100 24) (by omega) (by omega)) rfl (by decide) (Nat.le_of_ble_eq_true rfl) rfl ?_
  refine pw_sipush (v := nI 210) e_Mod_keeps_45 (by decide) ?_
  refine pw_detV (As := [.int (nI (0)), .int (nI (630 + 210 * (((pN Z 100 25) + (pN Z 100 24)) % 40))), .int (nI (210))]) e_Mod_keeps_48 li_Mod_406 rfl (gO_get hnd (i := 0) rfl) (q_Mod_copies hst (mo_at hnd) hw 0 (630 + 210 * (((pN Z 100 25) + (pN Z 100 24)) % 40)) 210 (by omega) (by omega) (Z 0) (gO_get hnd (i := 1) rfl)) rfl (by decide) (Nat.le_of_ble_eq_true rfl) rfl ?_
  refine pw_upG (i := 1) hnd (mo_x _ _) rfl rfl ?_
  refine pw_aload_n e_Mod_keeps_51 rfl ?_
  refine pw_dup e_Mod_keeps_52 rfl ?_
  refine pw_getf e_Mod_keeps_53 fl_Mod_394 (gO_get hnd (i := 0) rfl) rfl ?_
  refine pw_eqst (congrArg (fun q => Value.int q :: [.ref (A 100)]) (show _ = nI (pN Z 100 24) from hA.1.1)) ?_
  refine pw_iconst (v := nI 1) e_Mod_keeps_56 (by decide) ?_
  refine pw_iaddN e_Mod_keeps_57 ?_
  refine pw_putGi (i := 0) (ps := 24) (x := nI ((pN Z 100 24) + 1)) e_Mod_keeps_58 fp_Mod_394 hnd (mo_x _ _) rfl (Nat.le_of_ble_eq_true rfl) rfl rfl (fun _ _ => rfl) ?_
  refine pw_vret e_Mod_keeps_61 rfl ?_
  rw [f_Mod_keeps_32] at hk
  exact hk
def f_Mod_keeps  (Z : Nat → Nat → Int32) : (Nat → Nat → Int32) :=
  if (pN Z 100 24) = 40 then f_Mod_keeps_32  (u2 (u2 Z 100 25 (nI (((pN Z 100 25) + 1) % 40))) 100 24 (nI ((pN Z 100 24) - 1))) else f_Mod_keeps_32  Z
set_option maxRecDepth 4000 in
theorem w_Mod_keeps_0 {g : GG} {Q : QT} {h : Hp} {kc ks : Nat} (hst : (gl g).stackTraces = false) {A : Nat → Nat} (hnd : (gK (moL g A)).Nodup)  (Z : Nat → Nat → Int32) (hw : wfM Z) (hA : AcI Z) (hk : Q (.inl none) (ov h (gO (moL g A) (f_Mod_keeps  Z)))) : PW g M_Mod_keeps 2 kc ks Q 0 [.ref (A 100)] [] (ov h (gO (moL g A) Z)) := by
  have ha1 := hA.1.2
  have ha2 := hA.2.2
  have hz0 := hw.blk.2
  have hz1 := hw.lnk.2
  have hz2 := hw.dvs.2
  refine pw_aload_n e_Mod_keeps_0 rfl ?_
  refine pw_getf e_Mod_keeps_1 fl_Mod_394 (gO_get hnd (i := 0) rfl) rfl ?_
  refine pw_eqst (congrArg (fun q => Value.int q :: []) (show _ = nI (pN Z 100 24) from hA.1.1)) ?_
  refine pw_bipush (v := nI 40) e_Mod_keeps_4 (by decide) ?_
  refine pw_icmp_neN (tgt := 32) e_Mod_keeps_6 (by decide) (by omega) (by omega) (fun (H1 : ¬ (pN Z 100 24) = 40) => ?_) (fun (H1 : (pN Z 100 24) = 40) => ?_)
  · refine w_Mod_keeps_32 hst hnd Z hw hA (by omega) ?_
    rw [f_Mod_keeps, if_neg H1] at hk
    exact hk
  · refine pw_aload_n e_Mod_keeps_9 rfl ?_
    refine pw_aload_n e_Mod_keeps_10 rfl ?_
    refine pw_getf e_Mod_keeps_11 fl_Mod_391 (gO_get hnd (i := 0) rfl) rfl ?_
    refine pw_eqst (congrArg (fun q => Value.int q :: [.ref (A 100)]) (show _ = nI (pN Z 100 25) from hA.2.1)) ?_
    refine pw_iconst (v := nI 1) e_Mod_keeps_14 (by decide) ?_
    refine pw_iaddN e_Mod_keeps_15 ?_
    refine pw_bipush (v := nI 40) e_Mod_keeps_16 (by decide) ?_
    refine pw_iremN (by omega) (by omega) (by omega) e_Mod_keeps_18 ?_
    refine pw_putGi (i := 0) (ps := 25) (x := nI (((pN Z 100 25) + 1) % 40)) e_Mod_keeps_19 fp_Mod_391 hnd (mo_x _ _) rfl (Nat.le_of_ble_eq_true rfl) rfl rfl (fun _ _ => rfl) ?_
    refine pw_aload_n e_Mod_keeps_22 rfl ?_
    refine pw_dup e_Mod_keeps_23 rfl ?_
    refine pw_getf e_Mod_keeps_24 fl_Mod_394 (gO_get hnd (i := 0) rfl) rfl ?_
    refine pw_eqst (congrArg (fun q => Value.int q :: [.ref (A 100)]) (show _ = nI (pN Z 100 24) from (u2_i (by decide) hA.1.1))) ?_
    refine pw_iconst (v := nI 1) e_Mod_keeps_27 (by decide) ?_
    refine pw_isubN (by omega) e_Mod_keeps_28 ?_
    refine pw_putGi (i := 0) (ps := 24) (x := nI ((pN Z 100 24) - 1)) e_Mod_keeps_29 fp_Mod_394 hnd (mo_x _ _) rfl (Nat.le_of_ble_eq_true rfl) rfl rfl (fun _ _ => rfl) ?_
    refine w_Mod_keeps_32 hst hnd (u2 (u2 Z 100 25 (nI (((pN Z 100 25) + 1) % 40))) 100 24 (nI ((pN Z 100 24) - 1))) (wfM.of (wfM.of hw rfl rfl rfl rfl rfl rfl rfl rfl rfl rfl rfl rfl) rfl rfl rfl rfl rfl rfl rfl rfl rfl rfl rfl rfl) (ac_dec hA H1) (by have := ac_dec2 hA H1; omega) ?_
    rw [f_Mod_keeps, if_pos H1] at hk
    exact hk
theorem q_Mod_keeps {g : GG} {h : Hp} (hst : (gl g).stackTraces = false) {A : Nat → Nat} (hnd : (gK (moL g A)).Nodup)  (Z : Nat → Nat → Int32) (hm : ∀ q ∈ gO (moL g A) Z, h q.1 = some q.2) (hw : wfM Z) (hA : AcI Z) : PM g M_Mod_keeps 2 0 0 [.ref (A 100)] h (RetV none (ov h (gO (moL g A) (f_Mod_keeps  Z)))) := by
  refine PM.of hst (by decide) rfl (fun v hv => ?_) (Nat.le_of_ble_eq_true rfl) ?_
  · simp only [List.mem_cons, List.not_mem_nil, or_false] at hv; rcases hv with rfl <;> rfl
  · have hq := w_Mod_keeps_0 (g := g) (Q := RetV none (ov h (gO (moL g A) (f_Mod_keeps  Z)))) (h := h) (kc := 0) (ks := 0) hst hnd Z hw hA ?_
    · rw [ov_self hm] at hq; exact hq
    · exact ⟨rfl, rfl⟩

