/-! the object: bus (written by wip/whole/c_bus6.py) -/
theorem nn_507 {x : Int32} {Z : Nat → Nat → Int32} (ht : Z 507 1 = nI (pN Z 507 1) ∧ pN Z 507 1 ≤ 900) (h0 : ¬ x < 0) (h1 : x ≤ Z 507 1) : ∃ n, x = nI n ∧ n ≤ 900 := by
  have q : ¬ (901 : Int) ≤ x.toInt := by
    rw [ht.1, i_le, nI_toInt (by omega)] at h1
    omega
  have h0' : ¬ x.toInt < 0 := fun q => h0 (i_lt.mpr (by rw [show (0 : Int32).toInt = 0 by decide]; exact q))
  refine ⟨x.toInt.toNat, ?_, by omega⟩
  apply Int32.toInt_inj.mp
  rw [nI_toInt (by omega)]; omega
theorem q_Reader_changePlan {g : GG} {h : Hp} (hst : (gl g).stackTraces = false) {r y p p2 : Nat} {R : Nat → Int32} (hr : h r = some (.inr (7, [.int (R 0), .int (R 1), .ref y, .int (R 3), .int (R 4), .ref p, .int (R 6), .int (R 7), .int (R 8), .int (R 9), .int (R 10)]))) : PM g M_Reader_changePlan 0 0 0 [.ref r, .ref p2] h (RetV (some (.ref p)) (va_up h r (some (.inr (7, [.int (R 0), .int (R 1), .ref y, .int (R 3), .int (R 4), .ref p2, .int (R 6), .int (R 7), .int (R 8), .int (R 9), .int (R 10)]))))) := by
  refine PM.of hst (by decide) rfl (fun v hv => ?_) (Nat.le_of_ble_eq_true rfl) ?_
  · simp only [List.mem_cons, List.not_mem_nil, or_false] at hv; rcases hv with rfl | rfl <;> rfl
  · refine pw_aload_n e_Reader_changePlan_0 rfl ?_
    refine pw_getf e_Reader_changePlan_1 fl_Reader_31 hr rfl ?_
    refine pw_astore_n (ls2 := [_, _, _]) e_Reader_changePlan_4 (by decide) rfl ?_
    refine pw_aload_n e_Reader_changePlan_5 rfl ?_
    refine pw_aload_n e_Reader_changePlan_6 rfl ?_
    refine pw_putf e_Reader_changePlan_7 fp_Reader_31 hr (Nat.le_of_ble_eq_true rfl) rfl rfl ?_
    refine pw_aload_n e_Reader_changePlan_10 rfl ?_
    exact pw_aret e_Reader_changePlan_11 rfl ⟨rfl, rfl⟩
/-- what the tape's first n bytes tell -/
def bsF (Z Y : Nat → Nat → Int32) (n : Nat) : Int32 × (Nat → Nat → Int32) := f_Reader_readText_5 (Z 506) n Y
/-- the object once a text is read, ahead of what becomes of it -/
def bsZ (Z Y : Nat → Nat → Int32) (n : Nat) : Nat → Nat → Int32 := u2 (u2 Z 507 1 0) 507 2 (Y1 (bsF Z Y n).2 Y 40 0)
def bsN (Z Y : Nat → Nat → Int32) (n : Nat) : Nat → Nat → Int32 := u2 (bsZ Z Y n) 305 0 (bsZ Z Y n 305 0 + 1)
/-- the plan that a text tells, laid -/
def bsP (Z Y : Nat → Nat → Int32) (n : Nat) : Nat → Nat → Int32 := P3 (Y1 (bsF Z Y n).2 Y)
def BusQ (g : GG) (A : Nat → Nat) (S : SA) (P Y Z : Nat → Nat → Int32) (h : Hp) (x : Int32) : QT := fun o h' =>
  ((x < 0 ∨ ¬ x ≤ Z 507 1) ∧ o = .inr "java/lang/IllegalArgumentException" ∧ h' = h) ∨
  ∃ n, x = nI n ∧ n ≤ 900 ∧ x ≤ Z 507 1 ∧
    ((¬ (bsF Z Y n).1 = 0 ∧ o = .inl (some (.int (bsF Z Y n).1)) ∧ Wld g (A1 A) S P (Y1 (bsF Z Y n).2 Y) (bsN Z Y n) h' ∧ CFr A S h S h') ∨
     ((bsF Z Y n).1 = 0 ∧ o = .inl (some (.int 0)) ∧ Wld g (A2 A) S (bsP Z Y n) (Y2 (bsF Z Y n).2 Y P) (f_Bus_bus_99 (bsP Z Y n) (nI n) (bsZ Z Y n)).2 h' ∧ CFr A S h S h'))
section
variable {g : GG} {A : Nat → Nat} {S : SA} {P Y Z : Nat → Nat → Int32} {h : Hp}
theorem k_99 {P Z : Nat → Nat → Int32} {x : Int32} {k : Nat} (hk : 1000 ≤ k) : (f_Bus_bus_99 P x Z).2 k = Z k := by
  rw [f_Bus_bus_99]
  show u2 _ 507 7 0 k = Z k
  rw [u2_k (by omega), mix_o (by simp only [List.mem_cons, List.not_mem_nil, or_false]; omega), up_ne (by omega) rfl, up_ne (by omega) rfl]
set_option maxRecDepth 4000 in
theorem q_Bus_bus (hst : (gl g).stackTraces = false) (hnd : (gK (bsL g A S P Y)).Nodup) (W : Wld g A S P Y Z h) (x : Int32) (ht : Z 507 1 = nI (pN Z 507 1) ∧ pN Z 507 1 ≤ 900) (hQ : ∀ n, n ≤ 900 → nI n ≤ Z 507 1 → (bsF Z Y n).1 = 0 → wfQ (Y1 (bsF Z Y n).2 Y) ∧ wfP (bsP Z Y n)) : PM g M_Bus_bus 10 1 6 [.ref (A 507), .int x] h (BusQ g A S P Y Z h x) := by
  refine PM.of hst (by decide) rfl (fun v hv => ?_) (Nat.le_of_ble_eq_true rfl) ?_
  · simp only [List.mem_cons, List.not_mem_nil, or_false] at hv; rcases hv with rfl | rfl <;> rfl
  · have e0 := ov_self W.1
    refine pw_iload_n e_Bus_bus_0 rfl ?_
    refine pw_if_lt (tgt := 12) e_Bus_bus_1 (by decide) (fun (hx0 : x < 0) => ?_) (fun (hx0 : ¬ x < 0) => ?_)
    · exact pw_iae (kc := 0) (ks := 0) rfl e_Bus_bus_12 e_Bus_bus_15 e_Bus_bus_16 e_Bus_bus_19 rfl (by decide) (Nat.le_of_ble_eq_true rfl) (Or.inl ⟨Or.inl hx0, rfl, rfl⟩)
    refine pw_iload_n e_Bus_bus_4 rfl ?_
    refine pw_aload_n e_Bus_bus_5 rfl ?_
    refine pw_getf e_Bus_bus_6 fl_Bus_13 (W.1.at (i := 29) rfl) rfl ?_
    refine pw_icmp_le (tgt := 20) e_Bus_bus_9 (by decide) (fun (hx1 : x ≤ Z 507 1) => ?_) (fun (hx1 : ¬ x ≤ Z 507 1) => ?_)
    rotate_left
    · exact pw_iae (kc := 0) (ks := 0) rfl e_Bus_bus_12 e_Bus_bus_15 e_Bus_bus_16 e_Bus_bus_19 rfl (by decide) (Nat.le_of_ble_eq_true rfl) (Or.inl ⟨Or.inr hx1, rfl, rfl⟩)
    obtain ⟨n, rfl, hn⟩ := nn_507 ht hx0 hx1
    refine PW.more (kc' := 0) (ks' := 0) (by decide) (by decide) ?_
    refine (show PW g M_Bus_bus 10 0 0 _ 20 [.ref (A 507), .int (nI n), .retAddr 0] [] (ov h (gO (bsL g A S P Y) Z)) from ?_) |> fun q => by rw [e0] at q; exact q
    refine pw_aload_n e_Bus_bus_20 rfl ?_
    refine pw_iconst (v := nI 0) e_Bus_bus_21 (by decide) ?_
    refine pw_putGi (i := 29) (ps := 1) (x := 0) e_Bus_bus_22 fp_Bus_13 hnd (bs_x _ _ _ _ _) rfl (Nat.le_of_ble_eq_true rfl) rfl rfl (fun _ _ => rfl) ?_
    obtain ⟨Wa, Fa⟩ := W.put hnd (Z' := u2 Z 507 1 0) (fun k hk => u2_k (by omega))
    generalize ov h (gO (bsL g A S P Y) (u2 Z 507 1 0)) = h1 at Wa Fa ⊢
    refine pw_aload_n e_Bus_bus_25 rfl ?_
    refine pw_getf e_Bus_bus_26 fl_Bus_30 (Wa.1.at (i := 29) rfl) rfl ?_
    refine pw_aload_n e_Bus_bus_29 rfl ?_
    refine pw_getf e_Bus_bus_30 fl_Bus_9 (Wa.1.at (i := 29) rfl) rfl ?_
    refine pw_iload_n e_Bus_bus_33 rfl ?_
    have z506 : u2 Z 507 1 0 506 = Z 506 := u2_k (by decide)
    have qr := q_Reader_readText hst hnd Wa.1 n hn
    rw [z506] at qr
    refine pw_detV (As := [.ref (A 506), .int (nI n)]) e_Bus_bus_34 li_Bus_90 rfl (Wa.1.at (i := 65) rfl) qr rfl (by decide) (Nat.le_of_ble_eq_true rfl) rfl ?_
    have hrd := rd_In (W := (f_Reader_readText_5 (Z 506) n Y).2) hnd Wa.1
    obtain ⟨Wb, Fb⟩ := Wa.mv hrd (fun x => by rw [bsA_1]) (fun x hx => ov_none (fun c => hx (by
      rw [gO_fst, rd_gK (S := S) (P := P) (Y := Y)] at c
      obtain ⟨j, -, hj⟩ := List.mem_filterMap.mp c
      rw [bs_gK] at hj
      exact List.mem_of_getElem? hj))) (fun _ _ => rfl) (fun x hx => hrd.dom x (by rw [bs_gK, bsA_1]; exact hx))
    have Fab := Fa.trans Fb
    clear hrd qr Fa Fb
    generalize ov h1 (gO (rdB g A) (f_Reader_readText_5 (Z 506) n Y).2) = h2 at Wb Fab ⊢
    have hndA : (bsA A).Nodup := by rw [bs_gK] at hnd; exact hnd
    have hndb : (gK (bsL g (A1 A) S P (Y1 (bsF Z Y n).2 Y))).Nodup := by rw [bs_gK, bsA_1]; exact hndA
    change Wld g (A1 A) S P (Y1 (bsF Z Y n).2 Y) (u2 Z 507 1 0) h2 at Wb
    show PW g M_Bus_bus 10 0 0 (BusQ g A S P Y Z h (nI n)) 37 [.ref (A 507), .int (nI n), .retAddr 0] [.int (bsF Z Y n).1] h2
    have fin : ∀ o h', ((¬ (bsF Z Y n).1 = 0 ∧ o = .inl (some (.int (bsF Z Y n).1)) ∧ Wld g (A1 A) S P (Y1 (bsF Z Y n).2 Y) (bsN Z Y n) h' ∧ CFr A S h S h') ∨ ((bsF Z Y n).1 = 0 ∧ o = .inl (some (.int 0)) ∧ Wld g (A2 A) S (bsP Z Y n) (Y2 (bsF Z Y n).2 Y P) (f_Bus_bus_99 (bsP Z Y n) (nI n) (bsZ Z Y n)).2 h' ∧ CFr A S h S h')) → BusQ g A S P Y Z h (nI n) o h' := fun o h' q => Or.inr ⟨n, rfl, hn, hx1, q⟩
    have hQ' := hQ n hn hx1
    generalize BusQ g A S P Y Z h (nI n) = QQ at fin ⊢
    refine pw_istore_n (ls2 := [_, _, _]) e_Bus_bus_37 (by decide) rfl ?_
    refine pw_aload_n e_Bus_bus_38 rfl ?_
    refine pw_aload_n e_Bus_bus_39 rfl ?_
    refine pw_getf e_Bus_bus_40 fl_Bus_30 (Wb.1.at (i := 29) rfl) rfl ?_
    refine pw_getf e_Bus_bus_43 fl_Bus_94 (Wb.1.at (i := 65) rfl) rfl ?_
    rw [← ov_self Wb.1]
    refine pw_putGi (i := 29) (ps := 2) (x := Y1 (bsF Z Y n).2 Y 40 0) e_Bus_bus_46 fp_Bus_17 hndb (bs_x _ _ _ _ _) rfl (Nat.le_of_ble_eq_true rfl) rfl rfl (fun _ _ => rfl) ?_
    change PW g M_Bus_bus 10 0 0 QQ 49 [.ref (A 507), .int (nI n), .int (bsF Z Y n).1] [] (ov h2 (gO (bsL g (A1 A) S P (Y1 (bsF Z Y n).2 Y)) (bsZ Z Y n)))
    obtain ⟨Wc, Fc⟩ := Wb.put hndb (Z' := bsZ Z Y n) (fun k hk => u2_k (by omega))
    have Fac : CFr A S h S _ := Fab.trans Fc
    refine pw_iload_n e_Bus_bus_49 rfl ?_
    refine pw_if_eq (tgt := 68) e_Bus_bus_50 (by decide) (fun (hz : (bsF Z Y n).1 = 0) => ?_) (fun (hz : ¬ (bsF Z Y n).1 = 0) => ?_)
    rotate_left
    · refine pw_aload_n e_Bus_bus_53 rfl ?_
      refine pw_getf e_Bus_bus_54 fl_Bus_37 (gO_get hndb (i := 29) rfl) rfl ?_
      refine pw_getf e_Bus_bus_57 fl_Bus_97 (gO_get hndb (i := 31) rfl) rfl ?_
      refine pw_iconst (v := nI 0) e_Bus_bus_60 (by decide) ?_
      refine pw_dup2 e_Bus_bus_61 rfl rfl ?_
      refine pw_ialdN e_Bus_bus_62 (gO_get hndb (i := 40) rfl) (by decide) (by decide) ?_
      refine pw_iconst (v := nI 1) e_Bus_bus_63 (by decide) ?_
      refine pw_iadd e_Bus_bus_64 ?_
      refine pw_iastG (i := 40) e_Bus_bus_65 hndb (bs_x _ _ _ _ _) rfl (by decide) (by decide) ?_
      refine pw_iload_n e_Bus_bus_66 rfl ?_
      refine pw_iret e_Bus_bus_67 rfl rfl ?_
      obtain ⟨Wd, Fd⟩ := Wb.put hndb (Z' := bsN Z Y n) (fun k hk => (u2_k (by omega)).trans (u2_k (by omega)))
      exact fin _ _ (Or.inl ⟨hz, rfl, Wd, Fab.trans Fd⟩)
    · generalize ov h2 (gO (bsL g (A1 A) S P (Y1 (bsF Z Y n).2 Y)) (bsZ Z Y n)) = h3 at Wc Fac ⊢
      refine pw_aload_n e_Bus_bus_68 rfl ?_
      refine pw_aload_n e_Bus_bus_69 rfl ?_
      refine pw_getf e_Bus_bus_70 fl_Bus_30 (Wc.1.at (i := 29) rfl) rfl ?_
      refine pw_aload_n e_Bus_bus_73 rfl ?_
      refine pw_getf e_Bus_bus_74 fl_Bus_23 (Wc.1.at (i := 29) rfl) rfl ?_
      refine pw_detV (As := [.ref (A 30)]) e_Bus_bus_77 li_Bus_100 rfl (Wc.1.at (i := 65) rfl) (q_Reader_changePlan (R := Y1 (bsF Z Y n).2 Y 40) hst (Wc.1.at (i := 65) rfl)) rfl (by decide) (Nat.le_of_ble_eq_true rfl) rfl ?_
      refine pw_putf e_Bus_bus_80 fp_Bus_23 (up_ne (gK_ne hndb (i := 29) (j := 65) rfl rfl (by decide)) (Wc.1.at (i := 29) rfl)) (Nat.le_of_ble_eq_true rfl) rfl rfl ?_
      have hsw := sw_In hndb Wc.1
      have m140 : A 140 ∈ bsA A := List.mem_of_getElem? (i := 65) rfl
      have m507 : A 507 ∈ bsA A := List.mem_of_getElem? (i := 29) rfl
      obtain ⟨Wd, Fd⟩ := Wc.mv hsw (fun x => by rw [bsA_1]; exact bsA_m) (fun x hx => by
        rw [bsA_1] at hx
        rw [up_ne (fun c => hx (by rw [c]; exact m507)) rfl, up_ne (fun c => hx (by rw [c]; exact m140)) rfl]) (fun _ _ => rfl) (fun x hx => hsw.dom x (by rw [bs_gK]; exact bsA_m.mpr hx))
      have Fad := Fac.trans (show CFr A S h3 S _ from Fd)
      have hndd : (gK (bsL g (A2 A) S (Y1 (bsF Z Y n).2 Y) (Y2 (bsF Z Y n).2 Y P))).Nodup := by rw [bs_gK]; exact bsA_nd hndA
      clear hsw Fd
      have lkx := Wd.1.at (i := 29) rfl
      have lk0 := Wd.1.at (i := 0) rfl
      have hwq := hQ' hz
      have ql := q_Layout_lay (bd := A2 A) (ad := A2 A) hst (ly_nd hndd) (ly_pl0 hndd Wd.1) hwq.1 (-1) 0 (Y1 (bsF Z Y n).2 Y) (ly_in Wd.1)
      have hly := ly_In hndd Wd.1
      have lk3 := Wd.1.at (i := 3) rfl
      refine (show PW g M_Bus_bus 10 0 0 QQ 83 [.ref (A 507), .int (nI n), .int (bsF Z Y n).1] [] _ from ?_)
      refine pw_aload_n e_Bus_bus_83 rfl ?_
      refine pw_getf e_Bus_bus_84 fl_Bus_23 lkx rfl ?_
      refine pw_getf e_Bus_bus_87 fl_Bus_104 lk0 rfl ?_
      refine pw_aload_n e_Bus_bus_90 rfl ?_
      refine pw_getf e_Bus_bus_91 fl_Bus_23 lkx rfl ?_
      refine pw_iconst (v := (-1)) e_Bus_bus_94 (by decide) ?_
      refine pw_iconst (v := nI 0) e_Bus_bus_95 (by decide) ?_
      refine pw_detV (As := [.ref (A2 A 30), .int (-1), .int (nI 0)]) e_Bus_bus_96 li_Bus_107 rfl lk3 ql rfl (by decide) (Nat.le_of_ble_eq_true rfl) rfl ?_
      have hnde : (gK (bsL g (A2 A) S (bsP Z Y n) (Y2 (bsF Z Y n).2 Y P))).Nodup := by rw [bs_gK] at hndd ⊢; exact hndd
      obtain ⟨We, Fe⟩ := Wd.mv hly (fun _ => Iff.rfl) (fun x hx => ov_none (fun c => hx (by
        rw [gO_fst, ly_gK (S := S) (P := P) (Y := Y)] at c
        obtain ⟨j, -, hj⟩ := List.mem_filterMap.mp c
        rw [bs_gK] at hj
        exact List.mem_of_getElem? hj))) (fun _ _ => rfl) (fun x hx => hly.dom x hx)
      have Fae : CFr A S h S _ := Fad.trans ⟨Fe.1, fun x e q hX hc => Fe.2.1 x e q (fun z => hX (bsA_m.mp z)) hc, Fe.2.2⟩
      clear hly ql
      refine (show PW g M_Bus_bus 10 0 0 QQ 99 [.ref (A 507), .int (nI n), .int (bsF Z Y n).1] [] _ from ?_)
      rw [← ov_self We.1]
      refine pw_fgt (ls' := [.ref (A 507), .int (nI n), .retAddr 0]) ⟨Or.inr rfl, Or.inr rfl, Or.inl rfl, trivial⟩ ?_
      refine w_Bus_bus_99 (A := A2 A) (P := bsP Z Y n) (Y := Y2 (bsF Z Y n).2 Y P) hst hnde hwq.2 (nI n) (bsZ Z Y n) ?_
      obtain ⟨Wf, Ff⟩ := We.put hnde (Z' := (f_Bus_bus_99 (bsP Z Y n) (nI n) (bsZ Z Y n)).2) (fun k hk => k_99 hk)
      refine fin _ _ (Or.inr ⟨hz, rfl, Wf, Fae.trans ⟨Ff.1, fun x e q hX hc => Ff.2.1 x e q (fun z => hX (bsA_m.mp z)) hc, Ff.2.2⟩⟩)
end
