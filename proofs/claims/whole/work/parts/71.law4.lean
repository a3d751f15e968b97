/-! the law: loop and start (written by wip/whole/c_law4.py) -/
/-- what the two sides owe each other, in all -/
def EqAll (Rel : RT) : Prop := EqOk Rel ∧ E_feed Rel ∧ E_bus Rel ∧ E_fault Rel ∧ E_count Rel ∧ E_block Rel ∧ E_link Rel ∧ E_plant Rel ∧ E_target Rel ∧ E_hand Rel ∧ E_power Rel ∧ E_broken Rel ∧ E_cycles Rel ∧ E_undo Rel ∧ E_then Rel ∧ E_first Rel ∧ E_jump Rel ∧ E_lost Rel ∧ E_toRide Rel ∧ E_toTune Rel ∧ E_slack Rel ∧ E_note Rel ∧ E_fits Rel ∧ E_look Rel ∧ E_forget Rel ∧ E_years Rel ∧ E_image Rel ∧ E_restore Rel
theorem scr_le {n i : Nat} (hn : n ≤ 3072) (hi : i ≤ 3078) (c : ¬ Int32.ofNat n - nI 6 < nI i) : i + 6 ≤ n := by
  rw [i_lt, Int32.toInt_sub, show (Int32.ofNat n).toInt = (n : Int) from nI_toInt (n := n) (by omega), nI_toInt (by decide), nI_toInt (by omega), Int.bmod_eq_of_le (by omega) (by omega)] at c
  omega
set_option maxRecDepth 4000 in
theorem law_23 {g : GG} {Q : QT} {a b o : Nat} {Rel : RT} (hst : (gl g).stackTraces = false) (E : EqAll Rel) (hN : gsl g ≤ 3072) (hQ : ∀ h, Q (.inl (some (.int 1))) h) : ∀ (n i : Nat) (h : Hp), gsl g < i + 6 * n + 6 → i ≤ 3078 → LwI Rel g a b o h → PW g M_law 12 (82 * n) (9266 * n) Q 23 [.ref (gsa g), .ref a, .ref b, .ref o, .int (nI i), .retAddr 0, .retAddr 0] [] h := by
  intro n
  induction n with
  | zero =>
    intro i h hlt hi I
    refine pw_iload e_law_23 rfl ?_
    refine pw_aload_n e_law_25 rfl ?_
    refine pw_slen e_law_26 ?_
    refine pw_bipush (v := nI 6) e_law_27 (by decide) ?_
    refine pw_isub e_law_29 ?_
    refine pw_icmp_gt (tgt := 1444) e_law_30 (by decide) (fun _ => ?_) (fun c => absurd (scr_le hN hi c) (by omega))
    exact pw_iconst (v := 1) e_law_1444 (by decide) (pw_iret e_law_1445 rfl rfl (hQ _))
  | succ n ih =>
    intro i h hlt hi I
    refine pw_iload e_law_23 rfl ?_
    refine pw_aload_n e_law_25 rfl ?_
    refine pw_slen e_law_26 ?_
    refine pw_bipush (v := nI 6) e_law_27 (by decide) ?_
    refine pw_isub e_law_29 ?_
    refine pw_icmp_gt (tgt := 1444) e_law_30 (by decide) (fun _ => ?_) (fun c => ?_)
    · exact pw_iconst (v := 1) e_law_1444 (by decide) (pw_iret e_law_1445 rfl rfl (hQ _))
    have hle := scr_le hN hi c
    refine pw_aload_n e_law_33 rfl ?_
    refine pw_iload e_law_34 rfl ?_
    refine pw_sld e_law_36 (vp_in_nI (by omega) (by omega)) ?_
    refine pw_bipush (v := nI 31) e_law_37 (by decide) ?_
    refine pw_iand e_law_39 ?_
    generalize (gsx g (nI i).toNatClampNeg &&& nI 31) = x
    have key : ∀ h', LwI Rel g a b o h' → PW g M_law 12 (82 * n) (9266 * n) Q 1438 [.ref (gsa g), .ref a, .ref b, .ref o, .int (nI i), .retAddr 0, .retAddr 0] [] h' := fun h' I' =>
      pw_iinc (v := nI (i + 6)) (ls2 := [.ref (gsa g), .ref a, .ref b, .ref o, .int (nI (i + 6)), .retAddr 0, .retAddr 0]) e_law_1438 rfl (nI_add i 6) (by decide) rfl (pw_goto (tgt := 23) e_law_1441 (by decide) (ih (i + 6) h' (by omega) (by omega) I'))
    by_cases c0 : x.toInt < 0 ∨ 26 < x.toInt
    · exact pw_tableOut (tgt := 1438) e_law_40 c0 (by decide) (PW.more (kc' := 82 * n) (ks' := 9266 * n) (by omega) (by omega) (key h I))
    · have cs : x.toInt = 0 ∨ x.toInt = 1 ∨ x.toInt = 2 ∨ x.toInt = 3 ∨ x.toInt = 4 ∨ x.toInt = 5 ∨ x.toInt = 6 ∨ x.toInt = 7 ∨ x.toInt = 8 ∨ x.toInt = 9 ∨ x.toInt = 10 ∨ x.toInt = 11 ∨ x.toInt = 12 ∨ x.toInt = 13 ∨ x.toInt = 14 ∨ x.toInt = 15 ∨ x.toInt = 16 ∨ x.toInt = 17 ∨ x.toInt = 18 ∨ x.toInt = 19 ∨ x.toInt = 20 ∨ x.toInt = 21 ∨ x.toInt = 22 ∨ x.toInt = 23 ∨ x.toInt = 24 ∨ x.toInt = 25 ∨ x.toInt = 26 := by omega
      rcases cs with hx | hx | hx | hx | hx | hx | hx | hx | hx | hx | hx | hx | hx | hx | hx | hx | hx | hx | hx | hx | hx | hx | hx | hx | hx | hx | hx
      · refine pw_tableIn (tgt := 164) e_law_40 (by omega) (by omega) (by rw [hx]; rfl) (by decide) ?_
        exact l_feed hst E.1 (E.2.1) hle hN I key
      · refine pw_tableIn (tgt := 237) e_law_40 (by omega) (by omega) (by rw [hx]; rfl) (by decide) ?_
        exact l_bus hst E.1 (E.2.2.1) hle hN I key
      · refine pw_tableIn (tgt := 293) e_law_40 (by omega) (by omega) (by rw [hx]; rfl) (by decide) ?_
        exact l_fault hst E.1 (E.2.2.2.1) hle hN I key
      · refine pw_tableIn (tgt := 306) e_law_40 (by omega) (by omega) (by rw [hx]; rfl) (by decide) ?_
        exact l_count hst E.1 (E.2.2.2.2.1) hle hN I key
      · refine pw_tableIn (tgt := 362) e_law_40 (by omega) (by omega) (by rw [hx]; rfl) (by decide) ?_
        exact l_block hst E.1 (E.2.2.2.2.2.1) hle hN I key
      · refine pw_tableIn (tgt := 430) e_law_40 (by omega) (by omega) (by rw [hx]; rfl) (by decide) ?_
        exact l_link hst E.1 (E.2.2.2.2.2.2.1) hle hN I key
      · refine pw_tableIn (tgt := 498) e_law_40 (by omega) (by omega) (by rw [hx]; rfl) (by decide) ?_
        exact l_plant hst E.1 (E.2.2.2.2.2.2.2.1) hle hN I key
      · refine pw_tableIn (tgt := 566) e_law_40 (by omega) (by omega) (by rw [hx]; rfl) (by decide) ?_
        exact l_target hst E.1 (E.2.2.2.2.2.2.2.2.1) hle hN I key
      · refine pw_tableIn (tgt := 603) e_law_40 (by omega) (by omega) (by rw [hx]; rfl) (by decide) ?_
        exact l_hand hst E.1 (E.2.2.2.2.2.2.2.2.2.1) hle hN I key
      · refine pw_tableIn (tgt := 640) e_law_40 (by omega) (by omega) (by rw [hx]; rfl) (by decide) ?_
        exact l_power hst E.1 (E.2.2.2.2.2.2.2.2.2.2.1) hle hN I key
      · refine pw_tableIn (tgt := 693) e_law_40 (by omega) (by omega) (by rw [hx]; rfl) (by decide) ?_
        exact l_broken hst E.1 (E.2.2.2.2.2.2.2.2.2.2.2.1) hle hN I key
      · refine pw_tableIn (tgt := 746) e_law_40 (by omega) (by omega) (by rw [hx]; rfl) (by decide) ?_
        exact l_cycles hst E.1 (E.2.2.2.2.2.2.2.2.2.2.2.2.1) hle hN I key
      · refine pw_tableIn (tgt := 771) e_law_40 (by omega) (by omega) (by rw [hx]; rfl) (by decide) ?_
        exact l_undo hst E.1 (E.2.2.2.2.2.2.2.2.2.2.2.2.2.1) hle hN I key
      · refine pw_tableIn (tgt := 784) e_law_40 (by omega) (by omega) (by rw [hx]; rfl) (by decide) ?_
        exact l_then hst E.1 (E.2.2.2.2.2.2.2.2.2.2.2.2.2.2.1) hle hN I key
      · refine pw_tableIn (tgt := 864) e_law_40 (by omega) (by omega) (by rw [hx]; rfl) (by decide) ?_
        exact l_first hst E.1 (E.2.2.2.2.2.2.2.2.2.2.2.2.2.2.2.1) hle hN I key
      · refine pw_tableIn (tgt := 920) e_law_40 (by omega) (by omega) (by rw [hx]; rfl) (by decide) ?_
        exact l_jump hst E.1 (E.2.2.2.2.2.2.2.2.2.2.2.2.2.2.2.2.1) hle hN I key
      · refine pw_tableIn (tgt := 988) e_law_40 (by omega) (by omega) (by rw [hx]; rfl) (by decide) ?_
        exact l_lost hst E.1 (E.2.2.2.2.2.2.2.2.2.2.2.2.2.2.2.2.2.1) hle hN I key
      · refine pw_tableIn (tgt := 1056) e_law_40 (by omega) (by omega) (by rw [hx]; rfl) (by decide) ?_
        exact l_toRide hst E.1 (E.2.2.2.2.2.2.2.2.2.2.2.2.2.2.2.2.2.2.1) hle hN I key
      · refine pw_tableIn (tgt := 1069) e_law_40 (by omega) (by omega) (by rw [hx]; rfl) (by decide) ?_
        exact l_toTune hst E.1 (E.2.2.2.2.2.2.2.2.2.2.2.2.2.2.2.2.2.2.2.1) hle hN I key
      · refine pw_tableIn (tgt := 1149) e_law_40 (by omega) (by omega) (by rw [hx]; rfl) (by decide) ?_
        exact l_slack hst E.1 (E.2.2.2.2.2.2.2.2.2.2.2.2.2.2.2.2.2.2.2.2.1) hle hN I key
      · refine pw_tableIn (tgt := 1205) e_law_40 (by omega) (by omega) (by rw [hx]; rfl) (by decide) ?_
        exact l_note hst E.1 (E.2.2.2.2.2.2.2.2.2.2.2.2.2.2.2.2.2.2.2.2.2.1) hle hN I key
      · refine pw_tableIn (tgt := 1254) e_law_40 (by omega) (by omega) (by rw [hx]; rfl) (by decide) ?_
        exact l_fits hst E.1 (E.2.2.2.2.2.2.2.2.2.2.2.2.2.2.2.2.2.2.2.2.2.2.1) hle hN I key
      · refine pw_tableIn (tgt := 1267) e_law_40 (by omega) (by omega) (by rw [hx]; rfl) (by decide) ?_
        exact l_look hst E.1 (E.2.2.2.2.2.2.2.2.2.2.2.2.2.2.2.2.2.2.2.2.2.2.2.1) hle hN I key
      · refine pw_tableIn (tgt := 1323) e_law_40 (by omega) (by omega) (by rw [hx]; rfl) (by decide) ?_
        exact l_forget hst E.1 (E.2.2.2.2.2.2.2.2.2.2.2.2.2.2.2.2.2.2.2.2.2.2.2.2.1) hle hN I key
      · refine pw_tableIn (tgt := 1334) e_law_40 (by omega) (by omega) (by rw [hx]; rfl) (by decide) ?_
        exact l_years hst E.1 (E.2.2.2.2.2.2.2.2.2.2.2.2.2.2.2.2.2.2.2.2.2.2.2.2.2.1) hle hN I key
      · refine pw_tableIn (tgt := 1414) e_law_40 (by omega) (by omega) (by rw [hx]; rfl) (by decide) ?_
        exact l_image hst E.1 (E.2.2.2.2.2.2.2.2.2.2.2.2.2.2.2.2.2.2.2.2.2.2.2.2.2.2.1) hle hN I key
      · refine pw_tableIn (tgt := 1425) e_law_40 (by omega) (by omega) (by rw [hx]; rfl) (by decide) ?_
        exact l_restore hst E.1 (E.2.2.2.2.2.2.2.2.2.2.2.2.2.2.2.2.2.2.2.2.2.2.2.2.2.2.2) hle hN I key
theorem LWd.start {g : GG} {h1 : Hp} {A B : Nat → Nat} {b o : Nat} {ob : va_E} (hW : Wld g A S00 P00 Y00 C0M h1) (nA : (bsA A).Nodup) (nB : (gK (moL g B)).Nodup) (eb : B 100 = b) (hb : ∀ e, h1 b ≠ some e) (hB : ∀ x ∈ (gK (moL g B)).tail, ∀ e, va_up h1 b (some ob) x ≠ some e) (ho : ∀ e, ov (va_up h1 b (some ob)) (gO (moL g B) Z0M) o ≠ some e) (f : Nat → Int64) : LWd g A B o f S00 P00 Y00 C0M Z0M (va_up (ov (va_up h1 b (some ob)) (gO (moL g B) Z0M)) o (some (aL g f))) := by
  have fr : ∀ x ∈ gK (moL g B), ∀ e, h1 x ≠ some e := by
    intro x hx e he
    have hx' : x = B 100 ∨ x ∈ (gK (moL g B)).tail := List.mem_cons.mp hx
    rcases hx' with c | c
    · exact hb e (by rw [← eb, ← c]; exact he)
    · by_cases cb : x = b
      · exact hb e (by rw [← cb]; exact he)
      · exact hB x c e (up_ne cb he)
  have ib : ∀ x ∈ bsA A, x ≠ b ∧ x ∉ gK (moL g B) := fun x hx => by
    obtain ⟨e, he⟩ := hW.dom x hx
    exact ⟨fun c => hb e (by rw [← c]; exact he), fun c => fr x c e he⟩
  have e1 : ∀ x ∈ bsA A, ov (va_up h1 b (some ob)) (gO (moL g B) Z0M) x = h1 x := fun x hx => by
    rw [ov_none (by rw [gO_fst]; exact (ib x hx).2)]; exact up_ne (ib x hx).1 rfl
  have W1 : Wld g A S00 P00 Y00 C0M (ov (va_up h1 b (some ob)) (gO (moL g B) Z0M)) := hW.cg e1 (fun m p q c hm z => by cases z)
  have oA : ∀ x ∈ bsA A, x ≠ o := fun x hx c => by
    obtain ⟨e, he⟩ := W1.dom x hx
    exact ho e (by rw [← c]; exact he)
  have oB : o ∉ gK (moL g B) := fun c => by
    obtain ⟨e, he⟩ := ov_some (h := va_up h1 b (some ob)) (l := gO (moL g B) Z0M) (q := o) (by rw [gO_fst]; exact c)
    exact ho e he
  refine ⟨W1.cg (fun x hx => up_ne (oA x hx) rfl) (fun m p q c hm z => by cases z), fun q hq => ?_, up_same, nA, nB, fun x hx => ⟨oA x hx, (ib x hx).2⟩, oB, fun m p q c hm z => by cases z⟩
  refine up_ne (fun e => oB ?_) (gO_in nB (fun _ z => z) q hq)
  rw [← e, ← gO_fst _ Z0M]; exact List.mem_map.mpr ⟨q, hq, rfl⟩
/-- the law's own walk: from an empty world to its answer -/
theorem law_0 {g : GG} {Q : QT} {Rel : RT} (hst : (gl g).stackTraces = false) (E : EqAll Rel) (hR : Rel S00 P00 Y00 C0M Z0M) (hN : gsl g ≤ 3072) (hQ : ∀ h, Q (.inl (some (.int 1))) h) : PW g M_law 12 601024 7293033 Q 0 [.ref (gsa g), .retAddr 0, .retAddr 0, .retAddr 0, .retAddr 0, .retAddr 0, .retAddr 0] [] (fun _ => none) := by
  refine PW.more (kc' := 82 * 512 + 1 + 42 + 1 + 95 + 1) (ks' := 9266 * 512 + 1 + 20327 + 76 + 2636 + 13) (by decide) (by decide) ?_
  refine pw_new (ci := 10) (N := 13) (fs := [.null, .int 0, .int 0, .null, .null, .null, .null, .int 0, .null, .null, .null, .null, .null]) e_law_0 rfl i_Bus t_Bus_ok cl_Law_8 in_Bus ini_Bus (by decide +kernel) (fun a ha => ?_)
  refine pw_dup e_law_3 rfl ?_
  refine pw_callI (kc' := 95) (ks' := 2636) (As := []) e_law_4 li_Law_55 (q_Bus_init hst up_same) rfl (by decide) (Nat.le_of_ble_eq_true rfl) (fun E h' q => absurd q.1 (by simp)) (fun v h1 q => ?_)
  obtain ⟨hv, A, rfl, nA, fA, hW, kA⟩ := q
  cases hv
  refine pw_astore_n (ls2 := [_, .ref (A 507), _, _, _, _, _]) e_law_7 (by decide) rfl ?_
  refine pw_new (ci := 11) (N := 76) (fs := [.null, .null, .null, .null, .null, .null, .null, .null, .null, .null, .null, .null, .null, .null, .null, .null, .null, .null, .int 0, .int 0, .int 0, .int 0, .int 0, .int 0, .int 0, .int 0, .int 0, .int 0, .int 0, .int 0, .int 0, .null, .int 0, .int 0, .null, .null, .null, .null, .null, .null, .null, .null, .int 0, .int 0, .int 0, .int 0, .int 0, .int 0, .int 0, .int 0, .int 0, .int 0, .int 0, .null, .null, .null, .null, .null, .null, .null, .null, .null, .null, .null, .null, .null, .int 0, .int 0, .int 0, .int 0, .int 0, .int 0, .int 0, .null, .null, .int 0]) e_law_8 rfl i_Mod t_Mod_ok cl_Law_56 in_Mod ini_Mod (by decide +kernel) (fun b hb => ?_)
  refine pw_dup e_law_11 rfl ?_
  refine pw_callI (kc' := 42) (ks' := 20327) (As := []) e_law_12 li_Law_58 (q_Mod_init hst up_same) rfl (by decide) (Nat.le_of_ble_eq_true rfl) (fun E h' q => absurd q.1 (by simp)) (fun v h2 q => ?_)
  obtain ⟨hv, B, eb, nB, fB, rfl⟩ := q
  cases hv
  refine pw_astore_n (ls2 := [_, .ref (A 507), .ref b, _, _, _, _]) e_law_15 (by decide) rfl ?_
  refine pw_iconst (v := nI 1) e_law_16 (by decide) ?_
  refine pw_newa (t0 := 3) (N' := 1) (a0 := (1, .inr (.inl (fun _ => 0)))) (ty := .long) e_law_17 rfl rfl ac_long (fun _ => rfl) (by decide) (by decide) (by decide) (fun o ho => ?_)
  refine pw_astore_n (ls2 := [_, .ref (A 507), .ref b, .ref o, _, _, _]) e_law_19 (by decide) rfl ?_
  refine pw_iconst (v := nI 0) e_law_20 (by decide) ?_
  refine pw_istore (ls2 := [_, .ref (A 507), .ref b, .ref o, .int (nI 0), _, _]) e_law_21 (by decide) rfl ?_
  exact law_23 (Rel := Rel) hst E hN hQ 512 0 _ (by omega) (by omega) ⟨A, B, _, S00, P00, Y00, C0M, Z0M, rfl, eb, LWd.start hW nA nB eb hb fB ho (fun _ => 0), hR⟩
