/-! the reference: bus (written by wip/whole/c_mod17.py) -/
theorem wfM.rm {Z Y : Nat → Nat → Int32} (h : wfM Z) (r : RM Z Y) : wfM Y :=
  h.of (r.2.1.1 _ (by decide)) (r.2.1.1 _ (by decide)) (r.2.1.1 _ (by decide)) (r.2.1.1 _ (by decide)) (r.2.1.1 _ (by decide)) (r.2.1.1 _ (by decide)) (r.2.1.1 _ (by decide)) (r.2.1.1 _ (by decide)) (r.2.1.1 _ (by decide)) (r.2.1.2 _ (by decide) (by decide)) (r.2.1.2 _ (by decide) (by decide)) (r.2.1.2 _ (by decide) (by decide))
theorem t60.rm {Z Y : Nat → Nat → Int32} (h : isN Z 2 60) (r : RM Z Y) : isN Y 2 60 := by
  unfold isN pN at *; rw [r.2.1.1 2 (by decide)]; exact h
/-- what is left to read while a text is read -/
noncomputable def muB (Z : Nat → Nat → Int32) : Nat := by
  classical exact if Z 100 52 = 0 ∧ ¬ Z 100 49 = 0 then pN Z 100 48 - pN Z 100 46 + 1 else 0
theorem mu_in {Z : Nat → Nat → Int32} (h0 : Z 100 52 = 0) (h1 : ¬ Z 100 49 = 0) : muB Z = pN Z 100 48 - pN Z 100 46 + 1 := by
  unfold muB; exact if_pos ⟨h0, h1⟩
theorem mu_o52 {Z : Nat → Nat → Int32} (h0 : ¬ Z 100 52 = 0) : muB Z = 0 := by
  unfold muB; exact if_neg (fun q => h0 q.1)
theorem mu_o49 {Z : Nat → Nat → Int32} (h0 : Z 100 49 = 0) : muB Z = 0 := by
  unfold muB; exact if_neg (fun q => q.2 h0)
theorem mu_lt {Z : Nat → Nat → Int32} (h : GoI Z) : muB Z < 902 := by
  have := h.2.1.2
  unfold muB
  split <;> omega
theorem mu_a {Z Y : Nat → Nat → Int32} {t : Nat} (h0 : Z 100 52 = 0) (h1 : ¬ Z 100 49 = 0) (ht : muB Z < t + 1) (H : ¬ Y 100 52 = 0) : muB Y < t := by
  rw [mu_in h0 h1] at ht; rw [mu_o52 H]; omega
theorem mu_go {Z Y : Nat → Nat → Int32} {t : Nat} (h0 : Z 100 52 = 0) (h1 : ¬ Z 100 49 = 0) (ht : muB Z < t + 1) (r : RM Z Y) : muB (s_Mod_go Y) < t := by
  rw [mu_in h0 h1] at ht
  have g := go_s r.1.1
  have e48 : pN (s_Mod_go Y) 100 48 = pN Z 100 48 := (pN_o (g.2.1.2 48 (by unfold goK; decide))).trans (pN_o r.2.2.1)
  have m := r.2.2.2
  have b := g.1.1.2
  rw [e48] at b
  rcases g.2.2.2 with q | q
  · rw [mu_o49 q]; omega
  · unfold muB
    split
    · rw [e48]; omega
    · omega
/-- rows that a text is told into -/
def RwI (Z : Nat → Nat → Int32) : Prop := (iNr (Z 53) 5 ∧ iNr (Z 54) 10 ∧ iNr (Z 55) 4 ∧ iNr (Z 56) 301) ∧ (iNr (Z 60) 10 ∧ iNr (Z 61) 10 ∧ iNr (Z 62) 3)
theorem RwI.of {Z Q : Nat → Nat → Int32} (h : RwI Z) (hk : ∀ k, 53 ≤ k → k < 63 → Q k = Z k) : RwI Q := by
  unfold RwI at *
  rw [hk 53 (by decide) (by decide), hk 54 (by decide) (by decide), hk 55 (by decide) (by decide), hk 56 (by decide) (by decide), hk 60 (by decide) (by decide), hk 61 (by decide) (by decide), hk 62 (by decide) (by decide)]
  exact h
theorem RdM.w {Z : Nat → Nat → Int32} (h : RdM Z) : RwI Z := ⟨h.2.2.1, h.2.2.2.1⟩
theorem rd_0 {Z : Nat → Nat → Int32} (g : GoI Z) (h : RwI Z) (h66 : Z 100 66 = 2) (h67 : Z 100 67 = 0) (h68 : Z 100 68 = 0) (hz : ∀ s, s < 4 → Z 63 s = -1) : RdM Z := by
  refine ⟨g, ?_⟩
  rw [h66, h67, h68]
  refine ⟨by decide, h.1, h.2, fun s hs q => absurd (hz s hs) q, fun l hl => ?_, fun _ => 0, fun l hl => ?_⟩
  · rw [show Int32.toNatClampNeg 0 = 0 by decide] at hl; omega
  · rw [show Int32.toNatClampNeg 0 = 0 by decide] at hl; omega
theorem bus_n {x : Int32} {Z : Nat → Nat → Int32} (ht : Z 100 32 = nI (pN Z 100 32) ∧ pN Z 100 32 ≤ 900) (h0 : ¬ x < 0) (h1 : ¬ Z 100 32 < x) : x = nI x.toNatClampNeg ∧ x.toNatClampNeg ≤ 900 := by
  have q : ¬ (901 : Int) ≤ x.toInt := by
    rw [ht.1, i_lt, nI_toInt (by omega)] at h1
    omega
  have h0' : ¬ x.toInt < 0 := fun q => h0 (i_lt.mpr (by rw [show (0 : Int32).toInt = 0 by decide]; exact q))
  have e : x.toNatClampNeg = x.toInt.toNat := rfl
  have e2 : x = nI x.toInt.toNat := by
    apply Int32.toInt_inj.mp
    rw [nI_toInt (by omega)]; omega
  rw [e]
  exact ⟨e2, by omega⟩
theorem goi {Z : Nat → Nat → Int32} (h : RdM Z) : GoI Z := h.1
theorem bus_st {Z : Nat → Nat → Int32} (h : RdM Z) : RM Z (u2 (f_Mod_clause1 Z) 100 72 (f_Mod_clause1 Z 100 72 + 1)) := ((rm_clause1 h).i (i := 72) (v := f_Mod_clause1 Z 100 72 + 1) (by decide) ((rm_clause1 h).1.u100 (by decide)))
def VvI (Z : Nat → Nat → Int32) : Prop := Z 100 50 = nI (pN Z 100 50) ∧ pN Z 100 50 < 100000
theorem goi_0 {Z : Nat → Nat → Int32} {n : Nat} (e0 : Z 100 46 = nI 0) (e1 : Z 100 48 = nI n) (hn : n ≤ 900) (hv : VvI Z) : GoI Z := by
  unfold GoI
  rw [pN_mk (by decide) e0, pN_mk (by omega) e1]
  exact ⟨⟨e0, Nat.zero_le _⟩, ⟨e1, hn⟩, hv⟩
theorem RwI.rt {x y : Int32} {Z : Nat → Nat → Int32} (h : RwI Z) : RwI (f_Mod_right x y Z).2 := h.of (fun k h0 h1 => rt_keep (by omega))
theorem RwI.i {i : Nat} {v : Int32} {Z : Nat → Nat → Int32} (h : RwI Z) : RwI (u2 Z 100 i v) := h.of (fun k h0 h1 => u2_k (by omega))
theorem t60.rt {x y : Int32} {Z : Nat → Nat → Int32} (h : isN Z 2 60) : isN (f_Mod_right x y Z).2 2 60 := by
  unfold isN pN at *; rw [rt_keep (by decide)]; exact h
theorem vv_rt {x y : Int32} {Z : Nat → Nat → Int32} (h : VvI Z) : VvI (f_Mod_right x y Z).2 := by
  unfold VvI pN at *; rw [rt_100 (by decide)]; exact h
theorem vv_i {i : Nat} {v : Int32} {Z : Nat → Nat → Int32} (h : VvI Z) (hi : 50 ≠ i) : VvI (u2 Z 100 i v) := by
  unfold VvI pN at *; rw [u2_i hi rfl]; exact h
def ctB (Z Y : Nat → Nat → Int32) : Prop := (∀ k, k ≠ 63 → Y k = Z k)
noncomputable def f_Mod_bus_179 (x : Int32) (Z : Nat → Nat → Int32) (n : Nat) : Int32 × (Nat → Nat → Int32) :=
  if (Z 100 52) = 0 then (0, f_Mod_becomes Z) else ((u2 Z 17 0 (((Z 17) 0) + 1)) 100 52, u2 Z 17 0 (((Z 17) 0) + 1))
set_option maxRecDepth 4000 in
theorem w_Mod_bus_179 {g : GG} {Q : QT} {h : Hp} {kc ks : Nat} (hst : (gl g).stackTraces = false) {A : Nat → Nat} (hnd : (gK (moL g A)).Nodup) (x : Int32)  (Z : Nat → Nat → Int32) (n : Nat) (hw : wfM Z) (h2 : isN Z 2 60) (hR : RdM Z) (hk : Q (.inl (some (.int (f_Mod_bus_179 x Z n).1))) (ov h (gO (moL g A) ((f_Mod_bus_179 x Z n).2)))) : PW g M_Mod_bus 6 kc ks Q 179 [.ref (A 100), .int (nI (n)), .retAddr 0] [] (ov h (gO (moL g A) Z)) := by
  refine pw_aload_n e_Mod_bus_179 rfl ?_
  refine pw_getf e_Mod_bus_180 fl_Mod_305 (gO_get hnd (i := 0) rfl) rfl ?_
  refine pw_if_eq (tgt := 201) e_Mod_bus_183 (by decide) (fun (Hq_1 : (Z 100 52) = 0) => ?_) (fun (Hq_1 : ¬ (Z 100 52) = 0) => ?_)
  · refine pw_aload_n e_Mod_bus_201 rfl ?_
    refine pw_detV (As := []) e_Mod_bus_202 li_Mod_378 rfl (gO_get hnd (i := 0) rfl) (q_Mod_becomes hst hnd Z (gO_in hnd (fun _ z => z)) hw h2 hR) rfl (by decide) (Nat.le_of_ble_eq_true rfl) rfl ?_
    refine pw_sameG hnd ?_
    refine pw_iconst (v := nI 0) e_Mod_bus_205 (by decide) ?_
    refine pw_iret e_Mod_bus_206 rfl rfl ?_
    rw [f_Mod_bus_179, if_pos Hq_1] at hk
    exact hk
  · refine pw_aload_n e_Mod_bus_186 rfl ?_
    refine pw_getf e_Mod_bus_187 fl_Mod_61 (gO_get hnd (i := 0) rfl) rfl ?_
    refine pw_iconst (v := nI 0) e_Mod_bus_190 (by decide) ?_
    refine pw_dup2 e_Mod_bus_191 rfl rfl ?_
    refine pw_ialdN e_Mod_bus_192 (gO_get hnd (i := 18) rfl) (by omega) (by decide) ?_
    refine pw_iconst (v := nI 1) e_Mod_bus_193 (by decide) ?_
    refine pw_iadd e_Mod_bus_194 ?_
    refine pw_iastG (i := 18) e_Mod_bus_195 hnd (mo_x _ _) rfl (by omega) (by decide) ?_
    refine pw_aload_n e_Mod_bus_196 rfl ?_
    refine pw_getf e_Mod_bus_197 fl_Mod_305 (gO_get hnd (i := 0) rfl) rfl ?_
    refine pw_iret e_Mod_bus_200 rfl rfl ?_
    rw [f_Mod_bus_179, if_neg Hq_1] at hk
    exact hk
noncomputable def f_Mod_bus_116 (x : Int32) : Nat → (Nat → Nat → Int32) → (Nat) → Int32 × (Nat → Nat → Int32)
  | 0, Z, _ => (0, Z)
  | t + 1, Z, n => if (Z 100 52) = 0 then if (Z 100 49) = 0 then f_Mod_bus_179 x Z n else if ((u2 (f_Mod_clause1 Z) 100 72 (((f_Mod_clause1 Z) 100 72) + 1)) 100 52) = 0 then if ((u2 (f_Mod_clause1 Z) 100 72 (((f_Mod_clause1 Z) 100 72) + 1)) 100 49) = 3 then if ((f_Mod_wants (nI 1) (nI 1) (u2 (f_Mod_clause1 Z) 100 72 (((f_Mod_clause1 Z) 100 72) + 1))).1) = 0 then f_Mod_bus_116 x t ((f_Mod_wants (nI 1) (nI 1) (u2 (f_Mod_clause1 Z) 100 72 (((f_Mod_clause1 Z) 100 72) + 1))).2) n else f_Mod_bus_116 x t (s_Mod_go ((f_Mod_wants (nI 1) (nI 1) (u2 (f_Mod_clause1 Z) 100 72 (((f_Mod_clause1 Z) 100 72) + 1))).2)) n else f_Mod_bus_116 x t ((f_Mod_wants (nI 0) (nI 1) (u2 (f_Mod_clause1 Z) 100 72 (((f_Mod_clause1 Z) 100 72) + 1))).2) n else f_Mod_bus_116 x t (u2 (f_Mod_clause1 Z) 100 72 (((f_Mod_clause1 Z) 100 72) + 1)) n else f_Mod_bus_179 x Z n
set_option maxRecDepth 4000 in
theorem w_Mod_bus_116 {g : GG} {Q : QT} {h : Hp} {kc ks : Nat} (hst : (gl g).stackTraces = false) {A : Nat → Nat} (hnd : (gK (moL g A)).Nodup) (x : Int32)  (t : Nat) : ∀ (Z : Nat → Nat → Int32) (n : Nat) (hw : wfM Z) (h2 : isN Z 2 60) (hR : RdM Z) (hlt : muB Z < t) (hk : Q (.inl (some (.int (f_Mod_bus_116 x t Z n).1))) (ov h (gO (moL g A) ((f_Mod_bus_116 x t Z n).2)))), PW g M_Mod_bus 6 kc ks Q 116 [.ref (A 100), .int (nI (n)), .retAddr 0] [] (ov h (gO (moL g A) Z)) := by
  induction t with
  | zero => intro Z n hw h2 hR hlt _; exact absurd hlt (Nat.not_lt_zero _)
  | succ t ih =>
    intro Z n hw h2 hR hlt hk
    refine pw_aload_n e_Mod_bus_116 rfl ?_
    refine pw_getf e_Mod_bus_117 fl_Mod_305 (gO_get hnd (i := 0) rfl) rfl ?_
    refine pw_if_ne (tgt := 179) e_Mod_bus_120 (by decide) (fun (Hq_1 : ¬ (Z 100 52) = 0) => ?_) (fun (Hq_1 : (Z 100 52) = 0) => ?_)
    · refine w_Mod_bus_179 hst hnd x Z n hw h2 hR ?_
      rw [f_Mod_bus_116, if_neg Hq_1] at hk
      exact hk
    · refine pw_aload_n e_Mod_bus_123 rfl ?_
      refine pw_getf e_Mod_bus_124 fl_Mod_295 (gO_get hnd (i := 0) rfl) rfl ?_
      refine pw_if_eq (tgt := 179) e_Mod_bus_127 (by decide) (fun (Hq_2 : (Z 100 49) = 0) => ?_) (fun (Hq_2 : ¬ (Z 100 49) = 0) => ?_)
      · refine w_Mod_bus_179 hst hnd x Z n hw h2 hR ?_
        rw [f_Mod_bus_116, if_pos Hq_1, if_pos Hq_2] at hk
        exact hk
      · refine pw_aload_n e_Mod_bus_130 rfl ?_
        refine pw_detV (As := []) e_Mod_bus_131 li_Mod_375 rfl (gO_get hnd (i := 0) rfl) (q_Mod_clause1 hst hnd Z (gO_in hnd (fun _ z => z)) hR.1 hR.2.1.2.1 hR.2.1.2.2) rfl (by decide) (Nat.le_of_ble_eq_true rfl) rfl ?_
        refine pw_sameG hnd ?_
        refine pw_aload_n e_Mod_bus_134 rfl ?_
        refine pw_dup e_Mod_bus_135 rfl ?_
        refine pw_getf e_Mod_bus_136 fl_Mod_366 (gO_get hnd (i := 0) rfl) rfl ?_
        refine pw_iconst (v := nI 1) e_Mod_bus_139 (by decide) ?_
        refine pw_iadd e_Mod_bus_140 ?_
        refine pw_putGi (i := 0) (ps := 72) (x := ((f_Mod_clause1 Z) 100 72) + 1) e_Mod_bus_141 fp_Mod_366 hnd (mo_x _ _) rfl (Nat.le_of_ble_eq_true rfl) rfl rfl (fun _ _ => rfl) ?_
        refine pw_aload_n e_Mod_bus_144 rfl ?_
        refine pw_getf e_Mod_bus_145 fl_Mod_305 (gO_get hnd (i := 0) rfl) rfl ?_
        refine pw_if_ne (tgt := 116) e_Mod_bus_148 (by decide) (fun (Hq_3 : ¬ ((u2 (f_Mod_clause1 Z) 100 72 (((f_Mod_clause1 Z) 100 72) + 1)) 100 52) = 0) => ?_) (fun (Hq_3 : ((u2 (f_Mod_clause1 Z) 100 72 (((f_Mod_clause1 Z) 100 72) + 1)) 100 52) = 0) => ?_)
        · refine ih (u2 (f_Mod_clause1 Z) 100 72 (((f_Mod_clause1 Z) 100 72) + 1)) n (hw.rm (show RM Z _ by (first | exact bus_st hR | exact (bus_st hR).rw (RW.wt (RW.self (bus_st hR).1.1)) | exact ((bus_st hR).rw (RW.wt (RW.self (bus_st hR).1.1))).rw (RW.go (RW.self ((bus_st hR).rw (RW.wt (RW.self (bus_st hR).1.1))).1.1))))) (t60.rm h2 (show RM Z _ by (first | exact bus_st hR | exact (bus_st hR).rw (RW.wt (RW.self (bus_st hR).1.1)) | exact ((bus_st hR).rw (RW.wt (RW.self (bus_st hR).1.1))).rw (RW.go (RW.self ((bus_st hR).rw (RW.wt (RW.self (bus_st hR).1.1))).1.1))))) ((show RM Z _ by (first | exact bus_st hR | exact (bus_st hR).rw (RW.wt (RW.self (bus_st hR).1.1)) | exact ((bus_st hR).rw (RW.wt (RW.self (bus_st hR).1.1))).rw (RW.go (RW.self ((bus_st hR).rw (RW.wt (RW.self (bus_st hR).1.1))).1.1))))).1 (by first | exact mu_a Hq_1 Hq_2 hlt (by assumption) | exact mu_a Hq_1 Hq_2 hlt (wt_0 (by decide) (by assumption)) | exact mu_a Hq_1 Hq_2 hlt (wt_n (by decide)) | exact mu_go Hq_1 Hq_2 hlt ((bus_st hR).rw (RW.wt (RW.self (bus_st hR).1.1)))) ?_
          rw [f_Mod_bus_116, if_pos Hq_1, if_neg Hq_2, if_neg Hq_3] at hk
          exact hk
        · refine pw_aload_n e_Mod_bus_151 rfl ?_
          refine pw_aload_n e_Mod_bus_152 rfl ?_
          refine pw_getf e_Mod_bus_153 fl_Mod_295 (gO_get hnd (i := 0) rfl) rfl ?_
          refine pw_iconst (v := nI 3) e_Mod_bus_156 (by decide) ?_
          refine pw_icmp_ne (tgt := 164) e_Mod_bus_157 (by decide) (fun (Hq_4 : ¬ ((u2 (f_Mod_clause1 Z) 100 72 (((f_Mod_clause1 Z) 100 72) + 1)) 100 49) = 3) => ?_) (fun (Hq_4 : ((u2 (f_Mod_clause1 Z) 100 72 (((f_Mod_clause1 Z) 100 72) + 1)) 100 49) = 3) => ?_)
          · refine pw_iconst (v := nI 0) e_Mod_bus_164 (by decide) ?_
            refine pw_iconst (v := nI 1) e_Mod_bus_165 (by decide) ?_
            refine pw_detV (As := [.int (nI (0)), .int (nI (1))]) e_Mod_bus_166 li_Mod_308 rfl (gO_get hnd (i := 0) rfl) (q_Mod_wants hst hnd (nI 0) (nI 1) (u2 (f_Mod_clause1 Z) 100 72 (((f_Mod_clause1 Z) 100 72) + 1)) (gO_in hnd (fun _ z => z))) rfl (by decide) (Nat.le_of_ble_eq_true rfl) rfl ?_
            refine pw_sameG hnd ?_
            refine pw_if_eq (tgt := 116) e_Mod_bus_169 (by decide) (fun (Hq_5 : ((f_Mod_wants (nI 0) (nI 1) (u2 (f_Mod_clause1 Z) 100 72 (((f_Mod_clause1 Z) 100 72) + 1))).1) = 0) => ?_) (fun (Hq_5 : ¬ ((f_Mod_wants (nI 0) (nI 1) (u2 (f_Mod_clause1 Z) 100 72 (((f_Mod_clause1 Z) 100 72) + 1))).1) = 0) => ?_)
            · refine ih ((f_Mod_wants (nI 0) (nI 1) (u2 (f_Mod_clause1 Z) 100 72 (((f_Mod_clause1 Z) 100 72) + 1))).2) n (hw.rm (show RM Z _ by (first | exact bus_st hR | exact (bus_st hR).rw (RW.wt (RW.self (bus_st hR).1.1)) | exact ((bus_st hR).rw (RW.wt (RW.self (bus_st hR).1.1))).rw (RW.go (RW.self ((bus_st hR).rw (RW.wt (RW.self (bus_st hR).1.1))).1.1))))) (t60.rm h2 (show RM Z _ by (first | exact bus_st hR | exact (bus_st hR).rw (RW.wt (RW.self (bus_st hR).1.1)) | exact ((bus_st hR).rw (RW.wt (RW.self (bus_st hR).1.1))).rw (RW.go (RW.self ((bus_st hR).rw (RW.wt (RW.self (bus_st hR).1.1))).1.1))))) ((show RM Z _ by (first | exact bus_st hR | exact (bus_st hR).rw (RW.wt (RW.self (bus_st hR).1.1)) | exact ((bus_st hR).rw (RW.wt (RW.self (bus_st hR).1.1))).rw (RW.go (RW.self ((bus_st hR).rw (RW.wt (RW.self (bus_st hR).1.1))).1.1))))).1 (by first | exact mu_a Hq_1 Hq_2 hlt (by assumption) | exact mu_a Hq_1 Hq_2 hlt (wt_0 (by decide) (by assumption)) | exact mu_a Hq_1 Hq_2 hlt (wt_n (by decide)) | exact mu_go Hq_1 Hq_2 hlt ((bus_st hR).rw (RW.wt (RW.self (bus_st hR).1.1)))) ?_
              rw [f_Mod_bus_116, if_pos Hq_1, if_neg Hq_2, if_pos Hq_3, if_neg Hq_4] at hk
              exact hk
            · exact absurd Hq_5 (fun q => (wt_of (by decide) q).1 rfl)
          · refine pw_iconst (v := nI 1) e_Mod_bus_160 (by decide) ?_
            refine pw_goto (tgt := 165) e_Mod_bus_161 (by decide) ?_
            refine pw_iconst (v := nI 1) e_Mod_bus_165 (by decide) ?_
            refine pw_detV (As := [.int (nI (1)), .int (nI (1))]) e_Mod_bus_166 li_Mod_308 rfl (gO_get hnd (i := 0) rfl) (q_Mod_wants hst hnd (nI 1) (nI 1) (u2 (f_Mod_clause1 Z) 100 72 (((f_Mod_clause1 Z) 100 72) + 1)) (gO_in hnd (fun _ z => z))) rfl (by decide) (Nat.le_of_ble_eq_true rfl) rfl ?_
            refine pw_sameG hnd ?_
            refine pw_if_eq (tgt := 116) e_Mod_bus_169 (by decide) (fun (Hq_6 : ((f_Mod_wants (nI 1) (nI 1) (u2 (f_Mod_clause1 Z) 100 72 (((f_Mod_clause1 Z) 100 72) + 1))).1) = 0) => ?_) (fun (Hq_6 : ¬ ((f_Mod_wants (nI 1) (nI 1) (u2 (f_Mod_clause1 Z) 100 72 (((f_Mod_clause1 Z) 100 72) + 1))).1) = 0) => ?_)
            · refine ih ((f_Mod_wants (nI 1) (nI 1) (u2 (f_Mod_clause1 Z) 100 72 (((f_Mod_clause1 Z) 100 72) + 1))).2) n (hw.rm (show RM Z _ by (first | exact bus_st hR | exact (bus_st hR).rw (RW.wt (RW.self (bus_st hR).1.1)) | exact ((bus_st hR).rw (RW.wt (RW.self (bus_st hR).1.1))).rw (RW.go (RW.self ((bus_st hR).rw (RW.wt (RW.self (bus_st hR).1.1))).1.1))))) (t60.rm h2 (show RM Z _ by (first | exact bus_st hR | exact (bus_st hR).rw (RW.wt (RW.self (bus_st hR).1.1)) | exact ((bus_st hR).rw (RW.wt (RW.self (bus_st hR).1.1))).rw (RW.go (RW.self ((bus_st hR).rw (RW.wt (RW.self (bus_st hR).1.1))).1.1))))) ((show RM Z _ by (first | exact bus_st hR | exact (bus_st hR).rw (RW.wt (RW.self (bus_st hR).1.1)) | exact ((bus_st hR).rw (RW.wt (RW.self (bus_st hR).1.1))).rw (RW.go (RW.self ((bus_st hR).rw (RW.wt (RW.self (bus_st hR).1.1))).1.1))))).1 (by first | exact mu_a Hq_1 Hq_2 hlt (by assumption) | exact mu_a Hq_1 Hq_2 hlt (wt_0 (by decide) (by assumption)) | exact mu_a Hq_1 Hq_2 hlt (wt_n (by decide)) | exact mu_go Hq_1 Hq_2 hlt ((bus_st hR).rw (RW.wt (RW.self (bus_st hR).1.1)))) ?_
              rw [f_Mod_bus_116, if_pos Hq_1, if_neg Hq_2, if_pos Hq_3, if_pos Hq_4, if_pos Hq_6] at hk
              exact hk
            · refine pw_aload_n e_Mod_bus_172 rfl ?_
              refine pw_detV (As := []) e_Mod_bus_173 li_Mod_315 rfl (gO_get hnd (i := 0) rfl) (qs_Mod_go hst hnd ((f_Mod_wants (nI 1) (nI 1) (u2 (f_Mod_clause1 Z) 100 72 (((f_Mod_clause1 Z) 100 72) + 1))).2) (gO_in hnd (fun _ z => z)) (((bus_st hR).rw (RW.wt (RW.self (bus_st hR).1.1)))).1.1) rfl (by decide) (Nat.le_of_ble_eq_true rfl) rfl ?_
              refine pw_sameG hnd ?_
              refine pw_goto (tgt := 116) e_Mod_bus_176 (by decide) ?_
              refine ih (s_Mod_go ((f_Mod_wants (nI 1) (nI 1) (u2 (f_Mod_clause1 Z) 100 72 (((f_Mod_clause1 Z) 100 72) + 1))).2)) n (hw.rm (show RM Z _ by (first | exact bus_st hR | exact (bus_st hR).rw (RW.wt (RW.self (bus_st hR).1.1)) | exact ((bus_st hR).rw (RW.wt (RW.self (bus_st hR).1.1))).rw (RW.go (RW.self ((bus_st hR).rw (RW.wt (RW.self (bus_st hR).1.1))).1.1))))) (t60.rm h2 (show RM Z _ by (first | exact bus_st hR | exact (bus_st hR).rw (RW.wt (RW.self (bus_st hR).1.1)) | exact ((bus_st hR).rw (RW.wt (RW.self (bus_st hR).1.1))).rw (RW.go (RW.self ((bus_st hR).rw (RW.wt (RW.self (bus_st hR).1.1))).1.1))))) ((show RM Z _ by (first | exact bus_st hR | exact (bus_st hR).rw (RW.wt (RW.self (bus_st hR).1.1)) | exact ((bus_st hR).rw (RW.wt (RW.self (bus_st hR).1.1))).rw (RW.go (RW.self ((bus_st hR).rw (RW.wt (RW.self (bus_st hR).1.1))).1.1))))).1 (by first | exact mu_a Hq_1 Hq_2 hlt (by assumption) | exact mu_a Hq_1 Hq_2 hlt (wt_0 (by decide) (by assumption)) | exact mu_a Hq_1 Hq_2 hlt (wt_n (by decide)) | exact mu_go Hq_1 Hq_2 hlt ((bus_st hR).rw (RW.wt (RW.self (bus_st hR).1.1)))) ?_
              rw [f_Mod_bus_116, if_pos Hq_1, if_neg Hq_2, if_pos Hq_3, if_pos Hq_4, if_neg Hq_6] at hk
              exact hk
noncomputable def f_Mod_bus_112 (x : Int32) (Z : Nat → Nat → Int32) (n : Nat) : Int32 × (Nat → Nat → Int32) :=
  f_Mod_bus_116 x (fu 902) (s_Mod_go Z) n
set_option maxRecDepth 4000 in
theorem w_Mod_bus_112 {g : GG} {Q : QT} {h : Hp} {kc ks : Nat} (hst : (gl g).stackTraces = false) {A : Nat → Nat} (hnd : (gK (moL g A)).Nodup) (x : Int32)  (Z : Nat → Nat → Int32) (n : Nat) (hw : wfM Z) (h2 : isN Z 2 60) (hR : RdM Z) (hk : Q (.inl (some (.int (f_Mod_bus_112 x Z n).1))) (ov h (gO (moL g A) ((f_Mod_bus_112 x Z n).2)))) : PW g M_Mod_bus 6 kc ks Q 112 [.ref (A 100), .int (nI (n)), .retAddr 0] [] (ov h (gO (moL g A) Z)) := by
  refine pw_aload_n e_Mod_bus_112 rfl ?_
  refine pw_detV (As := []) e_Mod_bus_113 li_Mod_315 rfl (gO_get hnd (i := 0) rfl) (qs_Mod_go hst hnd Z (gO_in hnd (fun _ z => z)) (goi hR)) rfl (by decide) (Nat.le_of_ble_eq_true rfl) rfl ?_
  refine pw_sameG hnd ?_
  refine w_Mod_bus_116 hst hnd x (fu 902) (s_Mod_go Z) n (hw.rm ((RM.self hR).rw (RW.go (RW.self hR.1)))) (t60.rm h2 ((RM.self hR).rw (RW.go (RW.self hR.1)))) ((RM.self hR).rw (RW.go (RW.self hR.1))).1 (by rw [fu_eq]; exact mu_lt ((RM.self hR).rw (RW.go (RW.self hR.1))).1.1) ?_
  rw [f_Mod_bus_112] at hk
  exact hk
noncomputable def f_Mod_bus_94 (x : Int32) : Nat → (Nat → Nat → Int32) → (Nat) → (Nat) → (Nat → Nat → Int32)
  | 0, Z, _, _ => Z
  | t + 1, Z, n, s => if 4 ≤ s then Z else f_Mod_bus_94 x t (u2 Z 63 s ((-1))) n (s + 1)
set_option maxRecDepth 4000 in
theorem w_Mod_bus_94 {g : GG} {Q : QT} {h : Hp} {kc ks : Nat} (hst : (gl g).stackTraces = false) {A : Nat → Nat} (hnd : (gK (moL g A)).Nodup) (x : Int32)  (t : Nat) : ∀ (Z : Nat → Nat → Int32) (n : Nat) (s : Nat) (hw : wfM Z) (h2 : isN Z 2 60) (hI : RwI Z) (hi : (Z 100 66 = 2 ∧ Z 100 67 = 0 ∧ Z 100 68 = 0) ∧ (Z 100 46 = nI 0 ∧ Z 100 48 = nI n ∧ Z 100 52 = 0) ∧ n ≤ 900 ∧ VvI Z) (hs : s ≤ 4) (hlt : 4 - s < t) (hk : PW g M_Mod_bus 6 kc ks Q 112 [.ref (A 100), .int (nI (n)), .retAddr 0] [] (ov h (gO (moL g A) (f_Mod_bus_94 x t Z n s)))), PW g M_Mod_bus 6 kc ks Q 94 [.ref (A 100), .int (nI (n)), .int (nI (s))] [] (ov h (gO (moL g A) Z)) := by
  induction t with
  | zero => intro Z n s hw h2 hI hi hs hlt _; exact absurd hlt (Nat.not_lt_zero _)
  | succ t ih =>
    intro Z n s hw h2 hI hi hs hlt hk
    refine pw_iload_n e_Mod_bus_94 rfl ?_
    refine pw_iconst (v := nI 4) e_Mod_bus_95 (by decide) ?_
    refine pw_icmp_geN (tgt := 112) e_Mod_bus_96 (by decide) (by omega) (by omega) (fun (Hq_1 : 4 ≤ s) => ?_) (fun (Hq_1 : s < 4) => ?_)
    · refine pw_fgt (ls' := [.ref (A 100), .int (nI (n)), .retAddr 0]) ⟨Or.inr rfl, Or.inr rfl, Or.inl rfl, trivial⟩ ?_
      rw [f_Mod_bus_94, if_pos Hq_1] at hk
      exact hk
    · refine pw_aload_n e_Mod_bus_99 rfl ?_
      refine pw_getf e_Mod_bus_100 fl_Mod_138 (gO_get hnd (i := 0) rfl) rfl ?_
      refine pw_iload_n e_Mod_bus_103 rfl ?_
      refine pw_iconst (v := (-1)) e_Mod_bus_104 (by decide) ?_
      refine pw_iastG (i := 38) e_Mod_bus_105 hnd (mo_x _ _) rfl (by omega) (by decide) ?_
      refine pw_iincN (ls2 := [_, _, _]) e_Mod_bus_106 rfl (by decide) rfl ?_
      refine pw_goto (tgt := 94) e_Mod_bus_109 (by decide) ?_
      refine ih (u2 Z 63 s ((-1))) n (s + 1) (by exact wfM.uk hw (by decide)) h2 (hI.of (fun k h0 h1 => u2_k (by omega))) hi (by omega) (by omega) ?_
      rw [f_Mod_bus_94, if_neg (Nat.not_le.mpr Hq_1)] at hk
      exact hk
theorem bus_94 {x : Int32} {n : Nat} : ∀ (t : Nat) (Z : Nat → Nat → Int32) (s : Nat), s ≤ 4 → 4 - s < t → (∀ k, k ≠ 63 → f_Mod_bus_94 x t Z n s k = Z k) ∧ ∀ j, s ≤ j → j < 4 → f_Mod_bus_94 x t Z n s 63 j = -1 := by
  intro t
  induction t with
  | zero => intro Z s _ h; omega
  | succ t ih =>
    intro Z s hs ht
    rw [f_Mod_bus_94]
    by_cases c : 4 ≤ s
    · rw [if_pos c]; exact ⟨fun _ _ => rfl, fun j h1 h2 => by omega⟩
    · rw [if_neg c]
      have r := ih (u2 Z 63 s (-1)) (s + 1) (by omega) (by omega)
      refine ⟨fun k hk => (r.1 k hk).trans (u2_k hk), fun j h1 h2 => ?_⟩
      by_cases e : j = s
      · have k63 : ∀ (t : Nat) (Z : Nat → Nat → Int32) (s' : Nat), s < s' → Z 63 s = -1 → f_Mod_bus_94 x t Z n s' 63 s = -1 := by
          intro t
          induction t with
          | zero => intro Z s' _ q; exact q
          | succ t ih2 =>
            intro Z s' h q
            rw [f_Mod_bus_94]
            split
            · exact q
            · exact ih2 _ _ (by omega) ((u2_i (by omega) rfl).trans q)
        rw [e]; exact k63 _ _ _ (by omega) u2_s
      · exact r.2 j (by omega) h2
theorem bus_112 {x : Int32} {n : Nat} {Z : Nat → Nat → Int32} (hw : wfM Z) (h2 : isN Z 2 60) (hI : RwI Z) (hi : (Z 100 66 = 2 ∧ Z 100 67 = 0 ∧ Z 100 68 = 0) ∧ (Z 100 46 = nI 0 ∧ Z 100 48 = nI n ∧ Z 100 52 = 0) ∧ n ≤ 900 ∧ VvI Z) : wfM (f_Mod_bus_94 x (fu 5) Z n 0) ∧ isN (f_Mod_bus_94 x (fu 5) Z n 0) 2 60 ∧ RdM (f_Mod_bus_94 x (fu 5) Z n 0) := by
  have r := bus_94 (x := x) (n := n) (fu 5) Z 0 (Nat.zero_le _) (by rw [fu_eq]; omega)
  generalize f_Mod_bus_94 x (fu 5) Z n 0 = Y at r ⊢
  have k := r.1
  have e100 := k 100 (by decide)
  refine ⟨hw.of (k _ (by decide)) (k _ (by decide)) (k _ (by decide)) (k _ (by decide)) (k _ (by decide)) (k _ (by decide)) (k _ (by decide)) (k _ (by decide)) (k _ (by decide)) (by rw [e100]) (by rw [e100]) (by rw [e100]), by unfold isN pN at *; rw [k 2 (by decide)]; exact h2, ?_⟩
  refine rd_0 ?_ (hI.of (fun k' h0 h1 => k k' (by omega))) (by rw [e100]; exact hi.1.1) (by rw [e100]; exact hi.1.2.1) (by rw [e100]; exact hi.1.2.2) (fun s hs => r.2 s (Nat.zero_le _) hs)
  exact goi_0 (by rw [e100]; exact hi.2.1.1) (by rw [e100]; exact hi.2.1.2.1) hi.2.2.1 (by unfold VvI pN; rw [e100]; exact hi.2.2.2)
noncomputable def f_Mod_bus_32 (x : Int32) (Z : Nat → Nat → Int32) (n : Nat) : Int32 × (Nat → Nat → Int32) :=
  f_Mod_bus_112 x (f_Mod_bus_94 x (fu 5) (u2 (u2 (u2 (u2 (u2 (u2 (u2 (u2 (u2 (u2 (u2 (u2 Z 100 32 0) 100 48 (nI (n))) 100 46 0) 100 52 0) 100 33 ((-1))) 100 70 2) 100 66 2) 100 69 3) 100 72 0) 100 71 0) 100 68 0) 100 67 0) n 0) n
set_option maxRecDepth 4000 in
theorem w_Mod_bus_32 {g : GG} {Q : QT} {h : Hp} {kc ks : Nat} (hst : (gl g).stackTraces = false) {A : Nat → Nat} (hnd : (gK (moL g A)).Nodup) (x : Int32)  (Z : Nat → Nat → Int32) (n : Nat) (hw : wfM Z) (h2 : isN Z 2 60) (hI : RwI Z) (hv : VvI Z) (hn : n ≤ 900) (hk : Q (.inl (some (.int (f_Mod_bus_32 x Z n).1))) (ov h (gO (moL g A) ((f_Mod_bus_32 x Z n).2)))) : PW g M_Mod_bus 6 kc ks Q 32 [.ref (A 100), .int (nI (n)), .retAddr 0] [] (ov h (gO (moL g A) Z)) := by
  refine pw_aload_n e_Mod_bus_32 rfl ?_
  refine pw_iconst (v := nI 0) e_Mod_bus_33 (by decide) ?_
  refine pw_putGi (i := 0) (ps := 32) (x := 0) e_Mod_bus_34 fp_Mod_369 hnd (mo_x _ _) rfl (Nat.le_of_ble_eq_true rfl) rfl rfl (fun _ _ => rfl) ?_
  refine pw_aload_n e_Mod_bus_37 rfl ?_
  refine pw_iload_n e_Mod_bus_38 rfl ?_
  refine pw_putGi (i := 0) (ps := 48) (x := nI (n)) e_Mod_bus_39 fp_Mod_273 hnd (mo_x _ _) rfl (Nat.le_of_ble_eq_true rfl) rfl rfl (fun _ _ => rfl) ?_
  refine pw_aload_n e_Mod_bus_42 rfl ?_
  refine pw_iconst (v := nI 0) e_Mod_bus_43 (by decide) ?_
  refine pw_putGi (i := 0) (ps := 46) (x := 0) e_Mod_bus_44 fp_Mod_283 hnd (mo_x _ _) rfl (Nat.le_of_ble_eq_true rfl) rfl rfl (fun _ _ => rfl) ?_
  refine pw_aload_n e_Mod_bus_47 rfl ?_
  refine pw_iconst (v := nI 0) e_Mod_bus_48 (by decide) ?_
  refine pw_putGi (i := 0) (ps := 52) (x := 0) e_Mod_bus_49 fp_Mod_305 hnd (mo_x _ _) rfl (Nat.le_of_ble_eq_true rfl) rfl rfl (fun _ _ => rfl) ?_
  refine pw_aload_n e_Mod_bus_52 rfl ?_
  refine pw_iconst (v := (-1)) e_Mod_bus_53 (by decide) ?_
  refine pw_putGi (i := 0) (ps := 33) (x := (-1)) e_Mod_bus_54 fp_Mod_77 hnd (mo_x _ _) rfl (Nat.le_of_ble_eq_true rfl) rfl rfl (fun _ _ => rfl) ?_
  refine pw_aload_n e_Mod_bus_57 rfl ?_
  refine pw_aload_n e_Mod_bus_58 rfl ?_
  refine pw_iconst (v := nI 2) e_Mod_bus_59 (by decide) ?_
  refine pw_dup_x1 e_Mod_bus_60 rfl rfl ?_
  refine pw_putGi (i := 0) (ps := 70) (x := 2) e_Mod_bus_61 fp_Mod_351 hnd (mo_x _ _) rfl (Nat.le_of_ble_eq_true rfl) rfl rfl (fun _ _ => rfl) ?_
  refine pw_putGi (i := 0) (ps := 66) (x := 2) e_Mod_bus_64 fp_Mod_321 hnd (mo_x _ _) rfl (Nat.le_of_ble_eq_true rfl) rfl rfl (fun _ _ => rfl) ?_
  refine pw_aload_n e_Mod_bus_67 rfl ?_
  refine pw_iconst (v := nI 3) e_Mod_bus_68 (by decide) ?_
  refine pw_putGi (i := 0) (ps := 69) (x := 3) e_Mod_bus_69 fp_Mod_348 hnd (mo_x _ _) rfl (Nat.le_of_ble_eq_true rfl) rfl rfl (fun _ _ => rfl) ?_
  refine pw_aload_n e_Mod_bus_72 rfl ?_
  refine pw_aload_n e_Mod_bus_73 rfl ?_
  refine pw_aload_n e_Mod_bus_74 rfl ?_
  refine pw_aload_n e_Mod_bus_75 rfl ?_
  refine pw_iconst (v := nI 0) e_Mod_bus_76 (by decide) ?_
  refine pw_dup_x1 e_Mod_bus_77 rfl rfl ?_
  refine pw_putGi (i := 0) (ps := 72) (x := 0) e_Mod_bus_78 fp_Mod_366 hnd (mo_x _ _) rfl (Nat.le_of_ble_eq_true rfl) rfl rfl (fun _ _ => rfl) ?_
  refine pw_dup_x1 e_Mod_bus_81 rfl rfl ?_
  refine pw_putGi (i := 0) (ps := 71) (x := 0) e_Mod_bus_82 fp_Mod_345 hnd (mo_x _ _) rfl (Nat.le_of_ble_eq_true rfl) rfl rfl (fun _ _ => rfl) ?_
  refine pw_dup_x1 e_Mod_bus_85 rfl rfl ?_
  refine pw_putGi (i := 0) (ps := 68) (x := 0) e_Mod_bus_86 fp_Mod_333 hnd (mo_x _ _) rfl (Nat.le_of_ble_eq_true rfl) rfl rfl (fun _ _ => rfl) ?_
  refine pw_putGi (i := 0) (ps := 67) (x := 0) e_Mod_bus_89 fp_Mod_318 hnd (mo_x _ _) rfl (Nat.le_of_ble_eq_true rfl) rfl rfl (fun _ _ => rfl) ?_
  refine pw_iconst (v := nI 0) e_Mod_bus_92 (by decide) ?_
  refine pw_istore_n (ls2 := [_, _, _]) e_Mod_bus_93 (by decide) rfl ?_
  refine w_Mod_bus_94 hst hnd x (fu 5) (u2 (u2 (u2 (u2 (u2 (u2 (u2 (u2 (u2 (u2 (u2 (u2 Z 100 32 0) 100 48 (nI (n))) 100 46 0) 100 52 0) 100 33 ((-1))) 100 70 2) 100 66 2) 100 69 3) 100 72 0) 100 71 0) 100 68 0) 100 67 0) n 0 (by repeat (first | exact hw | refine wfM.u100 ?_ (by decide))) h2 (by repeat (first | exact hI | apply RwI.i)) ⟨⟨rfl, rfl, rfl⟩, ⟨rfl, rfl, rfl⟩, hn, by repeat (first | exact hv | refine vv_i ?_ (by decide))⟩ (by omega) (by rw [fu_eq]; omega) ?_
  refine w_Mod_bus_112 hst hnd x (f_Mod_bus_94 x (fu 5) (u2 (u2 (u2 (u2 (u2 (u2 (u2 (u2 (u2 (u2 (u2 (u2 Z 100 32 0) 100 48 (nI (n))) 100 46 0) 100 52 0) 100 33 ((-1))) 100 70 2) 100 66 2) 100 69 3) 100 72 0) 100 71 0) 100 68 0) 100 67 0) n 0) n (bus_112 (Z := u2 (u2 (u2 (u2 (u2 (u2 (u2 (u2 (u2 (u2 (u2 (u2 Z 100 32 0) 100 48 (nI n)) 100 46 0) 100 52 0) 100 33 (-1)) 100 70 2) 100 66 2) 100 69 3) 100 72 0) 100 71 0) 100 68 0) 100 67 0) (by repeat (first | exact hw | refine wfM.u100 ?_ (by decide))) h2 (by repeat (first | exact hI | apply RwI.i)) ⟨⟨rfl, rfl, rfl⟩, ⟨rfl, rfl, rfl⟩, hn, by repeat (first | exact hv | refine vv_i ?_ (by decide))⟩).1 (bus_112 (Z := u2 (u2 (u2 (u2 (u2 (u2 (u2 (u2 (u2 (u2 (u2 (u2 Z 100 32 0) 100 48 (nI n)) 100 46 0) 100 52 0) 100 33 (-1)) 100 70 2) 100 66 2) 100 69 3) 100 72 0) 100 71 0) 100 68 0) 100 67 0) (by repeat (first | exact hw | refine wfM.u100 ?_ (by decide))) h2 (by repeat (first | exact hI | apply RwI.i)) ⟨⟨rfl, rfl, rfl⟩, ⟨rfl, rfl, rfl⟩, hn, by repeat (first | exact hv | refine vv_i ?_ (by decide))⟩).2.1 (bus_112 (Z := u2 (u2 (u2 (u2 (u2 (u2 (u2 (u2 (u2 (u2 (u2 (u2 Z 100 32 0) 100 48 (nI n)) 100 46 0) 100 52 0) 100 33 (-1)) 100 70 2) 100 66 2) 100 69 3) 100 72 0) 100 71 0) 100 68 0) 100 67 0) (by repeat (first | exact hw | refine wfM.u100 ?_ (by decide))) h2 (by repeat (first | exact hI | apply RwI.i)) ⟨⟨rfl, rfl, rfl⟩, ⟨rfl, rfl, rfl⟩, hn, by repeat (first | exact hv | refine vv_i ?_ (by decide))⟩).2.2 ?_
  rw [f_Mod_bus_32] at hk
  exact hk
noncomputable def f_Mod_bus (x : Int32) (Z : Nat → Nat → Int32) : Int32 × (Nat → Nat → Int32) :=
  if x < 0 then (0, (f_Mod_right (nI 0) (nI 1) (u2 Z 100 18 0)).2) else if ((u2 Z 100 18 0) 100 32) < x then (0, (f_Mod_right (nI 0) (nI 1) (u2 Z 100 18 0)).2) else if ((f_Mod_right (nI 1) (nI 1) (u2 Z 100 18 0)).1) = 0 then (0, (f_Mod_right (nI 1) (nI 1) (u2 Z 100 18 0)).2) else f_Mod_bus_32 x ((f_Mod_right (nI 1) (nI 1) (u2 Z 100 18 0)).2) x.toNatClampNeg
set_option maxRecDepth 4000 in
theorem w_Mod_bus_0 {g : GG} {Q : QT} {h : Hp} {kc ks : Nat} (hst : (gl g).stackTraces = false) {A : Nat → Nat} (hnd : (gK (moL g A)).Nodup) (x : Int32)  (Z : Nat → Nat → Int32) (hw : wfM Z) (h2 : isN Z 2 60) (hI : RwI Z) (hv : VvI Z) (ht : Z 100 32 = nI (pN Z 100 32) ∧ pN Z 100 32 ≤ 900) (hk : Q (.inl (some (.int (f_Mod_bus x Z).1))) (ov h (gO (moL g A) ((f_Mod_bus x Z).2)))) : PW g M_Mod_bus 6 kc ks Q 0 [.ref (A 100), .int (x), .retAddr 0] [] (ov h (gO (moL g A) Z)) := by
  refine pw_aload_n e_Mod_bus_0 rfl ?_
  refine pw_iconst (v := nI 0) e_Mod_bus_1 (by decide) ?_
  refine pw_putGi (i := 0) (ps := 18) (x := 0) e_Mod_bus_2 fp_Mod_159 hnd (mo_x _ _) rfl (Nat.le_of_ble_eq_true rfl) rfl rfl (fun _ _ => rfl) ?_
  refine pw_aload_n e_Mod_bus_5 rfl ?_
  refine pw_iload_n e_Mod_bus_6 rfl ?_
  refine pw_if_lt (tgt := 22) e_Mod_bus_7 (by decide) (fun (Hq_1 : x < 0) => ?_) (fun (Hq_1 : ¬ x < 0) => ?_)
  · refine pw_iconst (v := nI 0) e_Mod_bus_22 (by decide) ?_
    refine pw_iconst (v := nI 1) e_Mod_bus_23 (by decide) ?_
    refine pw_detV (As := [.int (nI (0)), .int (nI (1))]) e_Mod_bus_24 li_Mod_372 rfl (gO_get hnd (i := 0) rfl) (q_Mod_right hst hnd (nI 0) (nI 1) (u2 Z 100 18 0) (gO_in hnd (fun _ z => z))) rfl (by decide) (Nat.le_of_ble_eq_true rfl) rfl ?_
    refine pw_sameG hnd ?_
    refine pw_if_ne (tgt := 32) e_Mod_bus_27 (by decide) (fun (Hq_2 : ¬ ((f_Mod_right (nI 0) (nI 1) (u2 Z 100 18 0)).1) = 0) => ?_) (fun (Hq_2 : ((f_Mod_right (nI 0) (nI 1) (u2 Z 100 18 0)).1) = 0) => ?_)
    · exact absurd Hq_2 (fun q => (rt_of (by decide) q).1 rfl)
    · refine pw_iconst (v := nI 0) e_Mod_bus_30 (by decide) ?_
      refine pw_iret e_Mod_bus_31 rfl rfl ?_
      rw [f_Mod_bus, if_pos Hq_1] at hk
      exact hk
  · refine pw_iload_n e_Mod_bus_10 rfl ?_
    refine pw_aload_n e_Mod_bus_11 rfl ?_
    refine pw_getf e_Mod_bus_12 fl_Mod_369 (gO_get hnd (i := 0) rfl) rfl ?_
    refine pw_icmp_gt (tgt := 22) e_Mod_bus_15 (by decide) (fun (Hq_3 : ((u2 Z 100 18 0) 100 32) < x) => ?_) (fun (Hq_3 : ¬ ((u2 Z 100 18 0) 100 32) < x) => ?_)
    · refine pw_iconst (v := nI 0) e_Mod_bus_22 (by decide) ?_
      refine pw_iconst (v := nI 1) e_Mod_bus_23 (by decide) ?_
      refine pw_detV (As := [.int (nI (0)), .int (nI (1))]) e_Mod_bus_24 li_Mod_372 rfl (gO_get hnd (i := 0) rfl) (q_Mod_right hst hnd (nI 0) (nI 1) (u2 Z 100 18 0) (gO_in hnd (fun _ z => z))) rfl (by decide) (Nat.le_of_ble_eq_true rfl) rfl ?_
      refine pw_sameG hnd ?_
      refine pw_if_ne (tgt := 32) e_Mod_bus_27 (by decide) (fun (Hq_4 : ¬ ((f_Mod_right (nI 0) (nI 1) (u2 Z 100 18 0)).1) = 0) => ?_) (fun (Hq_4 : ((f_Mod_right (nI 0) (nI 1) (u2 Z 100 18 0)).1) = 0) => ?_)
      · exact absurd Hq_4 (fun q => (rt_of (by decide) q).1 rfl)
      · refine pw_iconst (v := nI 0) e_Mod_bus_30 (by decide) ?_
        refine pw_iret e_Mod_bus_31 rfl rfl ?_
        rw [f_Mod_bus, if_neg Hq_1, if_pos Hq_3] at hk
        exact hk
    · refine pw_iconst (v := nI 1) e_Mod_bus_18 (by decide) ?_
      refine pw_goto (tgt := 23) e_Mod_bus_19 (by decide) ?_
      refine pw_iconst (v := nI 1) e_Mod_bus_23 (by decide) ?_
      refine pw_detV (As := [.int (nI (1)), .int (nI (1))]) e_Mod_bus_24 li_Mod_372 rfl (gO_get hnd (i := 0) rfl) (q_Mod_right hst hnd (nI 1) (nI 1) (u2 Z 100 18 0) (gO_in hnd (fun _ z => z))) rfl (by decide) (Nat.le_of_ble_eq_true rfl) rfl ?_
      refine pw_sameG hnd ?_
      refine pw_if_ne (tgt := 32) e_Mod_bus_27 (by decide) (fun (Hq_5 : ¬ ((f_Mod_right (nI 1) (nI 1) (u2 Z 100 18 0)).1) = 0) => ?_) (fun (Hq_5 : ((f_Mod_right (nI 1) (nI 1) (u2 Z 100 18 0)).1) = 0) => ?_)
      · refine pw_eqls (ls' := [.ref (A 100), .int (nI (x.toNatClampNeg)), .retAddr 0]) (by rw [← (show x = nI (x.toNatClampNeg) from (bus_n (Z := u2 Z 100 18 0) ht Hq_1 Hq_3).1)]) ?_
        refine w_Mod_bus_32 hst hnd x ((f_Mod_right (nI 1) (nI 1) (u2 Z 100 18 0)).2) x.toNatClampNeg (z_right (wfM.of (Q := u2 Z 100 18 0) hw rfl rfl rfl rfl rfl rfl rfl rfl rfl rfl rfl rfl)) (t60.rt h2) (RwI.rt (RwI.i hI)) (vv_rt (vv_i hv (by decide))) (bus_n (Z := u2 Z 100 18 0) ht Hq_1 Hq_3).2 ?_
        rw [f_Mod_bus, if_neg Hq_1, if_neg Hq_3, if_neg Hq_5] at hk
        exact hk
      · refine pw_iconst (v := nI 0) e_Mod_bus_30 (by decide) ?_
        refine pw_iret e_Mod_bus_31 rfl rfl ?_
        rw [f_Mod_bus, if_neg Hq_1, if_neg Hq_3, if_pos Hq_5] at hk
        exact hk
theorem q_Mod_bus {g : GG} {h : Hp} (hst : (gl g).stackTraces = false) {A : Nat → Nat} (hnd : (gK (moL g A)).Nodup) (x : Int32)  (Z : Nat → Nat → Int32) (hm : ∀ q ∈ gO (moL g A) Z, h q.1 = some q.2) (hw : wfM Z) (h2 : isN Z 2 60) (hI : RwI Z) (hv : VvI Z) (ht : Z 100 32 = nI (pN Z 100 32) ∧ pN Z 100 32 ≤ 900) : PM g M_Mod_bus 6 0 0 [.ref (A 100), .int (x)] h (RetV (some (.int (f_Mod_bus x Z).1)) (ov h (gO (moL g A) ((f_Mod_bus x Z).2)))) := by
  refine PM.of hst (by decide) rfl (fun v hv => ?_) (Nat.le_of_ble_eq_true rfl) ?_
  · simp only [List.mem_cons, List.not_mem_nil, or_false] at hv; rcases hv with rfl | rfl <;> rfl
  · have hq := w_Mod_bus_0 (g := g) (Q := RetV (some (.int (f_Mod_bus x Z).1)) (ov h (gO (moL g A) ((f_Mod_bus x Z).2)))) (h := h) (kc := 0) (ks := 0) hst hnd x Z hw h2 hI hv ht ?_
    · rw [ov_self hm] at hq; exact hq
    · exact ⟨rfl, rfl⟩

