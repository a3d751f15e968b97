/-! the object: undo, image, restore, in its world (written by wip/whole/c_mem2.py) -/
theorem mix_o {ks : List Nat} {F Z : Nat → Nat → Int32} {k : Nat} (h : k ∉ ks) : mixK ks F Z k = Z k := by
  unfold mixK; exact if_neg h
theorem k_MemI_35 {P : Nat → Nat → Int32} : ∀ (t : Nat) (Z : Nat → Nat → Int32) (k : Nat) {j : Nat}, j ≠ 405 → f_MemI_35 P t Z k j = Z j := by
  intro t
  induction t with
  | zero => intro Z k j h; rfl
  | succ t ih =>
    intro Z k j h
    rw [f_MemI_35]
    split
    · rfl
    · rw [ih _ _ h, u2_k h]
theorem k_MemI_22 {P Z : Nat → Nat → Int32} {j : Nat} (h : j ≠ 405 ∧ (j < 410 ∨ 410 + 4 ≤ j)) : f_MemI_22 P Z j = Z j := by
  rw [f_MemI_22, k_MemI_35 _ _ _ h.1]
  exact mix_o (by simp only [List.mem_cons, List.not_mem_nil, or_false]; omega)
/-- one memory told over from the other -/
def f_MemI (P Z : Nat → Nat → Int32) : Nat → Nat → Int32 := f_MemI_22 P (hcZ 403 1001 1000 (va_up Z 402 (Z 302)) (pN Z 303 1) (pN Z 303 0))
theorem q_MemI {g : GG} {h : Hp} (hst : (gl g).stackTraces = false) {A : Nat → Nat} {S : SA} {P Y Z : Nat → Nat → Int32} (hnd : (gK (bsL g A S P Y)).Nodup) (hw : wfP P) (W : Wld g A S P Y Z h) (hH : HiI Z 303) (hall : ∀ k, k < pN Z 303 0 → S 0 ((pN Z 303 1 + k) % 40) ≠ none) (hN : Z 310 0 = nI (pN Z 310 0) ∧ pN Z 310 0 < 7) : PM g M_Memory_copyFrom 4 82 9266 [.ref (A 400), .ref (A 300)] h (fun r h' => r = .inl none ∧ ∃ s', Wld g A (sS1 S s') P Y (f_MemI P Z) h' ∧ CFr A S h (sS1 S s') h' ∧ ∀ j, j < pN Z 303 0 → s' j ≠ none) := by
  refine PM.of hst (by decide) rfl (fun v hv => ?_) (Nat.le_of_ble_eq_true rfl) ?_
  · simp only [List.mem_cons, List.not_mem_nil, or_false] at hv; rcases hv with rfl | rfl <;> rfl
  · have e0 := ov_self W.1
    have p1 := W.put hnd (Z' := va_up Z 402 (Z 302)) (fun k hk => up_ne (by omega) rfl)
    obtain ⟨W1, F1⟩ := p1
    refine (show PW g M_Memory_copyFrom 4 82 9266 _ 0 [.ref (A 400), .ref (A 300), .retAddr 0] [] (ov h (gO (bsL g A S P Y) Z)) from ?_) |> fun q => by rw [e0] at q; exact q
    refine pw_aload_n e_Memory_copyFrom_0 rfl ?_
    refine pw_getf e_Memory_copyFrom_1 fl_Memory_12 (gO_get hnd (i := 41) rfl) rfl ?_
    refine pw_aload_n e_Memory_copyFrom_4 rfl ?_
    refine pw_getf e_Memory_copyFrom_5 fl_Memory_12 (gO_get hnd (i := 31) rfl) rfl ?_
    refine pw_detV (As := [.ref (A 301)]) e_Memory_copyFrom_8 li_Memory_40 rfl (gO_get hnd (i := 42) rfl) (q_State_copyFrom hst (gO_get hnd (i := 42) rfl) (gO_get hnd (i := 32) rfl) (Z 402) (Z 302) (gO_get hnd (i := 43) rfl) (gO_get hnd (i := 33) rfl)) rfl (by decide) (Nat.le_of_ble_eq_true rfl) rfl ?_
    refine pw_upG (i := 43) hnd (bs_x _ _ _ _ _) rfl rfl ?_
    refine pw_aload_n e_Memory_copyFrom_11 rfl ?_
    refine pw_getf e_Memory_copyFrom_12 fl_Memory_21 (gO_get hnd (i := 41) rfl) rfl ?_
    refine pw_aload_n e_Memory_copyFrom_15 rfl ?_
    refine pw_getf e_Memory_copyFrom_16 fl_Memory_21 (gO_get hnd (i := 31) rfl) rfl ?_
    have z3 : va_up Z 402 (Z 302) 303 = Z 303 := up_ne (by decide) rfl
    have ha2 : ov h (gO (bsL g A S P Y) (va_up Z 402 (Z 302))) (A 303) = some (.inr (0, [.int (nI (pN Z 303 0)), .int (nI (pN Z 303 1)), .ref (A 304)])) := by
      have q := gO_get (h := h) (Z := va_up Z 402 (Z 302)) hnd (i := 34) rfl
      rw [z3] at q
      rw [← hH.1.1, ← hH.2.1]; exact q
    refine pw_callV (kc := 0) (ks := 0) (As := [.ref (A 303)]) e_Memory_copyFrom_19 li_Memory_43 rfl (gO_get hnd (i := 44) rfl) (q_History_copyFrom hst hH.1.2 hH.2.2 hall (gK_ne hnd (i := 44) (j := 34) rfl rfl (by decide)) (gO_get hnd (i := 44) rfl) (gO_get hnd (i := 45) rfl) ha2 (gO_get hnd (i := 35) rfl) (gK_ne hnd (i := 45) (j := 35) rfl rfl (by decide)) W1.2.1.2 W1.2.1.1 (fun p o c p' o' c' q q' => fun e => W1.2.2.1 p' o' c' p o c q' q e.symm)) rfl (by decide) (Nat.le_of_ble_eq_true rfl) (fun E h' q => absurd q.1 (by simp)) (fun v h1 hq => ?_)
    obtain ⟨hv, s', hF, hC, hS⟩ := hq
    cases hv
    obtain ⟨W2, F2⟩ := hcp_W1 hH.1.2 hnd W1 hF hC hS.1
    have hnd2 : (gK (bsL g A (sS1 S s') P Y)).Nodup := hnd
    show PW g M_Memory_copyFrom 4 0 0 _ 22 [.ref (A 400), .ref (A 300), .retAddr 0] [] h1
    rw [← ov_self W2.1]
    have z10 : hcZ 403 1001 1000 (va_up Z 402 (Z 302)) (pN Z 303 1) (pN Z 303 0) 310 = Z 310 := (hz_k (by decide) (by omega)).trans (up_ne (by decide) rfl)
    refine w_MemI_22 (S := sS1 S s') hst hnd2 hw _ (by unfold pN at *; rw [z10]; exact hN) ?_
    have p3 := W2.put hnd2 (Z' := f_MemI P Z) (fun k hk => by rw [f_MemI]; exact k_MemI_22 (by omega))
    exact ⟨rfl, s', p3.1, (F1.trans F2).trans p3.2, hS.2⟩
theorem k_MemR_35 {P : Nat → Nat → Int32} : ∀ (t : Nat) (Z : Nat → Nat → Int32) (k : Nat) {j : Nat}, j ≠ 305 → f_MemR_35 P t Z k j = Z j := by
  intro t
  induction t with
  | zero => intro Z k j h; rfl
  | succ t ih =>
    intro Z k j h
    rw [f_MemR_35]
    split
    · rfl
    · rw [ih _ _ h, u2_k h]
theorem k_MemR_22 {P Z : Nat → Nat → Int32} {j : Nat} (h : j ≠ 305 ∧ (j < 310 ∨ 310 + 4 ≤ j)) : f_MemR_22 P Z j = Z j := by
  rw [f_MemR_22, k_MemR_35 _ _ _ h.1]
  exact mix_o (by simp only [List.mem_cons, List.not_mem_nil, or_false]; omega)
/-- one memory told over from the other -/
def f_MemR (P Z : Nat → Nat → Int32) : Nat → Nat → Int32 := f_MemR_22 P (hcZ 303 1000 1001 (va_up Z 302 (Z 402)) (pN Z 403 1) (pN Z 403 0))
theorem q_MemR {g : GG} {h : Hp} (hst : (gl g).stackTraces = false) {A : Nat → Nat} {S : SA} {P Y Z : Nat → Nat → Int32} (hnd : (gK (bsL g A S P Y)).Nodup) (hw : wfP P) (W : Wld g A S P Y Z h) (hH : HiI Z 403) (hall : ∀ k, k < pN Z 403 0 → S 1 ((pN Z 403 1 + k) % 40) ≠ none) (hN : Z 410 0 = nI (pN Z 410 0) ∧ pN Z 410 0 < 7) : PM g M_Memory_copyFrom 4 82 9266 [.ref (A 300), .ref (A 400)] h (fun r h' => r = .inl none ∧ ∃ s', Wld g A (sS S s') P Y (f_MemR P Z) h' ∧ CFr A S h (sS S s') h' ∧ ∀ j, j < pN Z 403 0 → s' j ≠ none) := by
  refine PM.of hst (by decide) rfl (fun v hv => ?_) (Nat.le_of_ble_eq_true rfl) ?_
  · simp only [List.mem_cons, List.not_mem_nil, or_false] at hv; rcases hv with rfl | rfl <;> rfl
  · have e0 := ov_self W.1
    have p1 := W.put hnd (Z' := va_up Z 302 (Z 402)) (fun k hk => up_ne (by omega) rfl)
    obtain ⟨W1, F1⟩ := p1
    refine (show PW g M_Memory_copyFrom 4 82 9266 _ 0 [.ref (A 300), .ref (A 400), .retAddr 0] [] (ov h (gO (bsL g A S P Y) Z)) from ?_) |> fun q => by rw [e0] at q; exact q
    refine pw_aload_n e_Memory_copyFrom_0 rfl ?_
    refine pw_getf e_Memory_copyFrom_1 fl_Memory_12 (gO_get hnd (i := 31) rfl) rfl ?_
    refine pw_aload_n e_Memory_copyFrom_4 rfl ?_
    refine pw_getf e_Memory_copyFrom_5 fl_Memory_12 (gO_get hnd (i := 41) rfl) rfl ?_
    refine pw_detV (As := [.ref (A 401)]) e_Memory_copyFrom_8 li_Memory_40 rfl (gO_get hnd (i := 32) rfl) (q_State_copyFrom hst (gO_get hnd (i := 32) rfl) (gO_get hnd (i := 42) rfl) (Z 302) (Z 402) (gO_get hnd (i := 33) rfl) (gO_get hnd (i := 43) rfl)) rfl (by decide) (Nat.le_of_ble_eq_true rfl) rfl ?_
    refine pw_upG (i := 33) hnd (bs_x _ _ _ _ _) rfl rfl ?_
    refine pw_aload_n e_Memory_copyFrom_11 rfl ?_
    refine pw_getf e_Memory_copyFrom_12 fl_Memory_21 (gO_get hnd (i := 31) rfl) rfl ?_
    refine pw_aload_n e_Memory_copyFrom_15 rfl ?_
    refine pw_getf e_Memory_copyFrom_16 fl_Memory_21 (gO_get hnd (i := 41) rfl) rfl ?_
    have z3 : va_up Z 302 (Z 402) 403 = Z 403 := up_ne (by decide) rfl
    have ha2 : ov h (gO (bsL g A S P Y) (va_up Z 302 (Z 402))) (A 403) = some (.inr (0, [.int (nI (pN Z 403 0)), .int (nI (pN Z 403 1)), .ref (A 404)])) := by
      have q := gO_get (h := h) (Z := va_up Z 302 (Z 402)) hnd (i := 44) rfl
      rw [z3] at q
      rw [← hH.1.1, ← hH.2.1]; exact q
    refine pw_callV (kc := 0) (ks := 0) (As := [.ref (A 403)]) e_Memory_copyFrom_19 li_Memory_43 rfl (gO_get hnd (i := 34) rfl) (q_History_copyFrom hst hH.1.2 hH.2.2 hall (gK_ne hnd (i := 34) (j := 44) rfl rfl (by decide)) (gO_get hnd (i := 34) rfl) (gO_get hnd (i := 35) rfl) ha2 (gO_get hnd (i := 45) rfl) (gK_ne hnd (i := 35) (j := 45) rfl rfl (by decide)) W1.2.1.1 W1.2.1.2 (fun p o c p' o' c' q q' => W1.2.2.1 p o c p' o' c' q q')) rfl (by decide) (Nat.le_of_ble_eq_true rfl) (fun E h' q => absurd q.1 (by simp)) (fun v h1 hq => ?_)
    obtain ⟨hv, s', hF, hC, hS⟩ := hq
    cases hv
    obtain ⟨W2, F2⟩ := hcp_W0 hH.1.2 hnd W1 hF hC hS.1
    have hnd2 : (gK (bsL g A (sS S s') P Y)).Nodup := hnd
    show PW g M_Memory_copyFrom 4 0 0 _ 22 [.ref (A 300), .ref (A 400), .retAddr 0] [] h1
    rw [← ov_self W2.1]
    have z10 : hcZ 303 1000 1001 (va_up Z 302 (Z 402)) (pN Z 403 1) (pN Z 403 0) 410 = Z 410 := (hz_k (by decide) (by omega)).trans (up_ne (by decide) rfl)
    refine w_MemR_22 (S := sS S s') hst hnd2 hw _ (by unfold pN at *; rw [z10]; exact hN) ?_
    have p3 := W2.put hnd2 (Z' := f_MemR P Z) (fun k hk => by rw [f_MemR]; exact k_MemR_22 (by omega))
    exact ⟨rfl, s', p3.1, (F1.trans F2).trans p3.2, hS.2⟩
def f_Bus_image (P Z : Nat → Nat → Int32) : Nat → Nat → Int32 := u2 (f_MemI P Z) 507 7 1
theorem q_Bus_image {g : GG} {h : Hp} (hst : (gl g).stackTraces = false) {A : Nat → Nat} {S : SA} {P Y Z : Nat → Nat → Int32} (hnd : (gK (bsL g A S P Y)).Nodup) (hw : wfP P) (W : Wld g A S P Y Z h) (hH : HiI Z 303) (hall : ∀ k, k < pN Z 303 0 → S 0 ((pN Z 303 1 + k) % 40) ≠ none) (hN : Z 310 0 = nI (pN Z 310 0) ∧ pN Z 310 0 < 7) : PM g M_Bus_image 5 82 9266 [.ref (A 507)] h (fun r h' => r = .inl none ∧ ∃ s', Wld g A (sS1 S s') P Y (f_Bus_image P Z) h' ∧ CFr A S h (sS1 S s') h' ∧ ∀ j, j < pN Z 303 0 → s' j ≠ none) := by
  refine PM.of hst (by decide) rfl (fun v hv => ?_) (Nat.le_of_ble_eq_true rfl) ?_
  · simp only [List.mem_cons, List.not_mem_nil, or_false] at hv; rcases hv with rfl <;> rfl
  · have hx := W.1.mem (q := (A 507, 507, fun f => .inr (10, [.ref (A 506), .int (f 1), .int (f 2), .ref (A 30), .ref (A 140), .ref (A 300), .ref (A 400), .int (f 7), .ref (A 500), .ref (A 502), .ref (A 227), .ref (A 504), .ref (A 505)]))) (List.mem_of_getElem? (i := 29) rfl)
    have hm := W.1.mem (q := (A 400, 400, fun _ => .inr (3, [.ref (A 401), .ref (A 403), .ref (A 410), .ref (A 405)]))) (List.mem_of_getElem? (i := 41) rfl)
    refine pw_aload_n e_Bus_image_0 rfl ?_
    refine pw_getf e_Bus_image_1 fl_Bus_41 hx rfl ?_
    refine pw_aload_n e_Bus_image_4 rfl ?_
    refine pw_getf e_Bus_image_5 fl_Bus_37 hx rfl ?_
    refine pw_callV (kc := 0) (ks := 0) (As := [.ref (A 300)]) e_Bus_image_8 li_Bus_337 rfl hm (q_MemI hst hnd hw W hH hall hN) rfl (by decide) (Nat.le_of_ble_eq_true rfl) (fun E h' q => absurd q.1 (by simp)) (fun v h1 hq => ?_)
    obtain ⟨hv, s', W1, F1, L1⟩ := hq
    cases hv
    have hnd2 : (gK (bsL g A (sS1 S s') P Y)).Nodup := hnd
    show PW g M_Bus_image 5 0 0 _ 11 [.ref (A 507)] [] h1
    rw [← ov_self W1.1]
    refine pw_aload_n e_Bus_image_11 rfl ?_
    refine pw_iconst (v := nI 1) e_Bus_image_12 (by decide) ?_
    refine pw_putGi (i := 29) (ps := 7) (x := 1) e_Bus_image_13 fp_Bus_44 hnd2 (bs_x _ _ _ _ _) rfl (Nat.le_of_ble_eq_true rfl) (by decide) rfl (fun _ _ => rfl) ?_
    refine pw_vret e_Bus_image_16 rfl ?_
    have p3 := W1.put hnd2 (Z' := f_Bus_image P Z) (fun k hk => by rw [f_Bus_image]; exact u2_k (by omega))
    exact ⟨rfl, s', p3.1, F1.trans p3.2, L1⟩
def f_Bus_restore (P Z : Nat → Nat → Int32) : Int32 × (Nat → Nat → Int32) := if Z 507 7 = 0 then (Z 507 7, Z) else (f_MemR P Z 507 7, f_MemR P Z)
theorem r507 {P Z : Nat → Nat → Int32} : f_MemR P Z 507 = Z 507 := by
  rw [f_MemR, k_MemR_22 (by decide), hz_k (by decide) (by omega)]; exact up_ne (by decide) rfl
theorem MR_L {P Z : Nat → Nat → Int32} {S : SA} {s' : Nat → Option (Nat × Nat)} (hH : HiI Z 403) (hL : ∀ j, j < pN Z 403 0 → s' j ≠ none) : HiL (f_MemR P Z) (sS S s') := by
  have e3 : f_MemR P Z 303 = upd (upd (Z 303) 0 (nI (pN Z 403 0))) 1 (nI 0) := by
    rw [f_MemR, k_MemR_22 (by decide), hz_b (by decide)]
    rw [show va_up Z 302 (Z 402) 303 = Z 303 from up_ne (by decide) rfl]
  have p0 : pN (f_MemR P Z) 303 0 = pN Z 403 0 := by
    show (f_MemR P Z 303 0).toNatClampNeg = _
    rw [e3]; exact nI_clamp (n := pN Z 403 0) (by have := hH.1.2; omega)
  have p1 : pN (f_MemR P Z) 303 1 = 0 := by
    show (f_MemR P Z 303 1).toNatClampNeg = _
    rw [e3]; exact nI_clamp (n := 0) (by decide)
  intro k hk
  rw [p0] at hk
  rw [p1, Nat.zero_add, Nat.mod_eq_of_lt (by have := hH.1.2; omega)]
  exact hL k hk
theorem q_Bus_restore {g : GG} {h : Hp} (hst : (gl g).stackTraces = false) {A : Nat → Nat} {S : SA} {P Y Z : Nat → Nat → Int32} (hnd : (gK (bsL g A S P Y)).Nodup) (hw : wfP P) (W : Wld g A S P Y Z h) (hI : Z 507 7 = 0 ∨ Z 507 7 = 1) (hH : ¬ Z 507 7 = 0 → HiI Z 403) (hall : ¬ Z 507 7 = 0 → ∀ k, k < pN Z 403 0 → S 1 ((pN Z 403 1 + k) % 40) ≠ none) (hN : ¬ Z 507 7 = 0 → Z 410 0 = nI (pN Z 410 0) ∧ pN Z 410 0 < 7) : PM g M_Bus_restore 5 82 9266 [.ref (A 507)] h (ActQ g A S P Y h Z (f_Bus_restore P Z)) := by
  refine PM.of hst (by decide) rfl (fun v hv => ?_) (Nat.le_of_ble_eq_true rfl) ?_
  · simp only [List.mem_cons, List.not_mem_nil, or_false] at hv; rcases hv with rfl <;> rfl
  · have hx := W.1.mem (q := (A 507, 507, fun f => .inr (10, [.ref (A 506), .int (f 1), .int (f 2), .ref (A 30), .ref (A 140), .ref (A 300), .ref (A 400), .int (f 7), .ref (A 500), .ref (A 502), .ref (A 227), .ref (A 504), .ref (A 505)]))) (List.mem_of_getElem? (i := 29) rfl)
    have hm := W.1.mem (q := (A 300, 300, fun _ => .inr (3, [.ref (A 301), .ref (A 303), .ref (A 310), .ref (A 305)]))) (List.mem_of_getElem? (i := 31) rfl)
    refine pw_aload_n e_Bus_restore_0 rfl ?_
    refine pw_getf e_Bus_restore_1 fl_Bus_44 hx rfl ?_
    refine pw_if_eq (tgt := 18) e_Bus_restore_4 (by decide) (fun (hz : Z 507 7 = 0) => ?_) (fun (hz : ¬ Z 507 7 = 0) => ?_)
    · refine pw_aload_n e_Bus_restore_18 rfl ?_
      refine pw_getf e_Bus_restore_19 fl_Bus_44 hx rfl ?_
      refine pw_iret e_Bus_restore_22 rfl (bool_nar hI) ?_
      rw [f_Bus_restore, if_pos hz]
      exact ⟨S, rfl, W, CFr.refl, fun q => q, rfl⟩
    · refine pw_aload_n e_Bus_restore_7 rfl ?_
      refine pw_getf e_Bus_restore_8 fl_Bus_37 hx rfl ?_
      refine pw_aload_n e_Bus_restore_11 rfl ?_
      refine pw_getf e_Bus_restore_12 fl_Bus_41 hx rfl ?_
      refine pw_callV (kc := 0) (ks := 0) (As := [.ref (A 400)]) e_Bus_restore_15 li_Bus_337 rfl hm (q_MemR hst hnd hw W (hH hz) (hall hz) (hN hz)) rfl (by decide) (Nat.le_of_ble_eq_true rfl) (fun E h' q => absurd q.1 (by simp)) (fun v h1 hq => ?_)
      obtain ⟨hv, s', W1, F1, L1⟩ := hq
      cases hv
      have hx1 := W1.1.mem (q := (A 507, 507, fun f => .inr (10, [.ref (A 506), .int (f 1), .int (f 2), .ref (A 30), .ref (A 140), .ref (A 300), .ref (A 400), .int (f 7), .ref (A 500), .ref (A 502), .ref (A 227), .ref (A 504), .ref (A 505)]))) (List.mem_of_getElem? (i := 29) rfl)
      refine pw_aload_n e_Bus_restore_18 rfl ?_
      refine pw_getf e_Bus_restore_19 fl_Bus_44 hx1 rfl ?_
      refine pw_iret e_Bus_restore_22 rfl (bool_nar (by show f_MemR P Z 507 7 = 0 ∨ f_MemR P Z 507 7 = 1; rw [r507]; exact hI)) ?_
      rw [f_Bus_restore, if_neg hz]
      exact ⟨_, rfl, W1, F1, fun _ => MR_L (P := P) (S := S) (hH hz) L1, rfl⟩
def f_Bus_undo (Z : Nat → Nat → Int32) : Int32 × (Nat → Nat → Int32) := if pN Z 303 0 = 0 then (-1, Z) else (nI (pN Z 303 0 - 1), u2 (va_up Z 302 (Z (1000 + 2 * ((pN Z 303 1 + pN Z 303 0 - 1) % 40)))) 303 0 (nI (pN Z 303 0 - 1)))
theorem q_Bus_undo {g : GG} {h : Hp} (hst : (gl g).stackTraces = false) {A : Nat → Nat} {S : SA} {P Y Z : Nat → Nat → Int32} (hnd : (gK (bsL g A S P Y)).Nodup) (W : Wld g A S P Y Z h) (hH : HiI Z 303) (hall : 0 < pN Z 303 0 → S 0 ((pN Z 303 1 + pN Z 303 0 - 1) % 40) ≠ none) : PM g M_Bus_undo 3 0 0 [.ref (A 507)] h (RetV (some (.int (f_Bus_undo Z).1)) (ov h (gO (bsL g A S P Y) (f_Bus_undo Z).2))) := by
  refine PM.of hst (by decide) rfl (fun v hv => ?_) (Nat.le_of_ble_eq_true rfl) ?_
  · simp only [List.mem_cons, List.not_mem_nil, or_false] at hv; rcases hv with rfl <;> rfl
  · have e0 := ov_self W.1
    have hx := W.1.mem (q := (A 507, 507, fun f => .inr (10, [.ref (A 506), .int (f 1), .int (f 2), .ref (A 30), .ref (A 140), .ref (A 300), .ref (A 400), .int (f 7), .ref (A 500), .ref (A 502), .ref (A 227), .ref (A 504), .ref (A 505)]))) (List.mem_of_getElem? (i := 29) rfl)
    have hm := W.1.mem (q := (A 300, 300, fun _ => .inr (3, [.ref (A 301), .ref (A 303), .ref (A 310), .ref (A 305)]))) (List.mem_of_getElem? (i := 31) rfl)
    have h1 : h (A 301) = some (.inr (8, [.ref (A 302)])) := W.1.mem (q := (A 301, 301, fun _ => .inr (8, [.ref (A 302)]))) (List.mem_of_getElem? (i := 32) rfl)
    have h2 : h (A 302) = some (aI g 225 (Z 302)) := W.1.mem (q := (A 302, 302, aI g 225)) (List.mem_of_getElem? (i := 33) rfl)
    have hs : h (A 304) = some (stA g (S 0)) := W.1.mem (q := (A 304, 304, fun _ => stA g (S 0))) (List.mem_of_getElem? (i := 35) rfl)
    have h3 : h (A 303) = some (.inr (0, [.int (nI (pN Z 303 0)), .int (nI (pN Z 303 1)), .ref (A 304)])) := by
      have q := W.1.mem (q := (A 303, 303, fun f => .inr (0, [.int (f 0), .int (f 1), .ref (A 304)]))) (List.mem_of_getElem? (i := 34) rfl)
      rw [← hH.1.1, ← hH.2.1]; exact q
    refine pw_aload_n e_Bus_undo_0 rfl ?_
    refine pw_getf e_Bus_undo_1 fl_Bus_37 hx rfl ?_
    refine pw_getf e_Bus_undo_4 fl_Bus_111 hm rfl ?_
    refine pw_aload_n e_Bus_undo_7 rfl ?_
    refine pw_getf e_Bus_undo_8 fl_Bus_37 hx rfl ?_
    refine pw_getf e_Bus_undo_11 fl_Bus_76 hm rfl ?_
    by_cases hz : pN Z 303 0 = 0
    · have h3' := h3
      rw [hz] at h3'
      refine pw_detV (As := [.ref (A 301)]) e_Bus_undo_14 li_Bus_253 rfl h3 (q_History_takeBack0 hst h3') rfl (by decide) (Nat.le_of_ble_eq_true rfl) rfl ?_
      refine pw_iret e_Bus_undo_17 rfl rfl ?_
      rw [f_Bus_undo, if_pos hz]
      exact ⟨rfl, e0.symm⟩
    · rcases hsp : S 0 ((pN Z 303 1 + pN Z 303 0 - 1) % 40) with _ | ⟨o1, c1⟩
      · exact absurd hsp (hall (by omega))
      · obtain ⟨k1, k2⟩ := W.2.1.1.1 _ o1 c1 hsp
        refine pw_detV (As := [.ref (A 301)]) e_Bus_undo_14 li_Bus_253 rfl h3 (q_History_takeBack hst ⟨by omega, hH.1.2⟩ hH.2.2 h3 hs h1 h2 hsp k1 k2) rfl (by decide) (Nat.le_of_ble_eq_true rfl) rfl ?_
        refine pw_iret e_Bus_undo_17 rfl rfl ?_
        rw [f_Bus_undo, if_neg hz]
        refine ⟨rfl, ?_⟩
        have g1 := gO_set (h := h) (Z := Z) (f := Z (1000 + 2 * ((pN Z 303 1 + pN Z 303 0 - 1) % 40))) hnd (bs_x g A S P Y) (i := 33) rfl
        have g2 := gO_set (h := h) (Z := va_up Z 302 (Z (1000 + 2 * ((pN Z 303 1 + pN Z 303 0 - 1) % 40)))) (f := upd (va_up Z 302 (Z (1000 + 2 * ((pN Z 303 1 + pN Z 303 0 - 1) % 40))) 303) 0 (nI (pN Z 303 0 - 1))) hnd (bs_x g A S P Y) (i := 34) rfl
        rw [e0] at g1
        show _ = ov h (gO (bsL g A S P Y) (u2 (va_up Z 302 (Z (1000 + 2 * ((pN Z 303 1 + pN Z 303 0 - 1) % 40)))) 303 0 (nI (pN Z 303 0 - 1))))
        unfold u2
        rw [← g2, ← g1]
        congr 1
        have z3 : va_up Z 302 (Z (1000 + 2 * ((pN Z 303 1 + pN Z 303 0 - 1) % 40))) 303 = Z 303 := up_ne (by decide) rfl
        rw [z3]
        show some (Sum.inr (0, [Value.int (nI (pN Z 303 0 - 1)), Value.int (nI (pN Z 303 1)), Value.ref (A 304)])) = some (Sum.inr (0, [Value.int (upd (Z 303) 0 (nI (pN Z 303 0 - 1)) 0), Value.int (upd (Z 303) 0 (nI (pN Z 303 0 - 1)) 1), Value.ref (A 304)]))
        have u0 : upd (Z 303) 0 (nI (pN Z 303 0 - 1)) 0 = nI (pN Z 303 0 - 1) := if_pos rfl
        have u1 : upd (Z 303) 0 (nI (pN Z 303 0 - 1)) 1 = Z 303 1 := if_neg (by decide)
        rw [u0, u1, ← hH.2.1]
