/-! the reference: what a token read leaves, numbers, words (written by wip/whole/c_mod11.py) -/
def goK (i : Nat) : Prop := (46 ≠ i ∧ 47 ≠ i) ∧ (49 ≠ i ∧ 50 ≠ i) ∧ 51 ≠ i
/-- but for the token nothing has changed -/
def KG (Z Y : Nat → Nat → Int32) : Prop := (∀ k, k ≠ 100 → Y k = Z k) ∧ ∀ i, goK i → Y 100 i = Z 100 i
theorem KG.self (Z : Nat → Nat → Int32) : KG Z Z := ⟨fun _ _ => rfl, fun _ _ => rfl⟩
theorem KG.trans {X Y Z : Nat → Nat → Int32} (h : KG X Y) (h2 : KG Y Z) : KG X Z := ⟨fun k hk => (h2.1 k hk).trans (h.1 k hk), fun i hi => (h2.2 i hi).trans (h.2 i hi)⟩
theorem KG.u {Z Y : Nat → Nat → Int32} {i : Nat} {v : Int32} (h : KG Z Y) (hi : i = 46 ∨ i = 47 ∨ i = 49 ∨ i = 50 ∨ i = 51) : KG Z (u2 Y 100 i v) := by
  refine ⟨fun k hk => by rw [u2_k hk]; exact h.1 k hk, fun j hj => ?_⟩
  have : j ≠ i := by
    unfold goK at hj
    rcases hi with e | e | e | e | e <;> omega
  exact u2_i this (h.2 j hj)
theorem ba_of {Z Q : Nat → Nat → Int32} {n : Nat} (e31 : Q 31 = Z 31) (e48 : Q 100 48 = Z 100 48) : f_Mod_byteAt n Q = f_Mod_byteAt n Z := by
  unfold f_Mod_byteAt pN; rw [e31, e48]
theorem go_103 : ∀ (t : Nat) (Z : Nat → Nat → Int32), GoI Z → muG Z < t → GoI (f_Mod_go_103 t Z) ∧ KG Z (f_Mod_go_103 t Z) ∧ pN Z 100 46 ≤ pN (f_Mod_go_103 t Z) 100 46 ∧ f_Mod_go_103 t Z 100 49 = 1 ∧ (¬ f_Mod_isLetter (f_Mod_byteAt (pN Z 100 46) Z) = 0 → pN Z 100 46 < pN (f_Mod_go_103 t Z) 100 46) := by
  intro t
  induction t with
  | zero => intro Z _ h; omega
  | succ t ih =>
    intro Z hw ht
    rw [f_Mod_go_103]
    by_cases c : f_Mod_isLetter (f_Mod_byteAt (pN Z 100 46) Z) = 0
    · rw [if_pos c]
      refine ⟨(hw.u100 (i := 49) (by decide)).u100 (by decide), ((KG.self Z).u (by decide)).u (by decide), ?_, u2_i (by decide) u2_s, fun q => absurd c q⟩
      exact Nat.le_of_eq (pN_o (u2_i (by decide) (u2_i (by decide) rfl))).symm
    · rw [if_neg c]
      have hlt := lt_let hw c
      have hs := hw.2.1.2
      have r := ih (u2 Z 100 46 (nI (pN Z 100 46 + 1))) (hw.nx (by omega)) (mu_nx u2_s (u2_i (by decide) rfl) hw hlt ht)
      have e : pN (u2 Z 100 46 (nI (pN Z 100 46 + 1))) 100 46 = pN Z 100 46 + 1 := pN_mk (by omega) u2_s
      rw [e] at r
      exact ⟨r.1, ((KG.self Z).u (by decide)).trans r.2.1, by have := r.2.2.1; omega, r.2.2.2.1, fun _ => by have := r.2.2.1; omega⟩
theorem go_166 : ∀ (t : Nat) (Z : Nat → Nat → Int32), GoI Z → VI Z → muG Z < t → GoI (f_Mod_go_166 t Z) ∧ KG Z (f_Mod_go_166 t Z) ∧ pN Z 100 46 ≤ pN (f_Mod_go_166 t Z) 100 46 ∧ f_Mod_go_166 t Z 100 49 = 2 ∧ (¬ f_Mod_byteAt (pN Z 100 46) Z < 48 → ¬ 57 < f_Mod_byteAt (pN Z 100 46) Z → pN Z 100 46 < pN (f_Mod_go_166 t Z) 100 46) := by
  intro t
  induction t with
  | zero => intro Z _ _ h; omega
  | succ t ih =>
    intro Z hw hV ht
    have hs := hw.2.1.2
    rw [f_Mod_go_166]
    by_cases c1 : f_Mod_byteAt (pN Z 100 46) Z < 48
    · rw [if_pos c1]
      exact ⟨hw.u100 (by decide), (KG.self Z).u (by decide), Nat.le_of_eq (pN_o (u2_i (by decide) rfl)).symm, u2_s, fun q => absurd c1 q⟩
    · rw [if_neg c1]
      by_cases c2 : 57 < f_Mod_byteAt (pN Z 100 46) Z
      · rw [if_pos c2]
        exact ⟨hw.u100 (by decide), (KG.self Z).u (by decide), Nat.le_of_eq (pN_o (u2_i (by decide) rfl)).symm, u2_s, fun _ q => absurd c2 q⟩
      · rw [if_neg c2]
        have hlt := lt_dig hw c1
        by_cases c3 : 4 ≤ nI (pN Z 100 46) - Z 100 47
        · rw [if_pos c3]
          have r := ih (u2 (u2 Z 100 50 99999) 100 46 (nI (pN Z 100 46 + 1))) ((hw.vl ⟨99999, rfl, by decide⟩).nx (by show _ ≤ pN Z 100 48; omega)) (vi_B hw hV c3) (mu_nx u2_s (u2_i (by decide) (u2_i (by decide) rfl)) hw hlt ht)
          have e : pN (u2 (u2 Z 100 50 99999) 100 46 (nI (pN Z 100 46 + 1))) 100 46 = pN Z 100 46 + 1 := pN_mk (by omega) u2_s
          rw [e] at r
          exact ⟨r.1, (((KG.self Z).u (by decide)).u (by decide)).trans r.2.1, by have := r.2.2.1; omega, r.2.2.2.1, fun _ _ => by have := r.2.2.1; omega⟩
        · rw [if_neg c3]
          have r := ih (u2 (u2 Z 100 50 ((10 : Int32) * Z 100 50 + f_Mod_byteAt (pN Z 100 46) Z - 48)) 100 46 (nI (pN Z 100 46 + 1))) ((hw.vl (val_A hw hV c1 c2 c3)).nx (by show _ ≤ pN Z 100 48; omega)) (vi_A hw hV c1 c2 c3) (mu_nx u2_s (u2_i (by decide) (u2_i (by decide) rfl)) hw hlt ht)
          have e : pN (u2 (u2 Z 100 50 ((10 : Int32) * Z 100 50 + f_Mod_byteAt (pN Z 100 46) Z - 48)) 100 46 (nI (pN Z 100 46 + 1))) 100 46 = pN Z 100 46 + 1 := pN_mk (by omega) u2_s
          rw [e] at r
          exact ⟨r.1, (((KG.self Z).u (by decide)).u (by decide)).trans r.2.1, by have := r.2.2.1; omega, r.2.2.2.1, fun _ _ => by have := r.2.2.1; omega⟩
/-- a token has been read -/
def GR (Z Y : Nat → Nat → Int32) : Prop := GoI Y ∧ KG Z Y ∧ pN Z 100 46 ≤ pN Y 100 46 ∧ (Y 100 49 = 0 ∨ pN Z 100 46 < pN Y 100 46)
theorem go_50 {Z : Nat → Nat → Int32} (hw : GoI Z) : GR Z (f_Mod_go_50 Z) := by
  have hs := hw.2.1.2
  have hn := hw.1.2
  have g3 : GoI (u2 (u2 (u2 Z 100 47 (nI (pN Z 100 46))) 100 51 (-1)) 100 50 0) := ((hw.u100 (i := 47) (by decide)).u100 (i := 51) (by decide)).vl ⟨0, rfl, by decide⟩
  have k3 : KG Z (u2 (u2 (u2 Z 100 47 (nI (pN Z 100 46))) 100 51 (-1)) 100 50 0) := (((KG.self Z).u (by decide)).u (by decide)).u (by decide)
  have e46 : pN (u2 (u2 (u2 Z 100 47 (nI (pN Z 100 46))) 100 51 (-1)) 100 50 0) 100 46 = pN Z 100 46 := pN_o (u2_i (by decide) (u2_i (by decide) (u2_i (by decide) rfl)))
  have fin : ∀ v, pN Z 100 46 < pN Z 100 48 → GR Z (u2 (u2 (u2 (u2 (u2 Z 100 47 (nI (pN Z 100 46))) 100 51 (-1)) 100 50 0) 100 46 (nI (pN Z 100 46 + 1))) 100 49 v) := by
    intro v hlt
    have e : pN (u2 (u2 (u2 (u2 (u2 Z 100 47 (nI (pN Z 100 46))) 100 51 (-1)) 100 50 0) 100 46 (nI (pN Z 100 46 + 1))) 100 49 v) 100 46 = pN Z 100 46 + 1 := pN_mk (by omega) (u2_i (by decide) u2_s)
    exact ⟨(g3.nx (by show _ ≤ pN Z 100 48; omega)).u100 (by decide), (k3.u (by decide)).u (by decide), by omega, Or.inr (by omega)⟩
  have b3 : f_Mod_byteAt (pN Z 100 46) (u2 Z 100 47 (nI (pN Z 100 46))) = f_Mod_byteAt (pN Z 100 46) Z := ba_of (u2_k (by decide)) (u2_i (by decide) rfl)
  have b4 : f_Mod_byteAt (pN Z 100 46) (u2 (u2 (u2 Z 100 47 (nI (pN Z 100 46))) 100 51 (-1)) 100 50 0) = f_Mod_byteAt (pN Z 100 46) Z := ba_of (by rw [u2_k (by decide), u2_k (by decide), u2_k (by decide)]) (u2_i (by decide) (u2_i (by decide) (u2_i (by decide) rfl)))
  rw [f_Mod_go_50, b3]
  by_cases c : pN Z 100 46 < pN Z 100 48
  · rw [if_pos c]
    by_cases c1 : f_Mod_isLetter (f_Mod_byteAt (pN Z 100 46) Z) = 0
    · rw [if_pos c1]
      by_cases c2 : f_Mod_byteAt (pN Z 100 46) Z < 48
      · rw [if_pos c2]; split <;> exact fin _ c
      · rw [if_neg c2]
        by_cases c3 : 57 < f_Mod_byteAt (pN Z 100 46) Z
        · rw [if_pos c3]; split <;> exact fin _ c
        · rw [if_neg c3]
          have r := go_166 (fu 901) _ g3 (vi_0 (n := pN Z 100 46) (by omega) (u2_i (by decide) (u2_i (by decide) u2_s)) (u2_i (by decide) (u2_i (by decide) (u2_i (by decide) hw.1.1))) u2_s) (by rw [fu_eq]; exact g3.mu0)
          rw [e46, b4] at r
          exact ⟨r.1, k3.trans r.2.1, r.2.2.1, Or.inr (r.2.2.2.2 c2 c3)⟩
    · rw [if_neg c1]
      have r := go_103 (fu 901) _ g3 (by rw [fu_eq]; exact g3.mu0)
      rw [e46, b4] at r
      exact ⟨r.1, k3.trans r.2.1, r.2.2.1, Or.inr (r.2.2.2.2 c1)⟩
  · rw [if_neg c]
    have e : pN (u2 (u2 (u2 (u2 Z 100 47 (nI (pN Z 100 46))) 100 51 (-1)) 100 50 0) 100 49 0) 100 46 = pN Z 100 46 := (pN_o (u2_i (by decide) rfl)).trans e46
    exact ⟨g3.u100 (by decide), k3.u (by decide), by omega, Or.inl u2_s⟩
theorem go_L : ∀ (t : Nat) (Z : Nat → Nat → Int32), GoI Z → muG Z < t → GR Z (f_Mod_go_L t Z) := by
  intro t
  induction t with
  | zero => intro Z _ h; omega
  | succ t ih =>
    intro Z hw ht
    have hs := hw.2.1.2
    have step : pN Z 100 46 < pN Z 100 48 → GR Z (f_Mod_go_L t (u2 Z 100 46 (nI (pN Z 100 46 + 1)))) := by
      intro hlt
      have r := ih (u2 Z 100 46 (nI (pN Z 100 46 + 1))) (hw.nx (by omega)) (mu_nx u2_s (u2_i (by decide) rfl) hw hlt ht)
      have e : pN (u2 Z 100 46 (nI (pN Z 100 46 + 1))) 100 46 = pN Z 100 46 + 1 := pN_mk (by omega) u2_s
      unfold GR at r
      rw [e] at r
      exact ⟨r.1, ((KG.self Z).u (by decide)).trans r.2.1, by have := r.2.2.1; omega, Or.inr (by have := r.2.2.1; omega)⟩
    rw [f_Mod_go_L]
    by_cases c : pN Z 100 48 ≤ pN Z 100 46
    · rw [if_pos c]; exact go_50 hw
    · rw [if_neg c]
      split
      · exact step (by omega)
      · split
        · exact step (by omega)
        · exact go_50 hw
theorem go_all {Z : Nat → Nat → Int32} (hw : GoI Z) : GR Z (f_Mod_go Z) := by
  rw [f_Mod_go]; exact go_L _ Z hw (by rw [fu_eq]; exact hw.mu0)
noncomputable def s_Mod_go : (Nat → Nat → Int32) → (Nat → Nat → Int32) := Classical.choose (⟨f_Mod_go, rfl⟩ : ∃ F : (Nat → Nat → Int32) → (Nat → Nat → Int32), F = f_Mod_go)
theorem s_go : s_Mod_go = f_Mod_go := Classical.choose_spec (⟨f_Mod_go, rfl⟩ : ∃ F : (Nat → Nat → Int32) → (Nat → Nat → Int32), F = f_Mod_go)
theorem qs_Mod_go {g : GG} {h : Hp} (hst : (gl g).stackTraces = false) {A : Nat → Nat} (hnd : (gK (moL g A)).Nodup) (Z : Nat → Nat → Int32) (hm : ∀ q ∈ gO (moL g A) Z, h q.1 = some q.2) (hw : GoI Z) : PM g M_Mod_go 2 0 0 [.ref (A 100)] h (RetV none (ov h (gO (moL g A) (s_Mod_go Z)))) := by
  rw [s_go]; exact q_Mod_go hst hnd Z hm hw
theorem go_s {Z : Nat → Nat → Int32} (hw : GoI Z) : GR Z (s_Mod_go Z) := by rw [s_go]; exact go_all hw
def f_Mod_wants (x : Int32) (y : Int32) (Z : Nat → Nat → Int32) : Int32 × (Nat → Nat → Int32) :=
  if (Z 100 52) = 0 then if x = 0 then if ((u2 (u2 Z 100 52 y) 100 33 ((u2 Z 100 52 y) 100 47)) 100 52) = 0 then (1, u2 (u2 Z 100 52 y) 100 33 ((u2 Z 100 52 y) 100 47)) else (0, u2 (u2 Z 100 52 y) 100 33 ((u2 Z 100 52 y) 100 47)) else if (Z 100 52) = 0 then (1, Z) else (0, Z) else if (Z 100 52) = 0 then (1, Z) else (0, Z)
set_option maxRecDepth 4000 in
theorem w_Mod_wants_0 {g : GG} {Q : QT} {h : Hp} {kc ks : Nat} (hst : (gl g).stackTraces = false) {A : Nat → Nat} (hnd : (gK (moL g A)).Nodup) (x : Int32) (y : Int32)  (Z : Nat → Nat → Int32) (hk : Q (.inl (some (.int (f_Mod_wants x y Z).1))) (ov h (gO (moL g A) ((f_Mod_wants x y Z).2)))) : PW g M_Mod_wants 0 kc ks Q 0 [.ref (A 100), .int (x), .int (y)] [] (ov h (gO (moL g A) Z)) := by
  refine pw_aload_n e_Mod_wants_0 rfl ?_
  refine pw_getf e_Mod_wants_1 fl_Mod_305 (gO_get hnd (i := 0) rfl) rfl ?_
  refine pw_if_ne (tgt := 24) e_Mod_wants_4 (by decide) (fun (H1 : ¬ (Z 100 52) = 0) => ?_) (fun (H1 : (Z 100 52) = 0) => ?_)
  · refine pw_aload_n e_Mod_wants_24 rfl ?_
    refine pw_getf e_Mod_wants_25 fl_Mod_305 (gO_get hnd (i := 0) rfl) rfl ?_
    refine pw_if_ne (tgt := 35) e_Mod_wants_28 (by decide) (fun (H2 : ¬ (Z 100 52) = 0) => ?_) (fun (H2 : (Z 100 52) = 0) => ?_)
    · refine pw_iconst (v := nI 0) e_Mod_wants_35 (by decide) ?_
      refine pw_iret e_Mod_wants_36 rfl (by decide) ?_
      rw [f_Mod_wants, if_neg H1, if_neg H2] at hk
      exact hk
    · refine pw_iconst (v := nI 1) e_Mod_wants_31 (by decide) ?_
      refine pw_goto (tgt := 36) e_Mod_wants_32 (by decide) ?_
      refine pw_iret e_Mod_wants_36 rfl (by decide) ?_
      rw [f_Mod_wants, if_neg H1, if_pos H2] at hk
      exact hk
  · refine pw_iload_n e_Mod_wants_7 rfl ?_
    refine pw_if_ne (tgt := 24) e_Mod_wants_8 (by decide) (fun (H3 : ¬ x = 0) => ?_) (fun (H3 : x = 0) => ?_)
    · refine pw_aload_n e_Mod_wants_24 rfl ?_
      refine pw_getf e_Mod_wants_25 fl_Mod_305 (gO_get hnd (i := 0) rfl) rfl ?_
      refine pw_if_ne (tgt := 35) e_Mod_wants_28 (by decide) (fun (H4 : ¬ (Z 100 52) = 0) => ?_) (fun (H4 : (Z 100 52) = 0) => ?_)
      · refine pw_iconst (v := nI 0) e_Mod_wants_35 (by decide) ?_
        refine pw_iret e_Mod_wants_36 rfl (by decide) ?_
        rw [f_Mod_wants, if_pos H1, if_neg H3, if_neg H4] at hk
        exact hk
      · refine pw_iconst (v := nI 1) e_Mod_wants_31 (by decide) ?_
        refine pw_goto (tgt := 36) e_Mod_wants_32 (by decide) ?_
        refine pw_iret e_Mod_wants_36 rfl (by decide) ?_
        rw [f_Mod_wants, if_pos H1, if_neg H3, if_pos H4] at hk
        exact hk
    · refine pw_aload_n e_Mod_wants_11 rfl ?_
      refine pw_iload_n e_Mod_wants_12 rfl ?_
      refine pw_putGi (i := 0) (ps := 52) (x := y) e_Mod_wants_13 fp_Mod_305 hnd (mo_x _ _) rfl (Nat.le_of_ble_eq_true rfl) rfl rfl (fun _ _ => rfl) ?_
      refine pw_aload_n e_Mod_wants_16 rfl ?_
      refine pw_aload_n e_Mod_wants_17 rfl ?_
      refine pw_getf e_Mod_wants_18 fl_Mod_286 (gO_get hnd (i := 0) rfl) rfl ?_
      refine pw_putGi (i := 0) (ps := 33) (x := (u2 Z 100 52 y) 100 47) e_Mod_wants_21 fp_Mod_77 hnd (mo_x _ _) rfl (Nat.le_of_ble_eq_true rfl) rfl rfl (fun _ _ => rfl) ?_
      refine pw_aload_n e_Mod_wants_24 rfl ?_
      refine pw_getf e_Mod_wants_25 fl_Mod_305 (gO_get hnd (i := 0) rfl) rfl ?_
      refine pw_if_ne (tgt := 35) e_Mod_wants_28 (by decide) (fun (H5 : ¬ ((u2 (u2 Z 100 52 y) 100 33 ((u2 Z 100 52 y) 100 47)) 100 52) = 0) => ?_) (fun (H5 : ((u2 (u2 Z 100 52 y) 100 33 ((u2 Z 100 52 y) 100 47)) 100 52) = 0) => ?_)
      · refine pw_iconst (v := nI 0) e_Mod_wants_35 (by decide) ?_
        refine pw_iret e_Mod_wants_36 rfl (by decide) ?_
        rw [f_Mod_wants, if_pos H1, if_pos H3, if_neg H5] at hk
        exact hk
      · refine pw_iconst (v := nI 1) e_Mod_wants_31 (by decide) ?_
        refine pw_goto (tgt := 36) e_Mod_wants_32 (by decide) ?_
        refine pw_iret e_Mod_wants_36 rfl (by decide) ?_
        rw [f_Mod_wants, if_pos H1, if_pos H3, if_pos H5] at hk
        exact hk
theorem q_Mod_wants {g : GG} {h : Hp} (hst : (gl g).stackTraces = false) {A : Nat → Nat} (hnd : (gK (moL g A)).Nodup) (x : Int32) (y : Int32)  (Z : Nat → Nat → Int32) (hm : ∀ q ∈ gO (moL g A) Z, h q.1 = some q.2) : PM g M_Mod_wants 0 0 0 [.ref (A 100), .int (x), .int (y)] h (RetV (some (.int (f_Mod_wants x y Z).1)) (ov h (gO (moL g A) ((f_Mod_wants x y Z).2)))) := by
  refine PM.of hst (by decide) rfl (fun v hv => ?_) (Nat.le_of_ble_eq_true rfl) ?_
  · simp only [List.mem_cons, List.not_mem_nil, or_false] at hv; rcases hv with rfl | rfl | rfl <;> rfl
  · have hq := w_Mod_wants_0 (g := g) (Q := RetV (some (.int (f_Mod_wants x y Z).1)) (ov h (gO (moL g A) ((f_Mod_wants x y Z).2)))) (h := h) (kc := 0) (ks := 0) hst hnd x y Z ?_
    · rw [ov_self hm] at hq; exact hq
    · exact ⟨rfl, rfl⟩

theorem wt_k {x y : Int32} {Z : Nat → Nat → Int32} : (∀ k, k ≠ 100 → (f_Mod_wants x y Z).2 k = Z k) ∧ ∀ i, 52 ≠ i → 33 ≠ i → (f_Mod_wants x y Z).2 100 i = Z 100 i := by
  rw [f_Mod_wants]
  repeat' split
  all_goals refine ⟨fun k hk => ?_, fun i h0 h1 => ?_⟩
  all_goals first | rfl | (dsimp only; rw [u2_k hk, u2_k hk]) | (dsimp only; rw [u2_i (Ne.symm h1) rfl, u2_i (Ne.symm h0) rfl])
theorem wt_of {x y : Int32} {Z : Nat → Nat → Int32} (hy : y ≠ 0) (H : ¬ (f_Mod_wants x y Z).1 = 0) : x ≠ 0 ∧ Z 100 52 = 0 ∧ (f_Mod_wants x y Z).2 = Z := by
  rw [f_Mod_wants] at H ⊢
  by_cases h0 : Z 100 52 = 0
  · rw [if_pos h0] at H ⊢
    by_cases h1 : x = 0
    · rw [if_pos h1] at H
      have e : (u2 (u2 Z 100 52 y) 100 33 ((u2 Z 100 52 y) 100 47)) 100 52 = y := u2_i (by decide) u2_s
      rw [e, if_neg hy] at H
      exact absurd rfl H
    · rw [if_neg h1, if_pos h0]; exact ⟨h1, h0, rfl⟩
  · rw [if_neg h0, if_neg h0] at H
    exact absurd rfl H
theorem g_wants {x y : Int32} {Z : Nat → Nat → Int32} (h : GoI Z) : GoI (f_Mod_wants x y Z).2 := h.of (wt_k.2 _ (by decide) (by decide)) (wt_k.2 _ (by decide) (by decide)) (wt_k.2 _ (by decide) (by decide))
theorem nar_wants (x y : Int32) (Z : Nat → Nat → Int32) : narrow .boolean (.int (f_Mod_wants x y Z).1) = .int (f_Mod_wants x y Z).1 := by
  have h : (f_Mod_wants x y Z).1 = 0 ∨ (f_Mod_wants x y Z).1 = 1 := by
    rw [f_Mod_wants]
    repeat' split
    all_goals first | exact Or.inl rfl | exact Or.inr rfl
  exact bool_nar h
noncomputable def f_Mod_number (x : Int32) (y : Int32) (Z : Nat → Nat → Int32) : Int32 × (Nat → Nat → Int32) :=
  if (Z 100 52) = 0 then if (Z 100 49) = 2 then if ((f_Mod_wants (nI 1) (nI 1) Z).1) = 0 then (x, (f_Mod_wants (nI 1) (nI 1) Z).2) else if ((f_Mod_wants (f_Mod_within (((f_Mod_wants (nI 1) (nI 1) Z).2) 100 50) x y) (nI 2) ((f_Mod_wants (nI 1) (nI 1) Z).2)).1) = 0 then (x, (f_Mod_wants (f_Mod_within (((f_Mod_wants (nI 1) (nI 1) Z).2) 100 50) x y) (nI 2) ((f_Mod_wants (nI 1) (nI 1) Z).2)).2) else (((f_Mod_wants (f_Mod_within (((f_Mod_wants (nI 1) (nI 1) Z).2) 100 50) x y) (nI 2) ((f_Mod_wants (nI 1) (nI 1) Z).2)).2) 100 50, s_Mod_go ((f_Mod_wants (f_Mod_within (((f_Mod_wants (nI 1) (nI 1) Z).2) 100 50) x y) (nI 2) ((f_Mod_wants (nI 1) (nI 1) Z).2)).2)) else (x, (f_Mod_wants (nI 0) (nI 1) Z).2) else (x, Z)
set_option maxRecDepth 4000 in
theorem w_Mod_number_0 {g : GG} {Q : QT} {h : Hp} {kc ks : Nat} (hst : (gl g).stackTraces = false) {A : Nat → Nat} (hnd : (gK (moL g A)).Nodup) (x : Int32) (y : Int32)  (Z : Nat → Nat → Int32) (hw : GoI Z) (hk : Q (.inl (some (.int (f_Mod_number x y Z).1))) (ov h (gO (moL g A) ((f_Mod_number x y Z).2)))) : PW g M_Mod_number 3 kc ks Q 0 [.ref (A 100), .int (x), .int (y), .retAddr 0] [] (ov h (gO (moL g A) Z)) := by
  have hz0 := hw.1.2
  have hz1 := hw.2.1.2
  refine pw_aload_n e_Mod_number_0 rfl ?_
  refine pw_getf e_Mod_number_1 fl_Mod_305 (gO_get hnd (i := 0) rfl) rfl ?_
  refine pw_if_ne (tgt := 45) e_Mod_number_4 (by decide) (fun (H1 : ¬ (Z 100 52) = 0) => ?_) (fun (H1 : (Z 100 52) = 0) => ?_)
  · refine pw_iload_n e_Mod_number_45 rfl ?_
    refine pw_iret e_Mod_number_46 rfl rfl ?_
    rw [f_Mod_number, if_neg H1] at hk
    exact hk
  · refine pw_aload_n e_Mod_number_7 rfl ?_
    refine pw_aload_n e_Mod_number_8 rfl ?_
    refine pw_getf e_Mod_number_9 fl_Mod_295 (gO_get hnd (i := 0) rfl) rfl ?_
    refine pw_iconst (v := nI 2) e_Mod_number_12 (by decide) ?_
    refine pw_icmp_ne (tgt := 20) e_Mod_number_13 (by decide) (fun (H2 : ¬ (Z 100 49) = 2) => ?_) (fun (H2 : (Z 100 49) = 2) => ?_)
    · refine pw_iconst (v := nI 0) e_Mod_number_20 (by decide) ?_
      refine pw_iconst (v := nI 1) e_Mod_number_21 (by decide) ?_
      refine pw_detV (As := [.int (nI (0)), .int (nI (1))]) e_Mod_number_22 li_Mod_308 rfl (gO_get hnd (i := 0) rfl) (q_Mod_wants hst hnd (nI 0) (nI 1) Z (gO_in hnd (fun _ z => z))) rfl (by decide) (Nat.le_of_ble_eq_true rfl) rfl ?_
      refine pw_sameG hnd ?_
      refine pw_if_eq (tgt := 45) e_Mod_number_25 (by decide) (fun (H3 : ((f_Mod_wants (nI 0) (nI 1) Z).1) = 0) => ?_) (fun (H3 : ¬ ((f_Mod_wants (nI 0) (nI 1) Z).1) = 0) => ?_)
      · refine pw_iload_n e_Mod_number_45 rfl ?_
        refine pw_iret e_Mod_number_46 rfl rfl ?_
        rw [f_Mod_number, if_pos H1, if_neg H2] at hk
        exact hk
      · exact absurd H3 (fun q => (wt_of (by decide) q).1 rfl)
    · refine pw_iconst (v := nI 1) e_Mod_number_16 (by decide) ?_
      refine pw_goto (tgt := 21) e_Mod_number_17 (by decide) ?_
      refine pw_iconst (v := nI 1) e_Mod_number_21 (by decide) ?_
      refine pw_detV (As := [.int (nI (1)), .int (nI (1))]) e_Mod_number_22 li_Mod_308 rfl (gO_get hnd (i := 0) rfl) (q_Mod_wants hst hnd (nI 1) (nI 1) Z (gO_in hnd (fun _ z => z))) rfl (by decide) (Nat.le_of_ble_eq_true rfl) rfl ?_
      refine pw_sameG hnd ?_
      refine pw_if_eq (tgt := 45) e_Mod_number_25 (by decide) (fun (H4 : ((f_Mod_wants (nI 1) (nI 1) Z).1) = 0) => ?_) (fun (H4 : ¬ ((f_Mod_wants (nI 1) (nI 1) Z).1) = 0) => ?_)
      · refine pw_iload_n e_Mod_number_45 rfl ?_
        refine pw_iret e_Mod_number_46 rfl rfl ?_
        rw [f_Mod_number, if_pos H1, if_pos H2, if_pos H4] at hk
        exact hk
      · refine pw_aload_n e_Mod_number_28 rfl ?_
        refine pw_aload_n e_Mod_number_29 rfl ?_
        refine pw_getf e_Mod_number_30 fl_Mod_292 (gO_get hnd (i := 0) rfl) rfl ?_
        refine pw_iload_n e_Mod_number_33 rfl ?_
        refine pw_iload_n e_Mod_number_34 rfl ?_
        refine pw_detS (As := [.int (((f_Mod_wants (nI 1) (nI 1) Z).2) 100 50), .int (x), .int (y)]) e_Mod_number_35 li_Mod_312 (q_Mod_within hst (((f_Mod_wants (nI 1) (nI 1) Z).2) 100 50) x y) rfl (by decide) (Nat.le_of_ble_eq_true rfl) rfl ?_
        refine pw_iconst (v := nI 2) e_Mod_number_38 (by decide) ?_
        refine pw_detV (As := [.int (f_Mod_within (((f_Mod_wants (nI 1) (nI 1) Z).2) 100 50) x y), .int (nI (2))]) e_Mod_number_39 li_Mod_308 rfl (gO_get hnd (i := 0) rfl) (q_Mod_wants hst hnd (f_Mod_within (((f_Mod_wants (nI 1) (nI 1) Z).2) 100 50) x y) (nI 2) ((f_Mod_wants (nI 1) (nI 1) Z).2) (gO_in hnd (fun _ z => z))) rfl (by decide) (Nat.le_of_ble_eq_true rfl) rfl ?_
        refine pw_sameG hnd ?_
        refine pw_if_ne (tgt := 47) e_Mod_number_42 (by decide) (fun (H5 : ¬ ((f_Mod_wants (f_Mod_within (((f_Mod_wants (nI 1) (nI 1) Z).2) 100 50) x y) (nI 2) ((f_Mod_wants (nI 1) (nI 1) Z).2)).1) = 0) => ?_) (fun (H5 : ((f_Mod_wants (f_Mod_within (((f_Mod_wants (nI 1) (nI 1) Z).2) 100 50) x y) (nI 2) ((f_Mod_wants (nI 1) (nI 1) Z).2)).1) = 0) => ?_)
        · refine pw_aload_n e_Mod_number_47 rfl ?_
          refine pw_getf e_Mod_number_48 fl_Mod_292 (gO_get hnd (i := 0) rfl) rfl ?_
          refine pw_istore_n (ls2 := [_, _, _, _]) e_Mod_number_51 (by decide) rfl ?_
          refine pw_aload_n e_Mod_number_52 rfl ?_
          refine pw_detV (As := []) e_Mod_number_53 li_Mod_315 rfl (gO_get hnd (i := 0) rfl) (qs_Mod_go hst hnd ((f_Mod_wants (f_Mod_within (((f_Mod_wants (nI 1) (nI 1) Z).2) 100 50) x y) (nI 2) ((f_Mod_wants (nI 1) (nI 1) Z).2)).2) (gO_in hnd (fun _ z => z)) (g_wants (g_wants hw))) rfl (by decide) (Nat.le_of_ble_eq_true rfl) rfl ?_
          refine pw_sameG hnd ?_
          refine pw_iload_n e_Mod_number_56 rfl ?_
          refine pw_iret e_Mod_number_57 rfl rfl ?_
          rw [f_Mod_number, if_pos H1, if_pos H2, if_neg H4, if_neg H5] at hk
          exact hk
        · refine pw_iload_n e_Mod_number_45 rfl ?_
          refine pw_iret e_Mod_number_46 rfl rfl ?_
          rw [f_Mod_number, if_pos H1, if_pos H2, if_neg H4, if_pos H5] at hk
          exact hk
theorem q_Mod_number {g : GG} {h : Hp} (hst : (gl g).stackTraces = false) {A : Nat → Nat} (hnd : (gK (moL g A)).Nodup) (x : Int32) (y : Int32)  (Z : Nat → Nat → Int32) (hm : ∀ q ∈ gO (moL g A) Z, h q.1 = some q.2) (hw : GoI Z) : PM g M_Mod_number 3 0 0 [.ref (A 100), .int (x), .int (y)] h (RetV (some (.int (f_Mod_number x y Z).1)) (ov h (gO (moL g A) ((f_Mod_number x y Z).2)))) := by
  refine PM.of hst (by decide) rfl (fun v hv => ?_) (Nat.le_of_ble_eq_true rfl) ?_
  · simp only [List.mem_cons, List.not_mem_nil, or_false] at hv; rcases hv with rfl | rfl | rfl <;> rfl
  · have hq := w_Mod_number_0 (g := g) (Q := RetV (some (.int (f_Mod_number x y Z).1)) (ov h (gO (moL g A) ((f_Mod_number x y Z).2)))) (h := h) (kc := 0) (ks := 0) hst hnd x y Z hw ?_
    · rw [ov_self hm] at hq; exact hq
    · exact ⟨rfl, rfl⟩

noncomputable def f_Mod_named (x : Int32) (y : Int32) (Z : Nat → Nat → Int32) : Int32 × (Nat → Nat → Int32) :=
  if (Z 100 52) = 0 then if (Z 100 49) = 2 then if ((f_Mod_wants (nI 1) (nI 1) Z).1) = 0 then (0, (f_Mod_wants (nI 1) (nI 1) Z).2) else if x < (((f_Mod_wants (nI 1) (nI 1) Z).2) 100 50) then (0, (f_Mod_wants (nI 0) (nI 2) ((f_Mod_wants (nI 1) (nI 1) Z).2)).2) else if ((f_Mod_wants (nI 1) (nI 2) ((f_Mod_wants (nI 1) (nI 1) Z).2)).1) = 0 then (0, (f_Mod_wants (nI 1) (nI 2) ((f_Mod_wants (nI 1) (nI 1) Z).2)).2) else if y ≤ (((f_Mod_wants (nI 1) (nI 2) ((f_Mod_wants (nI 1) (nI 1) Z).2)).2) 100 50) then (0, (f_Mod_wants (nI 0) (nI 3) ((f_Mod_wants (nI 1) (nI 2) ((f_Mod_wants (nI 1) (nI 1) Z).2)).2)).2) else if ((f_Mod_wants (nI 1) (nI 3) ((f_Mod_wants (nI 1) (nI 2) ((f_Mod_wants (nI 1) (nI 1) Z).2)).2)).1) = 0 then (0, (f_Mod_wants (nI 1) (nI 3) ((f_Mod_wants (nI 1) (nI 2) ((f_Mod_wants (nI 1) (nI 1) Z).2)).2)).2) else (((f_Mod_wants (nI 1) (nI 3) ((f_Mod_wants (nI 1) (nI 2) ((f_Mod_wants (nI 1) (nI 1) Z).2)).2)).2) 100 50, s_Mod_go ((f_Mod_wants (nI 1) (nI 3) ((f_Mod_wants (nI 1) (nI 2) ((f_Mod_wants (nI 1) (nI 1) Z).2)).2)).2)) else (0, (f_Mod_wants (nI 0) (nI 1) Z).2) else (0, Z)
set_option maxRecDepth 4000 in
theorem w_Mod_named_0 {g : GG} {Q : QT} {h : Hp} {kc ks : Nat} (hst : (gl g).stackTraces = false) {A : Nat → Nat} (hnd : (gK (moL g A)).Nodup) (x : Int32) (y : Int32)  (Z : Nat → Nat → Int32) (hw : GoI Z) (hk : Q (.inl (some (.int (f_Mod_named x y Z).1))) (ov h (gO (moL g A) ((f_Mod_named x y Z).2)))) : PW g M_Mod_named 3 kc ks Q 0 [.ref (A 100), .int (x), .int (y), .retAddr 0] [] (ov h (gO (moL g A) Z)) := by
  have hz0 := hw.1.2
  have hz1 := hw.2.1.2
  refine pw_aload_n e_Mod_named_0 rfl ?_
  refine pw_getf e_Mod_named_1 fl_Mod_305 (gO_get hnd (i := 0) rfl) rfl ?_
  refine pw_if_ne (tgt := 70) e_Mod_named_4 (by decide) (fun (H1 : ¬ (Z 100 52) = 0) => ?_) (fun (H1 : (Z 100 52) = 0) => ?_)
  · refine pw_iconst (v := nI 0) e_Mod_named_70 (by decide) ?_
    refine pw_iret e_Mod_named_71 rfl rfl ?_
    rw [f_Mod_named, if_neg H1] at hk
    exact hk
  · refine pw_aload_n e_Mod_named_7 rfl ?_
    refine pw_aload_n e_Mod_named_8 rfl ?_
    refine pw_getf e_Mod_named_9 fl_Mod_295 (gO_get hnd (i := 0) rfl) rfl ?_
    refine pw_iconst (v := nI 2) e_Mod_named_12 (by decide) ?_
    refine pw_icmp_ne (tgt := 20) e_Mod_named_13 (by decide) (fun (H2 : ¬ (Z 100 49) = 2) => ?_) (fun (H2 : (Z 100 49) = 2) => ?_)
    · refine pw_iconst (v := nI 0) e_Mod_named_20 (by decide) ?_
      refine pw_iconst (v := nI 1) e_Mod_named_21 (by decide) ?_
      refine pw_detV (As := [.int (nI (0)), .int (nI (1))]) e_Mod_named_22 li_Mod_308 rfl (gO_get hnd (i := 0) rfl) (q_Mod_wants hst hnd (nI 0) (nI 1) Z (gO_in hnd (fun _ z => z))) rfl (by decide) (Nat.le_of_ble_eq_true rfl) rfl ?_
      refine pw_sameG hnd ?_
      refine pw_if_eq (tgt := 70) e_Mod_named_25 (by decide) (fun (H3 : ((f_Mod_wants (nI 0) (nI 1) Z).1) = 0) => ?_) (fun (H3 : ¬ ((f_Mod_wants (nI 0) (nI 1) Z).1) = 0) => ?_)
      · refine pw_iconst (v := nI 0) e_Mod_named_70 (by decide) ?_
        refine pw_iret e_Mod_named_71 rfl rfl ?_
        rw [f_Mod_named, if_pos H1, if_neg H2] at hk
        exact hk
      · exact absurd H3 (fun q => (wt_of (by decide) q).1 rfl)
    · refine pw_iconst (v := nI 1) e_Mod_named_16 (by decide) ?_
      refine pw_goto (tgt := 21) e_Mod_named_17 (by decide) ?_
      refine pw_iconst (v := nI 1) e_Mod_named_21 (by decide) ?_
      refine pw_detV (As := [.int (nI (1)), .int (nI (1))]) e_Mod_named_22 li_Mod_308 rfl (gO_get hnd (i := 0) rfl) (q_Mod_wants hst hnd (nI 1) (nI 1) Z (gO_in hnd (fun _ z => z))) rfl (by decide) (Nat.le_of_ble_eq_true rfl) rfl ?_
      refine pw_sameG hnd ?_
      refine pw_if_eq (tgt := 70) e_Mod_named_25 (by decide) (fun (H4 : ((f_Mod_wants (nI 1) (nI 1) Z).1) = 0) => ?_) (fun (H4 : ¬ ((f_Mod_wants (nI 1) (nI 1) Z).1) = 0) => ?_)
      · refine pw_iconst (v := nI 0) e_Mod_named_70 (by decide) ?_
        refine pw_iret e_Mod_named_71 rfl rfl ?_
        rw [f_Mod_named, if_pos H1, if_pos H2, if_pos H4] at hk
        exact hk
      · refine pw_aload_n e_Mod_named_28 rfl ?_
        refine pw_aload_n e_Mod_named_29 rfl ?_
        refine pw_getf e_Mod_named_30 fl_Mod_292 (gO_get hnd (i := 0) rfl) rfl ?_
        refine pw_iload_n e_Mod_named_33 rfl ?_
        refine pw_icmp_gt (tgt := 41) e_Mod_named_34 (by decide) (fun (H5 : x < (((f_Mod_wants (nI 1) (nI 1) Z).2) 100 50)) => ?_) (fun (H5 : ¬ x < (((f_Mod_wants (nI 1) (nI 1) Z).2) 100 50)) => ?_)
        · refine pw_iconst (v := nI 0) e_Mod_named_41 (by decide) ?_
          refine pw_iconst (v := nI 2) e_Mod_named_42 (by decide) ?_
          refine pw_detV (As := [.int (nI (0)), .int (nI (2))]) e_Mod_named_43 li_Mod_308 rfl (gO_get hnd (i := 0) rfl) (q_Mod_wants hst hnd (nI 0) (nI 2) ((f_Mod_wants (nI 1) (nI 1) Z).2) (gO_in hnd (fun _ z => z))) rfl (by decide) (Nat.le_of_ble_eq_true rfl) rfl ?_
          refine pw_sameG hnd ?_
          refine pw_if_eq (tgt := 70) e_Mod_named_46 (by decide) (fun (H6 : ((f_Mod_wants (nI 0) (nI 2) ((f_Mod_wants (nI 1) (nI 1) Z).2)).1) = 0) => ?_) (fun (H6 : ¬ ((f_Mod_wants (nI 0) (nI 2) ((f_Mod_wants (nI 1) (nI 1) Z).2)).1) = 0) => ?_)
          · refine pw_iconst (v := nI 0) e_Mod_named_70 (by decide) ?_
            refine pw_iret e_Mod_named_71 rfl rfl ?_
            rw [f_Mod_named, if_pos H1, if_pos H2, if_neg H4, if_pos H5] at hk
            exact hk
          · exact absurd H6 (fun q => (wt_of (by decide) q).1 rfl)
        · refine pw_iconst (v := nI 1) e_Mod_named_37 (by decide) ?_
          refine pw_goto (tgt := 42) e_Mod_named_38 (by decide) ?_
          refine pw_iconst (v := nI 2) e_Mod_named_42 (by decide) ?_
          refine pw_detV (As := [.int (nI (1)), .int (nI (2))]) e_Mod_named_43 li_Mod_308 rfl (gO_get hnd (i := 0) rfl) (q_Mod_wants hst hnd (nI 1) (nI 2) ((f_Mod_wants (nI 1) (nI 1) Z).2) (gO_in hnd (fun _ z => z))) rfl (by decide) (Nat.le_of_ble_eq_true rfl) rfl ?_
          refine pw_sameG hnd ?_
          refine pw_if_eq (tgt := 70) e_Mod_named_46 (by decide) (fun (H7 : ((f_Mod_wants (nI 1) (nI 2) ((f_Mod_wants (nI 1) (nI 1) Z).2)).1) = 0) => ?_) (fun (H7 : ¬ ((f_Mod_wants (nI 1) (nI 2) ((f_Mod_wants (nI 1) (nI 1) Z).2)).1) = 0) => ?_)
          · refine pw_iconst (v := nI 0) e_Mod_named_70 (by decide) ?_
            refine pw_iret e_Mod_named_71 rfl rfl ?_
            rw [f_Mod_named, if_pos H1, if_pos H2, if_neg H4, if_neg H5, if_pos H7] at hk
            exact hk
          · refine pw_aload_n e_Mod_named_49 rfl ?_
            refine pw_aload_n e_Mod_named_50 rfl ?_
            refine pw_getf e_Mod_named_51 fl_Mod_292 (gO_get hnd (i := 0) rfl) rfl ?_
            refine pw_iload_n e_Mod_named_54 rfl ?_
            refine pw_icmp_ge (tgt := 62) e_Mod_named_55 (by decide) (fun (H8 : y ≤ (((f_Mod_wants (nI 1) (nI 2) ((f_Mod_wants (nI 1) (nI 1) Z).2)).2) 100 50)) => ?_) (fun (H8 : ¬ y ≤ (((f_Mod_wants (nI 1) (nI 2) ((f_Mod_wants (nI 1) (nI 1) Z).2)).2) 100 50)) => ?_)
            · refine pw_iconst (v := nI 0) e_Mod_named_62 (by decide) ?_
              refine pw_iconst (v := nI 3) e_Mod_named_63 (by decide) ?_
              refine pw_detV (As := [.int (nI (0)), .int (nI (3))]) e_Mod_named_64 li_Mod_308 rfl (gO_get hnd (i := 0) rfl) (q_Mod_wants hst hnd (nI 0) (nI 3) ((f_Mod_wants (nI 1) (nI 2) ((f_Mod_wants (nI 1) (nI 1) Z).2)).2) (gO_in hnd (fun _ z => z))) rfl (by decide) (Nat.le_of_ble_eq_true rfl) rfl ?_
              refine pw_sameG hnd ?_
              refine pw_if_ne (tgt := 72) e_Mod_named_67 (by decide) (fun (H9 : ¬ ((f_Mod_wants (nI 0) (nI 3) ((f_Mod_wants (nI 1) (nI 2) ((f_Mod_wants (nI 1) (nI 1) Z).2)).2)).1) = 0) => ?_) (fun (H9 : ((f_Mod_wants (nI 0) (nI 3) ((f_Mod_wants (nI 1) (nI 2) ((f_Mod_wants (nI 1) (nI 1) Z).2)).2)).1) = 0) => ?_)
              · exact absurd H9 (fun q => (wt_of (by decide) q).1 rfl)
              · refine pw_iconst (v := nI 0) e_Mod_named_70 (by decide) ?_
                refine pw_iret e_Mod_named_71 rfl rfl ?_
                rw [f_Mod_named, if_pos H1, if_pos H2, if_neg H4, if_neg H5, if_neg H7, if_pos H8] at hk
                exact hk
            · refine pw_iconst (v := nI 1) e_Mod_named_58 (by decide) ?_
              refine pw_goto (tgt := 63) e_Mod_named_59 (by decide) ?_
              refine pw_iconst (v := nI 3) e_Mod_named_63 (by decide) ?_
              refine pw_detV (As := [.int (nI (1)), .int (nI (3))]) e_Mod_named_64 li_Mod_308 rfl (gO_get hnd (i := 0) rfl) (q_Mod_wants hst hnd (nI 1) (nI 3) ((f_Mod_wants (nI 1) (nI 2) ((f_Mod_wants (nI 1) (nI 1) Z).2)).2) (gO_in hnd (fun _ z => z))) rfl (by decide) (Nat.le_of_ble_eq_true rfl) rfl ?_
              refine pw_sameG hnd ?_
              refine pw_if_ne (tgt := 72) e_Mod_named_67 (by decide) (fun (H10 : ¬ ((f_Mod_wants (nI 1) (nI 3) ((f_Mod_wants (nI 1) (nI 2) ((f_Mod_wants (nI 1) (nI 1) Z).2)).2)).1) = 0) => ?_) (fun (H10 : ((f_Mod_wants (nI 1) (nI 3) ((f_Mod_wants (nI 1) (nI 2) ((f_Mod_wants (nI 1) (nI 1) Z).2)).2)).1) = 0) => ?_)
              · refine pw_aload_n e_Mod_named_72 rfl ?_
                refine pw_getf e_Mod_named_73 fl_Mod_292 (gO_get hnd (i := 0) rfl) rfl ?_
                refine pw_istore_n (ls2 := [_, _, _, _]) e_Mod_named_76 (by decide) rfl ?_
                refine pw_aload_n e_Mod_named_77 rfl ?_
                refine pw_detV (As := []) e_Mod_named_78 li_Mod_315 rfl (gO_get hnd (i := 0) rfl) (qs_Mod_go hst hnd ((f_Mod_wants (nI 1) (nI 3) ((f_Mod_wants (nI 1) (nI 2) ((f_Mod_wants (nI 1) (nI 1) Z).2)).2)).2) (gO_in hnd (fun _ z => z)) (g_wants (g_wants (g_wants hw)))) rfl (by decide) (Nat.le_of_ble_eq_true rfl) rfl ?_
                refine pw_sameG hnd ?_
                refine pw_iload_n e_Mod_named_81 rfl ?_
                refine pw_iret e_Mod_named_82 rfl rfl ?_
                rw [f_Mod_named, if_pos H1, if_pos H2, if_neg H4, if_neg H5, if_neg H7, if_neg H8, if_neg H10] at hk
                exact hk
              · refine pw_iconst (v := nI 0) e_Mod_named_70 (by decide) ?_
                refine pw_iret e_Mod_named_71 rfl rfl ?_
                rw [f_Mod_named, if_pos H1, if_pos H2, if_neg H4, if_neg H5, if_neg H7, if_neg H8, if_pos H10] at hk
                exact hk
theorem q_Mod_named {g : GG} {h : Hp} (hst : (gl g).stackTraces = false) {A : Nat → Nat} (hnd : (gK (moL g A)).Nodup) (x : Int32) (y : Int32)  (Z : Nat → Nat → Int32) (hm : ∀ q ∈ gO (moL g A) Z, h q.1 = some q.2) (hw : GoI Z) : PM g M_Mod_named 3 0 0 [.ref (A 100), .int (x), .int (y)] h (RetV (some (.int (f_Mod_named x y Z).1)) (ov h (gO (moL g A) ((f_Mod_named x y Z).2)))) := by
  refine PM.of hst (by decide) rfl (fun v hv => ?_) (Nat.le_of_ble_eq_true rfl) ?_
  · simp only [List.mem_cons, List.not_mem_nil, or_false] at hv; rcases hv with rfl | rfl | rfl <;> rfl
  · have hq := w_Mod_named_0 (g := g) (Q := RetV (some (.int (f_Mod_named x y Z).1)) (ov h (gO (moL g A) ((f_Mod_named x y Z).2)))) (h := h) (kc := 0) (ks := 0) hst hnd x y Z hw ?_
    · rw [ov_self hm] at hq; exact hq
    · exact ⟨rfl, rfl⟩

noncomputable def f_Mod_oneOf (x : Int32) (y : Int32) (Z : Nat → Nat → Int32) : Int32 × (Nat → Nat → Int32) :=
  if (Z 100 52) = 0 then if (Z 100 49) = 1 then if (f_Mod_within (Z 100 51) x ((x + y) - 1)) = 0 then (0, (f_Mod_wants (nI 0) (nI 1) Z).2) else if ((f_Mod_wants (nI 1) (nI 1) Z).1) = 0 then (0, (f_Mod_wants (nI 1) (nI 1) Z).2) else ((((f_Mod_wants (nI 1) (nI 1) Z).2) 100 51) - x, s_Mod_go ((f_Mod_wants (nI 1) (nI 1) Z).2)) else (0, (f_Mod_wants (nI 0) (nI 1) Z).2) else (0, Z)
set_option maxRecDepth 4000 in
theorem w_Mod_oneOf_0 {g : GG} {Q : QT} {h : Hp} {kc ks : Nat} (hst : (gl g).stackTraces = false) {A : Nat → Nat} (hnd : (gK (moL g A)).Nodup) (x : Int32) (y : Int32)  (Z : Nat → Nat → Int32) (hw : GoI Z) (hk : Q (.inl (some (.int (f_Mod_oneOf x y Z).1))) (ov h (gO (moL g A) ((f_Mod_oneOf x y Z).2)))) : PW g M_Mod_oneOf 3 kc ks Q 0 [.ref (A 100), .int (x), .int (y), .retAddr 0] [] (ov h (gO (moL g A) Z)) := by
  have hz0 := hw.1.2
  have hz1 := hw.2.1.2
  refine pw_aload_n e_Mod_oneOf_0 rfl ?_
  refine pw_getf e_Mod_oneOf_1 fl_Mod_305 (gO_get hnd (i := 0) rfl) rfl ?_
  refine pw_if_ne (tgt := 44) e_Mod_oneOf_4 (by decide) (fun (H1 : ¬ (Z 100 52) = 0) => ?_) (fun (H1 : (Z 100 52) = 0) => ?_)
  · refine pw_iconst (v := nI 0) e_Mod_oneOf_44 (by decide) ?_
    refine pw_iret e_Mod_oneOf_45 rfl rfl ?_
    rw [f_Mod_oneOf, if_neg H1] at hk
    exact hk
  · refine pw_aload_n e_Mod_oneOf_7 rfl ?_
    refine pw_aload_n e_Mod_oneOf_8 rfl ?_
    refine pw_getf e_Mod_oneOf_9 fl_Mod_295 (gO_get hnd (i := 0) rfl) rfl ?_
    refine pw_iconst (v := nI 1) e_Mod_oneOf_12 (by decide) ?_
    refine pw_icmp_ne (tgt := 36) e_Mod_oneOf_13 (by decide) (fun (H2 : ¬ (Z 100 49) = 1) => ?_) (fun (H2 : (Z 100 49) = 1) => ?_)
    · refine pw_iconst (v := nI 0) e_Mod_oneOf_36 (by decide) ?_
      refine pw_iconst (v := nI 1) e_Mod_oneOf_37 (by decide) ?_
      refine pw_detV (As := [.int (nI (0)), .int (nI (1))]) e_Mod_oneOf_38 li_Mod_308 rfl (gO_get hnd (i := 0) rfl) (q_Mod_wants hst hnd (nI 0) (nI 1) Z (gO_in hnd (fun _ z => z))) rfl (by decide) (Nat.le_of_ble_eq_true rfl) rfl ?_
      refine pw_sameG hnd ?_
      refine pw_if_ne (tgt := 46) e_Mod_oneOf_41 (by decide) (fun (H3 : ¬ ((f_Mod_wants (nI 0) (nI 1) Z).1) = 0) => ?_) (fun (H3 : ((f_Mod_wants (nI 0) (nI 1) Z).1) = 0) => ?_)
      · exact absurd H3 (fun q => (wt_of (by decide) q).1 rfl)
      · refine pw_iconst (v := nI 0) e_Mod_oneOf_44 (by decide) ?_
        refine pw_iret e_Mod_oneOf_45 rfl rfl ?_
        rw [f_Mod_oneOf, if_pos H1, if_neg H2] at hk
        exact hk
    · refine pw_aload_n e_Mod_oneOf_16 rfl ?_
      refine pw_getf e_Mod_oneOf_17 fl_Mod_289 (gO_get hnd (i := 0) rfl) rfl ?_
      refine pw_iload_n e_Mod_oneOf_20 rfl ?_
      refine pw_iload_n e_Mod_oneOf_21 rfl ?_
      refine pw_iload_n e_Mod_oneOf_22 rfl ?_
      refine pw_iadd e_Mod_oneOf_23 ?_
      refine pw_iconst (v := nI 1) e_Mod_oneOf_24 (by decide) ?_
      refine pw_isub e_Mod_oneOf_25 ?_
      refine pw_detS (As := [.int (Z 100 51), .int (x), .int ((x + y) - 1)]) e_Mod_oneOf_26 li_Mod_312 (q_Mod_within hst (Z 100 51) x ((x + y) - 1)) rfl (by decide) (Nat.le_of_ble_eq_true rfl) rfl ?_
      refine pw_if_eq (tgt := 36) e_Mod_oneOf_29 (by decide) (fun (H4 : (f_Mod_within (Z 100 51) x ((x + y) - 1)) = 0) => ?_) (fun (H4 : ¬ (f_Mod_within (Z 100 51) x ((x + y) - 1)) = 0) => ?_)
      · refine pw_iconst (v := nI 0) e_Mod_oneOf_36 (by decide) ?_
        refine pw_iconst (v := nI 1) e_Mod_oneOf_37 (by decide) ?_
        refine pw_detV (As := [.int (nI (0)), .int (nI (1))]) e_Mod_oneOf_38 li_Mod_308 rfl (gO_get hnd (i := 0) rfl) (q_Mod_wants hst hnd (nI 0) (nI 1) Z (gO_in hnd (fun _ z => z))) rfl (by decide) (Nat.le_of_ble_eq_true rfl) rfl ?_
        refine pw_sameG hnd ?_
        refine pw_if_ne (tgt := 46) e_Mod_oneOf_41 (by decide) (fun (H5 : ¬ ((f_Mod_wants (nI 0) (nI 1) Z).1) = 0) => ?_) (fun (H5 : ((f_Mod_wants (nI 0) (nI 1) Z).1) = 0) => ?_)
        · exact absurd H5 (fun q => (wt_of (by decide) q).1 rfl)
        · refine pw_iconst (v := nI 0) e_Mod_oneOf_44 (by decide) ?_
          refine pw_iret e_Mod_oneOf_45 rfl rfl ?_
          rw [f_Mod_oneOf, if_pos H1, if_pos H2, if_pos H4] at hk
          exact hk
      · refine pw_iconst (v := nI 1) e_Mod_oneOf_32 (by decide) ?_
        refine pw_goto (tgt := 37) e_Mod_oneOf_33 (by decide) ?_
        refine pw_iconst (v := nI 1) e_Mod_oneOf_37 (by decide) ?_
        refine pw_detV (As := [.int (nI (1)), .int (nI (1))]) e_Mod_oneOf_38 li_Mod_308 rfl (gO_get hnd (i := 0) rfl) (q_Mod_wants hst hnd (nI 1) (nI 1) Z (gO_in hnd (fun _ z => z))) rfl (by decide) (Nat.le_of_ble_eq_true rfl) rfl ?_
        refine pw_sameG hnd ?_
        refine pw_if_ne (tgt := 46) e_Mod_oneOf_41 (by decide) (fun (H6 : ¬ ((f_Mod_wants (nI 1) (nI 1) Z).1) = 0) => ?_) (fun (H6 : ((f_Mod_wants (nI 1) (nI 1) Z).1) = 0) => ?_)
        · refine pw_aload_n e_Mod_oneOf_46 rfl ?_
          refine pw_getf e_Mod_oneOf_47 fl_Mod_289 (gO_get hnd (i := 0) rfl) rfl ?_
          refine pw_iload_n e_Mod_oneOf_50 rfl ?_
          refine pw_isub e_Mod_oneOf_51 ?_
          refine pw_istore_n (ls2 := [_, _, _, _]) e_Mod_oneOf_52 (by decide) rfl ?_
          refine pw_aload_n e_Mod_oneOf_53 rfl ?_
          refine pw_detV (As := []) e_Mod_oneOf_54 li_Mod_315 rfl (gO_get hnd (i := 0) rfl) (qs_Mod_go hst hnd ((f_Mod_wants (nI 1) (nI 1) Z).2) (gO_in hnd (fun _ z => z)) (g_wants hw)) rfl (by decide) (Nat.le_of_ble_eq_true rfl) rfl ?_
          refine pw_sameG hnd ?_
          refine pw_iload_n e_Mod_oneOf_57 rfl ?_
          refine pw_iret e_Mod_oneOf_58 rfl rfl ?_
          rw [f_Mod_oneOf, if_pos H1, if_pos H2, if_neg H4, if_neg H6] at hk
          exact hk
        · refine pw_iconst (v := nI 0) e_Mod_oneOf_44 (by decide) ?_
          refine pw_iret e_Mod_oneOf_45 rfl rfl ?_
          rw [f_Mod_oneOf, if_pos H1, if_pos H2, if_neg H4, if_pos H6] at hk
          exact hk
theorem q_Mod_oneOf {g : GG} {h : Hp} (hst : (gl g).stackTraces = false) {A : Nat → Nat} (hnd : (gK (moL g A)).Nodup) (x : Int32) (y : Int32)  (Z : Nat → Nat → Int32) (hm : ∀ q ∈ gO (moL g A) Z, h q.1 = some q.2) (hw : GoI Z) : PM g M_Mod_oneOf 3 0 0 [.ref (A 100), .int (x), .int (y)] h (RetV (some (.int (f_Mod_oneOf x y Z).1)) (ov h (gO (moL g A) ((f_Mod_oneOf x y Z).2)))) := by
  refine PM.of hst (by decide) rfl (fun v hv => ?_) (Nat.le_of_ble_eq_true rfl) ?_
  · simp only [List.mem_cons, List.not_mem_nil, or_false] at hv; rcases hv with rfl | rfl | rfl <;> rfl
  · have hq := w_Mod_oneOf_0 (g := g) (Q := RetV (some (.int (f_Mod_oneOf x y Z).1)) (ov h (gO (moL g A) ((f_Mod_oneOf x y Z).2)))) (h := h) (kc := 0) (ks := 0) hst hnd x y Z hw ?_
    · rw [ov_self hm] at hq; exact hq
    · exact ⟨rfl, rfl⟩

