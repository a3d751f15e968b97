/-! the object: undo, image, restore (written by wip/whole/c_mem.py) -/
theorem nt_kl {g : GG} {h : Hp} {A : Nat → Nat} {S : SA} {P Y Z : Nat → Nat → Int32} (hnd : (gK (bsL g A S P Y)).Nodup) : ∀ (i : Nat) (q : Nat × va_E), (gO (ntL g (fun i => A (310 + i))) (fun k => Z (310 + k)))[i]? = some q → ∀ {l : List (Nat × va_E)}, l.map Prod.fst = gK (ntL g (fun i => A (410 + i))) → ov (ov h (gO (bsL g A S P Y) Z)) l q.1 = some q.2 := by
  intro i q hq l hl
  have hi : i < 4 := (List.getElem?_eq_some_iff.mp hq).1
  rcases (by omega : i = 0 ∨ i = 1 ∨ i = 2 ∨ i = 3) with rfl | rfl | rfl | rfl
  · cases hq
    show ov (ov h (gO (bsL g A S P Y) Z)) l (A 310) = some _
    rw [ov_none (by
      rw [hl]
      show A 310 ∉ [A 410, A 411, A 412, A 413]
      simp only [List.mem_cons, List.not_mem_nil, or_false, not_or]
      exact ⟨gK_ne hnd (i := 36) (j := 46) rfl rfl (by decide), gK_ne hnd (i := 36) (j := 47) rfl rfl (by decide), gK_ne hnd (i := 36) (j := 48) rfl rfl (by decide), gK_ne hnd (i := 36) (j := 49) rfl rfl (by decide)⟩)]
    exact gO_get hnd (i := 36) rfl
  · cases hq
    show ov (ov h (gO (bsL g A S P Y) Z)) l (A 311) = some _
    rw [ov_none (by
      rw [hl]
      show A 311 ∉ [A 410, A 411, A 412, A 413]
      simp only [List.mem_cons, List.not_mem_nil, or_false, not_or]
      exact ⟨gK_ne hnd (i := 37) (j := 46) rfl rfl (by decide), gK_ne hnd (i := 37) (j := 47) rfl rfl (by decide), gK_ne hnd (i := 37) (j := 48) rfl rfl (by decide), gK_ne hnd (i := 37) (j := 49) rfl rfl (by decide)⟩)]
    exact gO_get hnd (i := 37) rfl
  · cases hq
    show ov (ov h (gO (bsL g A S P Y) Z)) l (A 312) = some _
    rw [ov_none (by
      rw [hl]
      show A 312 ∉ [A 410, A 411, A 412, A 413]
      simp only [List.mem_cons, List.not_mem_nil, or_false, not_or]
      exact ⟨gK_ne hnd (i := 38) (j := 46) rfl rfl (by decide), gK_ne hnd (i := 38) (j := 47) rfl rfl (by decide), gK_ne hnd (i := 38) (j := 48) rfl rfl (by decide), gK_ne hnd (i := 38) (j := 49) rfl rfl (by decide)⟩)]
    exact gO_get hnd (i := 38) rfl
  · cases hq
    show ov (ov h (gO (bsL g A S P Y) Z)) l (A 313) = some _
    rw [ov_none (by
      rw [hl]
      show A 313 ∉ [A 410, A 411, A 412, A 413]
      simp only [List.mem_cons, List.not_mem_nil, or_false, not_or]
      exact ⟨gK_ne hnd (i := 39) (j := 46) rfl rfl (by decide), gK_ne hnd (i := 39) (j := 47) rfl rfl (by decide), gK_ne hnd (i := 39) (j := 48) rfl rfl (by decide), gK_ne hnd (i := 39) (j := 49) rfl rfl (by decide)⟩)]
    exact gO_get hnd (i := 39) rfl
theorem nt_lk {g : GG} {h : Hp} {A : Nat → Nat} {S : SA} {P Y Z : Nat → Nat → Int32} (hnd : (gK (bsL g A S P Y)).Nodup) : ∀ (i : Nat) (q : Nat × va_E), (gO (ntL g (fun i => A (410 + i))) (fun k => Z (410 + k)))[i]? = some q → ∀ {l : List (Nat × va_E)}, l.map Prod.fst = gK (ntL g (fun i => A (310 + i))) → ov (ov h (gO (bsL g A S P Y) Z)) l q.1 = some q.2 := by
  intro i q hq l hl
  have hi : i < 4 := (List.getElem?_eq_some_iff.mp hq).1
  rcases (by omega : i = 0 ∨ i = 1 ∨ i = 2 ∨ i = 3) with rfl | rfl | rfl | rfl
  · cases hq
    show ov (ov h (gO (bsL g A S P Y) Z)) l (A 410) = some _
    rw [ov_none (by
      rw [hl]
      show A 410 ∉ [A 310, A 311, A 312, A 313]
      simp only [List.mem_cons, List.not_mem_nil, or_false, not_or]
      exact ⟨gK_ne hnd (i := 46) (j := 36) rfl rfl (by decide), gK_ne hnd (i := 46) (j := 37) rfl rfl (by decide), gK_ne hnd (i := 46) (j := 38) rfl rfl (by decide), gK_ne hnd (i := 46) (j := 39) rfl rfl (by decide)⟩)]
    exact gO_get hnd (i := 46) rfl
  · cases hq
    show ov (ov h (gO (bsL g A S P Y) Z)) l (A 411) = some _
    rw [ov_none (by
      rw [hl]
      show A 411 ∉ [A 310, A 311, A 312, A 313]
      simp only [List.mem_cons, List.not_mem_nil, or_false, not_or]
      exact ⟨gK_ne hnd (i := 47) (j := 36) rfl rfl (by decide), gK_ne hnd (i := 47) (j := 37) rfl rfl (by decide), gK_ne hnd (i := 47) (j := 38) rfl rfl (by decide), gK_ne hnd (i := 47) (j := 39) rfl rfl (by decide)⟩)]
    exact gO_get hnd (i := 47) rfl
  · cases hq
    show ov (ov h (gO (bsL g A S P Y) Z)) l (A 412) = some _
    rw [ov_none (by
      rw [hl]
      show A 412 ∉ [A 310, A 311, A 312, A 313]
      simp only [List.mem_cons, List.not_mem_nil, or_false, not_or]
      exact ⟨gK_ne hnd (i := 48) (j := 36) rfl rfl (by decide), gK_ne hnd (i := 48) (j := 37) rfl rfl (by decide), gK_ne hnd (i := 48) (j := 38) rfl rfl (by decide), gK_ne hnd (i := 48) (j := 39) rfl rfl (by decide)⟩)]
    exact gO_get hnd (i := 48) rfl
  · cases hq
    show ov (ov h (gO (bsL g A S P Y) Z)) l (A 413) = some _
    rw [ov_none (by
      rw [hl]
      show A 413 ∉ [A 310, A 311, A 312, A 313]
      simp only [List.mem_cons, List.not_mem_nil, or_false, not_or]
      exact ⟨gK_ne hnd (i := 49) (j := 36) rfl rfl (by decide), gK_ne hnd (i := 49) (j := 37) rfl rfl (by decide), gK_ne hnd (i := 49) (j := 38) rfl rfl (by decide), gK_ne hnd (i := 49) (j := 39) rfl rfl (by decide)⟩)]
    exact gO_get hnd (i := 49) rfl
def f_MemI_35 (P : Nat → Nat → Int32) : Nat → (Nat → Nat → Int32) → (Nat) → (Nat → Nat → Int32)
  | 0, Z, _ => Z
  | t + 1, Z, k => if 3 ≤ k then Z else f_MemI_35 P t (u2 Z 405 k ((Z 305) k)) (k + 1)
set_option maxRecDepth 4000 in
theorem w_MemI_35 {g : GG} {Q : QT} {h : Hp} {kc ks : Nat} (hst : (gl g).stackTraces = false) {A : Nat → Nat} {S : SA} {P Y : Nat → Nat → Int32} (hnd : (gK (bsL g A S P Y)).Nodup) (hw : wfP P)  (t : Nat) : ∀ (Z : Nat → Nat → Int32) (k : Nat) (hk9 : k ≤ 3) (hlt : 3 - k < t) (hk : Q (.inl none) (ov h (gO (bsL g A S P Y) (f_MemI_35 P t Z k)))), PW g M_Memory_copyFrom 4 kc ks Q 35 [.ref (A 400), .ref (A 300), .int (nI (k))] [] (ov h (gO (bsL g A S P Y) Z)) := by
  induction t with
  | zero => intro Z k hk9 hlt _; exact absurd hlt (Nat.not_lt_zero _)
  | succ t ih =>
    intro Z k hk9 hlt hk
    have hz0 := hw.blk.2
    have hz1 := hw.lnk.2
    have hz2 := hw.dvs.2
    refine pw_iload_n e_Memory_copyFrom_35 rfl ?_
    refine pw_iconst (v := nI 3) e_Memory_copyFrom_36 (by decide) ?_
    refine pw_icmp_geN (tgt := 58) e_Memory_copyFrom_37 (by decide) (by omega) (by omega) (fun (Hq_1 : 3 ≤ k) => ?_) (fun (Hq_1 : k < 3) => ?_)
    · refine pw_vret e_Memory_copyFrom_58 rfl ?_
      rw [f_MemI_35, if_pos Hq_1] at hk
      exact hk
    · refine pw_aload_n e_Memory_copyFrom_40 rfl ?_
      refine pw_getf e_Memory_copyFrom_41 fl_Memory_32 (gO_get hnd (i := 41) rfl) rfl ?_
      refine pw_iload_n e_Memory_copyFrom_44 rfl ?_
      refine pw_aload_n e_Memory_copyFrom_45 rfl ?_
      refine pw_getf e_Memory_copyFrom_46 fl_Memory_32 (gO_get hnd (i := 31) rfl) rfl ?_
      refine pw_iload_n e_Memory_copyFrom_49 rfl ?_
      refine pw_ialdN e_Memory_copyFrom_50 (gO_get hnd (i := 40) rfl) (by omega) (by decide) ?_
      refine pw_iastG (i := 50) e_Memory_copyFrom_51 hnd (bs_x _ _ _ _ _) rfl (by omega) (by decide) ?_
      refine pw_iincN (ls2 := [_, _, _]) e_Memory_copyFrom_52 rfl (by decide) rfl ?_
      refine pw_goto (tgt := 35) e_Memory_copyFrom_55 (by decide) ?_
      refine ih (u2 Z 405 k ((Z 305) k)) (k + 1) (by omega) (by omega) ?_
      rw [f_MemI_35, if_neg (Nat.not_le.mpr Hq_1)] at hk
      exact hk
def f_MemI_22 (P : Nat → Nat → Int32) (Z : Nat → Nat → Int32) : (Nat → Nat → Int32) :=
  f_MemI_35 P 4 (mixK [410, 411, 412, 413] (fun k => f_Noted_copyFrom (pN Z 310 0) (fun k => Z (310 + k)) (fun k => Z (410 + k)) (k - 410)) Z) 0
set_option maxRecDepth 4000 in
theorem w_MemI_22 {g : GG} {Q : QT} {h : Hp} {kc ks : Nat} (hst : (gl g).stackTraces = false) {A : Nat → Nat} {S : SA} {P Y : Nat → Nat → Int32} (hnd : (gK (bsL g A S P Y)).Nodup) (hw : wfP P)  (Z : Nat → Nat → Int32) (hN : Z 310 0 = nI (pN Z 310 0) ∧ pN Z 310 0 < 7) (hk : Q (.inl none) (ov h (gO (bsL g A S P Y) (f_MemI_22 P Z)))) : PW g M_Memory_copyFrom 4 kc ks Q 22 [.ref (A 400), .ref (A 300), .retAddr 0] [] (ov h (gO (bsL g A S P Y) Z)) := by
  have hz0 := hw.blk.2
  have hz1 := hw.lnk.2
  have hz2 := hw.dvs.2
  refine pw_aload_n e_Memory_copyFrom_22 rfl ?_
  refine pw_getf e_Memory_copyFrom_23 fl_Memory_28 (gO_get hnd (i := 41) rfl) rfl ?_
  refine pw_aload_n e_Memory_copyFrom_26 rfl ?_
  refine pw_getf e_Memory_copyFrom_27 fl_Memory_28 (gO_get hnd (i := 31) rfl) rfl ?_
  refine pw_detV (As := [.ref (A 310)]) e_Memory_copyFrom_30 li_Memory_46 rfl (gO_get hnd (i := 46) rfl) (q_Noted_copyFrom (ad := fun i => A (410 + i)) (bd := fun i => A (310 + i)) hst (nd_nt_k hnd) (pN Z 310 0) (fun k => Z (310 + k)) (by have := hN.2; omega) hN.1 (nt_kl hnd) (fun k => Z (410 + k)) (gO_inS hnd (bs_nt_k _ _ _ _ _))) rfl (by decide) (Nat.le_of_ble_eq_true rfl) rfl ?_
  refine pw_shG (b := 410) hnd (bs_x _ _ _ _ _) (nd_nt_k hnd) (bs_nt_k _ _ _ _ _) ?_
  refine pw_iconst (v := nI 0) e_Memory_copyFrom_33 (by decide) ?_
  refine pw_istore_n (ls2 := [_, _, _]) e_Memory_copyFrom_34 (by decide) rfl ?_
  refine w_MemI_35 hst hnd hw 4 (mixK [410, 411, 412, 413] (fun k => f_Noted_copyFrom (pN Z 310 0) (fun k => Z (310 + k)) (fun k => Z (410 + k)) (k - 410)) Z) 0 (by omega) (by omega) ?_
  rw [f_MemI_22] at hk
  exact hk

def f_MemR_35 (P : Nat → Nat → Int32) : Nat → (Nat → Nat → Int32) → (Nat) → (Nat → Nat → Int32)
  | 0, Z, _ => Z
  | t + 1, Z, k => if 3 ≤ k then Z else f_MemR_35 P t (u2 Z 305 k ((Z 405) k)) (k + 1)
set_option maxRecDepth 4000 in
theorem w_MemR_35 {g : GG} {Q : QT} {h : Hp} {kc ks : Nat} (hst : (gl g).stackTraces = false) {A : Nat → Nat} {S : SA} {P Y : Nat → Nat → Int32} (hnd : (gK (bsL g A S P Y)).Nodup) (hw : wfP P)  (t : Nat) : ∀ (Z : Nat → Nat → Int32) (k : Nat) (hk9 : k ≤ 3) (hlt : 3 - k < t) (hk : Q (.inl none) (ov h (gO (bsL g A S P Y) (f_MemR_35 P t Z k)))), PW g M_Memory_copyFrom 4 kc ks Q 35 [.ref (A 300), .ref (A 400), .int (nI (k))] [] (ov h (gO (bsL g A S P Y) Z)) := by
  induction t with
  | zero => intro Z k hk9 hlt _; exact absurd hlt (Nat.not_lt_zero _)
  | succ t ih =>
    intro Z k hk9 hlt hk
    have hz0 := hw.blk.2
    have hz1 := hw.lnk.2
    have hz2 := hw.dvs.2
    refine pw_iload_n e_Memory_copyFrom_35 rfl ?_
    refine pw_iconst (v := nI 3) e_Memory_copyFrom_36 (by decide) ?_
    refine pw_icmp_geN (tgt := 58) e_Memory_copyFrom_37 (by decide) (by omega) (by omega) (fun (Hq_1 : 3 ≤ k) => ?_) (fun (Hq_1 : k < 3) => ?_)
    · refine pw_vret e_Memory_copyFrom_58 rfl ?_
      rw [f_MemR_35, if_pos Hq_1] at hk
      exact hk
    · refine pw_aload_n e_Memory_copyFrom_40 rfl ?_
      refine pw_getf e_Memory_copyFrom_41 fl_Memory_32 (gO_get hnd (i := 31) rfl) rfl ?_
      refine pw_iload_n e_Memory_copyFrom_44 rfl ?_
      refine pw_aload_n e_Memory_copyFrom_45 rfl ?_
      refine pw_getf e_Memory_copyFrom_46 fl_Memory_32 (gO_get hnd (i := 41) rfl) rfl ?_
      refine pw_iload_n e_Memory_copyFrom_49 rfl ?_
      refine pw_ialdN e_Memory_copyFrom_50 (gO_get hnd (i := 50) rfl) (by omega) (by decide) ?_
      refine pw_iastG (i := 40) e_Memory_copyFrom_51 hnd (bs_x _ _ _ _ _) rfl (by omega) (by decide) ?_
      refine pw_iincN (ls2 := [_, _, _]) e_Memory_copyFrom_52 rfl (by decide) rfl ?_
      refine pw_goto (tgt := 35) e_Memory_copyFrom_55 (by decide) ?_
      refine ih (u2 Z 305 k ((Z 405) k)) (k + 1) (by omega) (by omega) ?_
      rw [f_MemR_35, if_neg (Nat.not_le.mpr Hq_1)] at hk
      exact hk
def f_MemR_22 (P : Nat → Nat → Int32) (Z : Nat → Nat → Int32) : (Nat → Nat → Int32) :=
  f_MemR_35 P 4 (mixK [310, 311, 312, 313] (fun k => f_Noted_copyFrom (pN Z 410 0) (fun k => Z (410 + k)) (fun k => Z (310 + k)) (k - 310)) Z) 0
set_option maxRecDepth 4000 in
theorem w_MemR_22 {g : GG} {Q : QT} {h : Hp} {kc ks : Nat} (hst : (gl g).stackTraces = false) {A : Nat → Nat} {S : SA} {P Y : Nat → Nat → Int32} (hnd : (gK (bsL g A S P Y)).Nodup) (hw : wfP P)  (Z : Nat → Nat → Int32) (hN : Z 410 0 = nI (pN Z 410 0) ∧ pN Z 410 0 < 7) (hk : Q (.inl none) (ov h (gO (bsL g A S P Y) (f_MemR_22 P Z)))) : PW g M_Memory_copyFrom 4 kc ks Q 22 [.ref (A 300), .ref (A 400), .retAddr 0] [] (ov h (gO (bsL g A S P Y) Z)) := by
  have hz0 := hw.blk.2
  have hz1 := hw.lnk.2
  have hz2 := hw.dvs.2
  refine pw_aload_n e_Memory_copyFrom_22 rfl ?_
  refine pw_getf e_Memory_copyFrom_23 fl_Memory_28 (gO_get hnd (i := 31) rfl) rfl ?_
  refine pw_aload_n e_Memory_copyFrom_26 rfl ?_
  refine pw_getf e_Memory_copyFrom_27 fl_Memory_28 (gO_get hnd (i := 41) rfl) rfl ?_
  refine pw_detV (As := [.ref (A 410)]) e_Memory_copyFrom_30 li_Memory_46 rfl (gO_get hnd (i := 36) rfl) (q_Noted_copyFrom (ad := fun i => A (310 + i)) (bd := fun i => A (410 + i)) hst (nd_nt_l hnd) (pN Z 410 0) (fun k => Z (410 + k)) (by have := hN.2; omega) hN.1 (nt_lk hnd) (fun k => Z (310 + k)) (gO_inS hnd (bs_nt_l _ _ _ _ _))) rfl (by decide) (Nat.le_of_ble_eq_true rfl) rfl ?_
  refine pw_shG (b := 310) hnd (bs_x _ _ _ _ _) (nd_nt_l hnd) (bs_nt_l _ _ _ _ _) ?_
  refine pw_iconst (v := nI 0) e_Memory_copyFrom_33 (by decide) ?_
  refine pw_istore_n (ls2 := [_, _, _]) e_Memory_copyFrom_34 (by decide) rfl ?_
  refine w_MemR_35 hst hnd hw 4 (mixK [310, 311, 312, 313] (fun k => f_Noted_copyFrom (pN Z 410 0) (fun k => Z (410 + k)) (fun k => Z (310 + k)) (k - 310)) Z) 0 (by omega) (by omega) ?_
  rw [f_MemR_22] at hk
  exact hk

theorem cpK_eq {K K2 : Nat → Nat → Int32} {f2 : Nat} : ∀ (n p : Nat), cpK K K2 f2 n p = if p < n then K2 ((f2 + p) % 40) else K p
  | 0, p => by rw [if_neg (by omega)]; rfl
  | n + 1, p => by
    rw [cpK]
    by_cases c : p = n
    · rw [c, up_same, if_pos (by omega)]
    · rw [up_ne c rfl, cpK_eq n p]
      by_cases c2 : p < n
      · rw [if_pos c2, if_pos (by omega)]
      · rw [if_neg c2, if_neg (by omega)]
/-- a history told over from another one -/
def hcZ (b hb ho : Nat) (Z : Nat → Nat → Int32) (f2 n2 : Nat) : Nat → Nat → Int32 := fun k => if hb ≤ k ∧ k < hb + 2 * n2 ∧ (k - hb) % 2 = 0 then Z (ho + 2 * ((f2 + (k - hb) / 2) % 40)) else u2 (u2 Z b 0 (nI n2)) b 1 (nI 0) k
theorem hz_k {b hb ho f2 n2 k : Nat} {Z : Nat → Nat → Int32} (h1 : k ≠ b) (h2 : ¬ (hb ≤ k ∧ k < hb + 2 * n2 ∧ (k - hb) % 2 = 0)) : hcZ b hb ho Z f2 n2 k = Z k := by
  unfold hcZ; rw [if_neg h2, u2_k h1, u2_k h1]
theorem hz_b {b hb ho f2 n2 : Nat} {Z : Nat → Nat → Int32} (h2 : b < hb) : hcZ b hb ho Z f2 n2 b = upd (upd (Z b) 0 (nI n2)) 1 (nI 0) := by
  unfold hcZ; rw [if_neg (by omega), u2_e, u2_e]
def sS1 (S : SA) (s : Nat → Option (Nat × Nat)) : SA := fun m => if m = 1 then s else S m
section
variable {g : GG} {A : Nat → Nat} {S : SA} {P Y Z : Nat → Nat → Int32} {h h' : Hp}
set_option maxRecDepth 4000 in
theorem hcp_W1 {s' : Nat → Option (Nat × Nat)} {f2 n2 : Nat} (hn2 : n2 ≤ 40) (hnd : (gK (bsL g A S P Y)).Nodup) (W : Wld g A S P Y Z h) (hF : HFr (fun x => x = A 404) (va_up h (A 403) (some (.inr (0, [.int (nI n2), .int (nI 0), .ref (A 404)])))) (S 1) h' s') (hC : HC g h' s' (cpK (fun p => Z (1001 + 2 * p)) (fun p => Z (1000 + 2 * p)) f2 n2)) (hs' : h' (A 404) = some (stA g s')) : Wld g A (sS1 S s') P Y (hcZ 403 1001 1000 Z f2 n2) h' ∧ CFr A S h (sS1 S s') h' := by
  have hs : h (A 404) = some (stA g (S 1)) := W.1.mem (q := (A 404, 404, fun _ => stA g (S 1))) (List.mem_of_getElem? (i := 45) rfl)
  have h3 : h (A 403) = some (.inr (0, [.int (Z 403 0), .int (Z 403 1), .ref (A 404)])) := W.1.mem (q := (A 403, 403, fun f => .inr (0, [.int (f 0), .int (f 1), .ref (A 404)]))) (List.mem_of_getElem? (i := 44) rfl)
  have n34 : A 403 ≠ A 404 := ne_c h3 hs (by simp [stA])
  have mA : ∀ x, x = A 403 ∨ x = A 404 → x ∈ bsA A := fun x q => by
    rw [← bs_gK g A S P Y]
    rcases q with q | q
    · rw [q]; exact List.mem_of_getElem? (i := 44) rfl
    · rw [q]; exact List.mem_of_getElem? (i := 45) rfl
  have nfr : ∀ x, (∀ e, va_up h (A 403) (some (.inr (0, [.int (nI n2), .int (nI 0), .ref (A 404)]))) x ≠ some e) → ∀ e, h x ≠ some e := fun x q e he => by
    have n : x ≠ A 403 := fun c => q _ (by rw [c]; exact up_same)
    exact q e (up_ne n he)
  have cl : ∀ p o c, S 1 p = some (o, c) → c ≠ A 403 ∧ o ≠ A 403 := fun p o c q => by
    obtain ⟨k1, k2⟩ := W.2.1.2.1 p o c q
    exact ⟨ne_c k2 h3 (by simp), ne_c k1 h3 (by simp)⟩
  have ha : h' (A 403) = some (.inr (0, [.int (nI n2), .int (nI 0), .ref (A 404)])) := hF.2.2.1 _ _ up_same n34 (fun p o c q => (cl p o c q).1.symm)
  have kp : ∀ x e, h x = some e → x ≠ A 403 → x ≠ A 404 → (∀ p o c, S 1 p = some (o, c) → x ≠ c) → h' x = some e := fun x e q n1 n2 hc => hF.2.2.1 x e (up_ne n1 q) n2 hc
  have fresh : ∀ p o c, s' p = some (o, c) → S 1 p = some (o, c) ∨ ((∀ e, h o ≠ some e) ∧ ∀ e, h c ≠ some e) := fun p o c q => by
    rcases hF.2.1 p o c q with r | ⟨r1, r2⟩
    · exact Or.inl r
    · exact Or.inr ⟨nfr o r1, nfr c r2⟩
  have nin : ∀ p o c, s' p = some (o, c) → o ∉ bsA A ∧ c ∉ bsA A := fun p o c q => by
    rcases fresh p o c q with q' | ⟨q1, q2⟩
    · exact W.2.2.2 1 p o c (by decide) q'
    · refine ⟨fun hx => ?_, fun hx => ?_⟩
      · obtain ⟨e, he⟩ := W.dom o hx; exact q1 e he
      · obtain ⟨e, he⟩ := W.dom c hx; exact q2 e he
  have dj : ∀ p o c p' o' c', s' p = some (o, c) → S 0 p' = some (o', c') → c ≠ c' := fun p o c p' o' c' q q' => by
    rcases fresh p o c q with r | ⟨-, q2⟩
    · exact fun e => W.2.2.1 p' o' c' p o c q' r e.symm
    · exact (ne_of (W.2.1.1.1 p' o' c' q').2 q2).symm
  have in0 : InG (bsL g A (sS1 S s') P Y) (hcZ 403 1001 1000 Z f2 n2) h' := by
    have eS : bsL g A (sS1 S s') P Y = (bsL g A S P Y).set 45 (A 404, 404, fun _ => stA g s') := rfl
    refine W.1.upd (fun x => x = A 403 ∨ x = A 404) (fun q hq hX => ⟨hz_k (fun c => ?_) (by have := bs_lt q hq; omega), ?_⟩) (fun q hq hX => ?_) (fun q hq hX => ?_)
    · obtain ⟨j, hj⟩ := List.getElem?_of_mem hq
      have hx : (gX (bsL g A S P Y))[j]? = some q.2.1 := by unfold gX; rw [List.getElem?_map, hj]; rfl
      have hx2 : (gX (bsL g A S P Y))[44]? = some 403 := rfl
      have ej : j = 44 := (List.getElem?_inj (List.getElem?_eq_some_iff.mp hx).1 (bs_x g A S P Y)).mp (by rw [hx, hx2, c])
      rw [ej] at hj
      have : q = (A 403, 403, fun f => .inr (0, [.int (f 0), .int (f 1), .ref (A 404)])) := (Option.some.inj hj).symm
      exact hX (Or.inl (by rw [this]))
    · have mm := W.1.mem hq
      rw [kp q.1 _ mm (fun z => hX (Or.inl z)) (fun z => hX (Or.inr z)) (fun p o c r => fun e => (W.2.2.2 1 p o c (by decide) r).2 (by rw [← e, ← bs_gK g A S P Y]; exact List.mem_map.mpr ⟨q, hq, rfl⟩)), mm]
    · by_cases c3 : q.1 = A 403
      · have := bs_only (S := sS1 S s') hnd (i := 44) rfl hq c3
        rw [this, hz_b (by decide)]; exact ha
      · have := bs_only (S := sS1 S s') hnd (i := 45) rfl hq (hX.resolve_left c3)
        rw [this]; exact hs'
    · rw [eS] at hq
      rcases set_mem hq with c | c
      · exact c
      · exact absurd (Or.inr (by rw [c])) hX
  have own : HC g h' s' (fun p => hcZ 403 1001 1000 Z f2 n2 (1001 + 2 * p)) := by
    refine hC.cg (fun p => ?_) (fun _ _ _ _ => ⟨rfl, rfl⟩)
    rw [cpK_eq]
    by_cases c : p < n2
    · rw [if_pos c]
      unfold hcZ
      rw [if_pos (by omega), show (1001 + 2 * p - 1001) / 2 = p by omega]
    · rw [if_neg c]; exact hz_k (by omega) (by omega)
  have lk : ∀ p o c, S 0 p = some (o, c) → h' o = h o ∧ h' c = h c := fun p o c q => by
    obtain ⟨k1, k2⟩ := W.2.1.1.1 p o c q
    obtain ⟨n1, n2'⟩ := W.2.2.2 0 p o c (by decide) q
    rw [kp o _ k1 (fun z => n1 (mA _ (Or.inl z))) (fun z => n1 (mA _ (Or.inr z))) (fun p' o' c' r => ne_c k1 (W.2.1.2.1 p' o' c' r).2 (by simp)), k1]
    rw [kp c _ k2 (fun z => n2' (mA _ (Or.inl z))) (fun z => n2' (mA _ (Or.inr z))) (fun p' o' c' r => W.2.2.1 p o c p' o' c' q r), k2]
    exact ⟨rfl, rfl⟩
  have fr : CFr A S h (sS1 S s') h' := by
    refine ⟨fun m p o c hm q => ?_, fun x e q hX hc => ?_, fun x e q => ?_⟩
    · rcases (by omega : m = 0 ∨ m = 1) with rfl | rfl
      · exact Or.inl q
      · exact fresh p o c q
    · exact kp x e q (fun z => hX (mA _ (Or.inl z))) (fun z => hX (mA _ (Or.inr z))) (fun p o c r => hc 1 p o c (by decide) r)
    · by_cases c : x = A 403
      · rw [c]; exact ⟨_, ha⟩
      · exact hF.2.2.2 x e (up_ne c q)
  have nx : ∀ m p o c, m < 2 → (sS1 S s') m p = some (o, c) → o ∉ bsA A ∧ c ∉ bsA A := fun m p o c hm q => by
    rcases (by omega : m = 0 ∨ m = 1) with rfl | rfl
    · exact W.2.2.2 0 p o c (by decide) q
    · exact nin p o c q
  have hot : HC g h' (S 0) (fun p => hcZ 403 1001 1000 Z f2 n2 (1000 + 2 * p)) := W.2.1.1.cg (fun p => hz_k (by omega) (by omega)) lk
  exact ⟨⟨in0, ⟨hot, own⟩, fun p o c p' o' c' q q' => fun e => dj p' o' c' p o c q' q e.symm, nx⟩, fr⟩
set_option maxRecDepth 4000 in
theorem hcp_W0 {s' : Nat → Option (Nat × Nat)} {f2 n2 : Nat} (hn2 : n2 ≤ 40) (hnd : (gK (bsL g A S P Y)).Nodup) (W : Wld g A S P Y Z h) (hF : HFr (fun x => x = A 304) (va_up h (A 303) (some (.inr (0, [.int (nI n2), .int (nI 0), .ref (A 304)])))) (S 0) h' s') (hC : HC g h' s' (cpK (fun p => Z (1000 + 2 * p)) (fun p => Z (1001 + 2 * p)) f2 n2)) (hs' : h' (A 304) = some (stA g s')) : Wld g A (sS S s') P Y (hcZ 303 1000 1001 Z f2 n2) h' ∧ CFr A S h (sS S s') h' := by
  have hs : h (A 304) = some (stA g (S 0)) := W.1.mem (q := (A 304, 304, fun _ => stA g (S 0))) (List.mem_of_getElem? (i := 35) rfl)
  have h3 : h (A 303) = some (.inr (0, [.int (Z 303 0), .int (Z 303 1), .ref (A 304)])) := W.1.mem (q := (A 303, 303, fun f => .inr (0, [.int (f 0), .int (f 1), .ref (A 304)]))) (List.mem_of_getElem? (i := 34) rfl)
  have n34 : A 303 ≠ A 304 := ne_c h3 hs (by simp [stA])
  have mA : ∀ x, x = A 303 ∨ x = A 304 → x ∈ bsA A := fun x q => by
    rw [← bs_gK g A S P Y]
    rcases q with q | q
    · rw [q]; exact List.mem_of_getElem? (i := 34) rfl
    · rw [q]; exact List.mem_of_getElem? (i := 35) rfl
  have nfr : ∀ x, (∀ e, va_up h (A 303) (some (.inr (0, [.int (nI n2), .int (nI 0), .ref (A 304)]))) x ≠ some e) → ∀ e, h x ≠ some e := fun x q e he => by
    have n : x ≠ A 303 := fun c => q _ (by rw [c]; exact up_same)
    exact q e (up_ne n he)
  have cl : ∀ p o c, S 0 p = some (o, c) → c ≠ A 303 ∧ o ≠ A 303 := fun p o c q => by
    obtain ⟨k1, k2⟩ := W.2.1.1.1 p o c q
    exact ⟨ne_c k2 h3 (by simp), ne_c k1 h3 (by simp)⟩
  have ha : h' (A 303) = some (.inr (0, [.int (nI n2), .int (nI 0), .ref (A 304)])) := hF.2.2.1 _ _ up_same n34 (fun p o c q => (cl p o c q).1.symm)
  have kp : ∀ x e, h x = some e → x ≠ A 303 → x ≠ A 304 → (∀ p o c, S 0 p = some (o, c) → x ≠ c) → h' x = some e := fun x e q n1 n2 hc => hF.2.2.1 x e (up_ne n1 q) n2 hc
  have fresh : ∀ p o c, s' p = some (o, c) → S 0 p = some (o, c) ∨ ((∀ e, h o ≠ some e) ∧ ∀ e, h c ≠ some e) := fun p o c q => by
    rcases hF.2.1 p o c q with r | ⟨r1, r2⟩
    · exact Or.inl r
    · exact Or.inr ⟨nfr o r1, nfr c r2⟩
  have nin : ∀ p o c, s' p = some (o, c) → o ∉ bsA A ∧ c ∉ bsA A := fun p o c q => by
    rcases fresh p o c q with q' | ⟨q1, q2⟩
    · exact W.2.2.2 0 p o c (by decide) q'
    · refine ⟨fun hx => ?_, fun hx => ?_⟩
      · obtain ⟨e, he⟩ := W.dom o hx; exact q1 e he
      · obtain ⟨e, he⟩ := W.dom c hx; exact q2 e he
  have dj : ∀ p o c p' o' c', s' p = some (o, c) → S 1 p' = some (o', c') → c ≠ c' := fun p o c p' o' c' q q' => by
    rcases fresh p o c q with r | ⟨-, q2⟩
    · exact W.2.2.1 p o c p' o' c' r q'
    · exact (ne_of (W.2.1.2.1 p' o' c' q').2 q2).symm
  have in0 : InG (bsL g A (sS S s') P Y) (hcZ 303 1000 1001 Z f2 n2) h' := by
    have eS : bsL g A (sS S s') P Y = (bsL g A S P Y).set 35 (A 304, 304, fun _ => stA g s') := rfl
    refine W.1.upd (fun x => x = A 303 ∨ x = A 304) (fun q hq hX => ⟨hz_k (fun c => ?_) (by have := bs_lt q hq; omega), ?_⟩) (fun q hq hX => ?_) (fun q hq hX => ?_)
    · obtain ⟨j, hj⟩ := List.getElem?_of_mem hq
      have hx : (gX (bsL g A S P Y))[j]? = some q.2.1 := by unfold gX; rw [List.getElem?_map, hj]; rfl
      have hx2 : (gX (bsL g A S P Y))[34]? = some 303 := rfl
      have ej : j = 34 := (List.getElem?_inj (List.getElem?_eq_some_iff.mp hx).1 (bs_x g A S P Y)).mp (by rw [hx, hx2, c])
      rw [ej] at hj
      have : q = (A 303, 303, fun f => .inr (0, [.int (f 0), .int (f 1), .ref (A 304)])) := (Option.some.inj hj).symm
      exact hX (Or.inl (by rw [this]))
    · have mm := W.1.mem hq
      rw [kp q.1 _ mm (fun z => hX (Or.inl z)) (fun z => hX (Or.inr z)) (fun p o c r => fun e => (W.2.2.2 0 p o c (by decide) r).2 (by rw [← e, ← bs_gK g A S P Y]; exact List.mem_map.mpr ⟨q, hq, rfl⟩)), mm]
    · by_cases c3 : q.1 = A 303
      · have := bs_only (S := sS S s') hnd (i := 34) rfl hq c3
        rw [this, hz_b (by decide)]; exact ha
      · have := bs_only (S := sS S s') hnd (i := 35) rfl hq (hX.resolve_left c3)
        rw [this]; exact hs'
    · rw [eS] at hq
      rcases set_mem hq with c | c
      · exact c
      · exact absurd (Or.inr (by rw [c])) hX
  have own : HC g h' s' (fun p => hcZ 303 1000 1001 Z f2 n2 (1000 + 2 * p)) := by
    refine hC.cg (fun p => ?_) (fun _ _ _ _ => ⟨rfl, rfl⟩)
    rw [cpK_eq]
    by_cases c : p < n2
    · rw [if_pos c]
      unfold hcZ
      rw [if_pos (by omega), show (1000 + 2 * p - 1000) / 2 = p by omega]
    · rw [if_neg c]; exact hz_k (by omega) (by omega)
  have lk : ∀ p o c, S 1 p = some (o, c) → h' o = h o ∧ h' c = h c := fun p o c q => by
    obtain ⟨k1, k2⟩ := W.2.1.2.1 p o c q
    obtain ⟨n1, n2'⟩ := W.2.2.2 1 p o c (by decide) q
    rw [kp o _ k1 (fun z => n1 (mA _ (Or.inl z))) (fun z => n1 (mA _ (Or.inr z))) (fun p' o' c' r => ne_c k1 (W.2.1.1.1 p' o' c' r).2 (by simp)), k1]
    rw [kp c _ k2 (fun z => n2' (mA _ (Or.inl z))) (fun z => n2' (mA _ (Or.inr z))) (fun p' o' c' r => (W.2.2.1 p' o' c' p o c r q).symm), k2]
    exact ⟨rfl, rfl⟩
  have fr : CFr A S h (sS S s') h' := by
    refine ⟨fun m p o c hm q => ?_, fun x e q hX hc => ?_, fun x e q => ?_⟩
    · rcases (by omega : m = 0 ∨ m = 1) with rfl | rfl
      · exact fresh p o c q
      · exact Or.inl q
    · exact kp x e q (fun z => hX (mA _ (Or.inl z))) (fun z => hX (mA _ (Or.inr z))) (fun p o c r => hc 0 p o c (by decide) r)
    · by_cases c : x = A 303
      · rw [c]; exact ⟨_, ha⟩
      · exact hF.2.2.2 x e (up_ne c q)
  have nx : ∀ m p o c, m < 2 → (sS S s') m p = some (o, c) → o ∉ bsA A ∧ c ∉ bsA A := fun m p o c hm q => by
    rcases (by omega : m = 0 ∨ m = 1) with rfl | rfl
    · exact nin p o c q
    · exact W.2.2.2 1 p o c (by decide) q
  have hot : HC g h' (S 1) (fun p => hcZ 303 1000 1001 Z f2 n2 (1001 + 2 * p)) := W.2.1.2.cg (fun p => hz_k (by omega) (by omega)) lk
  exact ⟨⟨in0, ⟨own, hot⟩, dj, nx⟩, fr⟩
end
