/-! images, alike on both sides -/
theorem nc_10 {n : Nat} {K : Zf} : ∀ (t k : Nat) (L : Zf), n - k < t → (∀ j, j ≠ 1 → j ≠ 2 → j ≠ 3 → f_Noted_copyFrom_10 n K t L k j = L j) ∧ ∀ j, j = 1 ∨ j = 2 ∨ j = 3 → ∀ i, f_Noted_copyFrom_10 n K t L k j i = if k ≤ i ∧ i < n then K j i else L j i := by
  intro t
  induction t with
  | zero => intro k L h; omega
  | succ t ih =>
    intro k L h
    rw [f_Noted_copyFrom_10]
    by_cases q : n ≤ k
    · rw [if_pos q]
      exact ⟨fun _ _ _ _ => rfl, fun j _ i => by rw [if_neg (by omega)]⟩
    · rw [if_neg q]
      obtain ⟨i1, i2⟩ := ih (k + 1) (u2 (u2 (u2 L 1 k (K 1 k)) 2 k (K 2 k)) 3 k (K 3 k)) (by omega)
      refine ⟨fun j a b c => by rw [i1 j a b c, u2_k c, u2_k b, u2_k a], fun j hj i => ?_⟩
      rw [i2 j hj i]
      by_cases q1 : k + 1 ≤ i ∧ i < n
      · rw [if_pos q1, if_pos (by omega)]
      · rw [if_neg q1]
        have e : u2 (u2 (u2 L 1 k (K 1 k)) 2 k (K 2 k)) 3 k (K 3 k) j i = if i = k then K j k else L j i := by
          rcases hj with rfl | rfl | rfl
          · rw [u2_k (by decide), u2_k (by decide), u2_e]; rfl
          · rw [u2_k (by decide), u2_e, u2_k (by decide)]; rfl
          · rw [u2_e, u2_k (by decide), u2_k (by decide)]; rfl
        rw [e]
        by_cases q2 : i = k
        · subst q2
          rw [if_pos rfl, if_pos (by omega)]
        · rw [if_neg q2, if_neg (by omega)]
theorem nc_sp {n : Nat} {K L : Zf} (hn : n < 7) : f_Noted_copyFrom n K L 0 0 = nI n ∧ ∀ j, j = 1 ∨ j = 2 ∨ j = 3 → ∀ i, f_Noted_copyFrom n K L j i = if i < n then K j i else L j i := by
  unfold f_Noted_copyFrom
  obtain ⟨i1, i2⟩ := nc_10 (n := n) (K := K) 7 0 (u2 L 0 0 (nI n)) (by omega)
  refine ⟨by rw [i1 0 (by decide) (by decide) (by decide)]; exact u2_s, fun j hj i => ?_⟩
  rw [i2 j hj i, u2_k (by omega)]
  by_cases q : i < n
  · rw [if_pos q, if_pos (by omega)]
  · rw [if_neg q, if_neg (by omega)]
theorem mi_35 {P : Zf} : ∀ (t k : Nat) (Z : Zf), 3 - k < t → ∀ i, f_MemI_35 P t Z k 405 i = if k ≤ i ∧ i < 3 then Z 305 i else Z 405 i := by
  intro t
  induction t with
  | zero => intro k Z h; omega
  | succ t ih =>
    intro k Z h i
    rw [f_MemI_35]
    by_cases q : 3 ≤ k
    · rw [if_pos q, if_neg (by omega)]
    · rw [if_neg q, ih (k + 1) _ (by omega)]
      by_cases q1 : k + 1 ≤ i ∧ i < 3
      · rw [if_pos q1, if_pos (by omega), u2_k (by decide)]
      · rw [if_neg q1]
        by_cases q2 : i = k
        · subst q2
          rw [if_pos (by omega), u2_s]
        · rw [if_neg (by omega), u2_i q2 rfl]
theorem mr_35 {P : Zf} : ∀ (t k : Nat) (Z : Zf), 3 - k < t → (∀ j, j ≠ 305 → f_MemR_35 P t Z k j = Z j) ∧ ∀ i, f_MemR_35 P t Z k 305 i = if k ≤ i ∧ i < 3 then Z 405 i else Z 305 i := by
  intro t
  induction t with
  | zero => intro k Z h; omega
  | succ t ih =>
    intro k Z h
    rw [f_MemR_35]
    by_cases q : 3 ≤ k
    · rw [if_pos q]
      exact ⟨fun _ _ => rfl, fun i => by rw [if_neg (by omega)]⟩
    · rw [if_neg q]
      obtain ⟨i1, i2⟩ := ih (k + 1) (u2 Z 305 k (Z 405 k)) (by omega)
      refine ⟨fun j hj => by rw [i1 j hj, u2_k hj], fun i => ?_⟩
      rw [i2 i]
      by_cases q1 : k + 1 ≤ i ∧ i < 3
      · rw [if_pos q1, if_pos (by omega), u2_k (by decide)]
      · rw [if_neg q1]
        by_cases q2 : i = k
        · subst q2
          rw [if_pos (by omega), u2_s]
        · rw [if_neg (by omega), u2_i q2 rfl]
theorem mx_n4 {F Z : Zf} {k : Nat} (h : k < 410 ∨ 413 < k) : mixK [410, 411, 412, 413] F Z k = Z k := mix_o (by simp only [List.mem_cons, List.not_mem_nil, or_false]; omega)
theorem hc_o {b hb ho : Nat} {Z : Zf} {f n k : Nat} (h : k < hb ∨ hb + 2 * n ≤ k ∨ (k - hb) % 2 = 1) (hk : k ≠ b) : hcZ b hb ho Z f n k = Z k := by
  unfold hcZ
  rw [if_neg (by omega), u2_k hk, u2_k hk]
theorem hc_b {b hb ho : Nat} {Z : Zf} {f n : Nat} (h : b < hb) : hcZ b hb ho Z f n b 0 = nI n ∧ hcZ b hb ho Z f n b 1 = nI 0 := by
  unfold hcZ
  rw [if_neg (by omega)]
  exact ⟨by rw [u2_i (by decide) rfl]; exact u2_s, u2_s⟩
theorem hc_i {b hb ho : Nat} {Z : Zf} {f n p : Nat} (h : p < n) : hcZ b hb ho Z f n (hb + 2 * p) = Z (ho + 2 * ((f + p) % 40)) := by
  unfold hcZ
  rw [if_pos (by omega), show (hb + 2 * p - hb) / 2 = p by omega]
/-- what an image leaves in the object -/
theorem ci_sp {P Z : Zf} (h7 : pN Z 310 0 < 7) : (∀ k, k ≠ 402 → k ≠ 403 → k ≠ 405 → (k < 410 ∨ 413 < k) → k ≠ 507 → (k < 1001 ∨ k % 2 = 0) → f_Bus_image P Z k = Z k) ∧ f_Bus_image P Z 402 = Z 302 ∧ (f_Bus_image P Z 403 0 = nI (pN Z 303 0) ∧ f_Bus_image P Z 403 1 = nI 0) ∧ (∀ p, p < pN Z 303 0 → f_Bus_image P Z (1001 + 2 * p) = Z (1000 + 2 * ((pN Z 303 1 + p) % 40))) ∧ f_Bus_image P Z 410 0 = nI (pN Z 310 0) ∧ (∀ j, j = 1 ∨ j = 2 ∨ j = 3 → ∀ i, i < pN Z 310 0 → f_Bus_image P Z (410 + j) i = Z (310 + j) i) ∧ (∀ i, i < 3 → f_Bus_image P Z 405 i = Z 305 i) ∧ (∀ i, i ≠ 7 → f_Bus_image P Z 507 i = Z 507 i) ∧ f_Bus_image P Z 507 7 = 1 := by
  unfold f_Bus_image f_MemI f_MemI_22
  generalize hU : hcZ 403 1001 1000 (va_up Z 402 (Z 302)) (pN Z 303 1) (pN Z 303 0) = U
  have u1 : ∀ k, k ≠ 402 → k ≠ 403 → (k < 1001 ∨ k % 2 = 0) → U k = Z k := fun k x1 x2 x3 => by rw [← hU, hc_o (by omega) x2, up_ne x1 rfl]
  have e0 : pN U 310 0 = pN Z 310 0 := by unfold pN; rw [u1 310 (by decide) (by decide) (by decide)]
  rw [e0]
  generalize hX : mixK [410, 411, 412, 413] (fun k => f_Noted_copyFrom (pN Z 310 0) (fun k => U (310 + k)) (fun k => U (410 + k)) (k - 410)) U = X
  have x1 : ∀ k, k < 410 ∨ 413 < k → X k = U k := fun k hk => by rw [← hX, mx_n4 hk]
  obtain ⟨n1, n2⟩ := nc_sp (n := pN Z 310 0) (K := fun k => U (310 + k)) (L := fun k => U (410 + k)) h7
  refine ⟨fun k a b c d e f => ?_, ?_, ⟨?_, ?_⟩, fun p hp => ?_, ?_, fun j hj i hi => ?_, fun i hi => ?_, fun i hi => ?_, u2_s⟩
  · rw [u2_k e, k_MemI_35 _ _ _ c, x1 k d, u1 k a b f]
  · rw [u2_k (by decide), k_MemI_35 _ _ _ (by decide), x1 _ (by decide), ← hU, hc_o (by omega) (by decide), up_same]
  · rw [u2_k (by decide), k_MemI_35 _ _ _ (by decide), x1 _ (by decide), ← hU]; exact (hc_b (by decide)).1
  · rw [u2_k (by decide), k_MemI_35 _ _ _ (by decide), x1 _ (by decide), ← hU]; exact (hc_b (by decide)).2
  · rw [u2_k (by omega), k_MemI_35 _ _ _ (by omega), x1 _ (by omega), ← hU, hc_i hp, up_ne (by omega) rfl]
  · rw [u2_k (by decide), k_MemI_35 _ _ _ (by decide), ← hX, mx_in (by decide)]; exact n1
  · rw [u2_k (by omega), k_MemI_35 _ _ _ (by omega), ← hX, mx_in (by simp only [List.mem_cons, List.not_mem_nil, or_false]; omega)]
    show f_Noted_copyFrom (pN Z 310 0) (fun k => U (310 + k)) (fun k => U (410 + k)) (410 + j - 410) i = Z (310 + j) i
    rw [Nat.add_sub_cancel_left, n2 j hj i, if_pos hi]
    show U (310 + j) i = Z (310 + j) i
    rw [u1 _ (by omega) (by omega) (by omega)]
  · rw [u2_k (by decide), mi_35 _ _ _ (by decide), if_pos (by omega), x1 _ (by decide), u1 _ (by decide) (by decide) (by decide)]
  · rw [u2_i hi rfl, k_MemI_35 _ _ _ (by decide), x1 _ (by decide), u1 _ (by decide) (by decide) (by decide)]
theorem cr_sp {P Z : Zf} (h7 : pN Z 410 0 < 7) : (∀ k, k ≠ 302 → k ≠ 303 → k ≠ 305 → (k < 310 ∨ 313 < k) → (k < 1000 ∨ k % 2 = 1) → f_MemR P Z k = Z k) ∧ f_MemR P Z 302 = Z 402 ∧ (f_MemR P Z 303 0 = nI (pN Z 403 0) ∧ f_MemR P Z 303 1 = nI 0) ∧ (∀ p, p < pN Z 403 0 → f_MemR P Z (1000 + 2 * p) = Z (1001 + 2 * ((pN Z 403 1 + p) % 40))) ∧ f_MemR P Z 310 0 = nI (pN Z 410 0) ∧ (∀ j, j = 1 ∨ j = 2 ∨ j = 3 → ∀ i, f_MemR P Z (310 + j) i = if i < pN Z 410 0 then Z (410 + j) i else Z (310 + j) i) ∧ (∀ i, i < 3 → f_MemR P Z 305 i = Z 405 i) := by
  unfold f_MemR f_MemR_22
  generalize hU : hcZ 303 1000 1001 (va_up Z 302 (Z 402)) (pN Z 403 1) (pN Z 403 0) = U
  have u1 : ∀ k, k ≠ 302 → k ≠ 303 → (k < 1000 ∨ k % 2 = 1) → U k = Z k := fun k x1 x2 x3 => by rw [← hU, hc_o (by omega) x2, up_ne x1 rfl]
  have e0 : pN U 410 0 = pN Z 410 0 := by unfold pN; rw [u1 410 (by decide) (by decide) (by decide)]
  rw [e0]
  generalize hX : mixK [310, 311, 312, 313] (fun k => f_Noted_copyFrom (pN Z 410 0) (fun k => U (410 + k)) (fun k => U (310 + k)) (k - 310)) U = X
  have x1 : ∀ k, k < 310 ∨ 313 < k → X k = U k := fun k hk => by rw [← hX, mx_nt hk]
  obtain ⟨n1, n2⟩ := nc_sp (n := pN Z 410 0) (K := fun k => U (410 + k)) (L := fun k => U (310 + k)) h7
  obtain ⟨m1, m2⟩ := mr_35 (P := P) 4 0 X (by decide)
  refine ⟨fun k a b c d f => ?_, ?_, ⟨?_, ?_⟩, fun p hp => ?_, ?_, fun j hj i => ?_, fun i hi => ?_⟩
  · rw [m1 k c, x1 k d, u1 k a b f]
  · rw [m1 _ (by decide), x1 _ (by decide), ← hU, hc_o (by omega) (by decide), up_same]
  · rw [m1 _ (by decide), x1 _ (by decide), ← hU]; exact (hc_b (by decide)).1
  · rw [m1 _ (by decide), x1 _ (by decide), ← hU]; exact (hc_b (by decide)).2
  · rw [m1 _ (by omega), x1 _ (by omega), ← hU, hc_i hp, up_ne (by omega) rfl]
  · rw [m1 _ (by decide), ← hX, mx_in (by decide)]; exact n1
  · rw [m1 _ (by omega), ← hX, mx_in (by simp only [List.mem_cons, List.not_mem_nil, or_false]; omega)]
    show f_Noted_copyFrom (pN Z 410 0) (fun k => U (410 + k)) (fun k => U (310 + k)) (310 + j - 310) i = _
    rw [Nat.add_sub_cancel_left, n2 j hj i]
    show (if i < pN Z 410 0 then U (410 + j) i else U (310 + j) i) = _
    rw [u1 (410 + j) (by omega) (by omega) (by omega), u1 (310 + j) (by omega) (by omega) (by omega)]
  · rw [m2 i, if_pos (by omega), x1 _ (by decide), u1 _ (by decide) (by decide) (by decide)]
theorem ri_55 : ∀ (t k : Nat) (Z : Zf), 6 - k < t → k ≤ 6 → (∀ j, j ≠ 14 → j ≠ 15 → j ≠ 16 → f_Mod_image_55 t Z k j = Z j) ∧ ∀ j, j = 14 ∨ j = 15 ∨ j = 16 → ∀ i, f_Mod_image_55 t Z k j i = if 6 + k ≤ i ∧ i < 12 then Z j (i - 6) else Z j i := by
  intro t
  induction t with
  | zero => intro k Z h; omega
  | succ t ih =>
    intro k Z h hk
    rw [f_Mod_image_55]
    by_cases q : 6 ≤ k
    · rw [if_pos q]
      exact ⟨fun _ _ _ _ => rfl, fun j _ i => by rw [if_neg (by omega)]⟩
    · rw [if_neg q]
      have e : ∀ j, j = 14 ∨ j = 15 ∨ j = 16 → ∀ i, (u2 (u2 (u2 Z 14 (6 + k) ((Z 14) k)) 15 (6 + k) (((u2 Z 14 (6 + k) ((Z 14) k)) 15) k)) 16 (6 + k) (((u2 (u2 Z 14 (6 + k) ((Z 14) k)) 15 (6 + k) (((u2 Z 14 (6 + k) ((Z 14) k)) 15) k)) 16) k)) j i = if i = 6 + k then Z j k else Z j i := by
        intro j hj i
        rcases hj with rfl | rfl | rfl
        · rw [u2_k (by decide), u2_k (by decide), u2_e]; rfl
        · rw [u2_k (by decide), u2_e, u2_k (by decide)]; rfl
        · rw [u2_e, u2_k (by decide), u2_k (by decide)]; rfl
      have e2 : ∀ j, j ≠ 14 → j ≠ 15 → j ≠ 16 → (u2 (u2 (u2 Z 14 (6 + k) ((Z 14) k)) 15 (6 + k) (((u2 Z 14 (6 + k) ((Z 14) k)) 15) k)) 16 (6 + k) (((u2 (u2 Z 14 (6 + k) ((Z 14) k)) 15 (6 + k) (((u2 Z 14 (6 + k) ((Z 14) k)) 15) k)) 16) k)) j = Z j := fun j a b c => by rw [u2_k c, u2_k b, u2_k a]
      generalize (u2 (u2 (u2 Z 14 (6 + k) ((Z 14) k)) 15 (6 + k) (((u2 Z 14 (6 + k) ((Z 14) k)) 15) k)) 16 (6 + k) (((u2 (u2 Z 14 (6 + k) ((Z 14) k)) 15 (6 + k) (((u2 Z 14 (6 + k) ((Z 14) k)) 15) k)) 16) k)) = Z1 at *
      obtain ⟨i1, i2⟩ := ih (k + 1) Z1 (by omega) (by omega)
      refine ⟨fun j a b c => by rw [i1 j a b c, e2 j a b c], fun j hj i => ?_⟩
      rw [i2 j hj i]
      by_cases q1 : 6 + (k + 1) ≤ i ∧ i < 12
      · rw [if_pos q1, if_pos (by omega), e j hj, if_neg (by omega)]
      · rw [if_neg q1, e j hj]
        by_cases q2 : i = 6 + k
        · rw [if_pos q2, if_pos (by omega), show i - 6 = k by omega]
        · rw [if_neg q2, if_neg (by omega)]
theorem rr_64 : ∀ (t k : Nat) (Z : Zf), 6 - k < t → k ≤ 6 → (∀ j, j ≠ 14 → j ≠ 15 → j ≠ 16 → f_Mod_restore_64 t Z k j = Z j) ∧ ∀ j, j = 14 ∨ j = 15 ∨ j = 16 → ∀ i, f_Mod_restore_64 t Z k j i = if k ≤ i ∧ i < 6 then Z j (6 + i) else Z j i := by
  intro t
  induction t with
  | zero => intro k Z h; omega
  | succ t ih =>
    intro k Z h hk
    rw [f_Mod_restore_64]
    by_cases q : 6 ≤ k
    · rw [if_pos q]
      exact ⟨fun _ _ _ _ => rfl, fun j _ i => by rw [if_neg (by omega)]⟩
    · rw [if_neg q]
      have e : ∀ j, j = 14 ∨ j = 15 ∨ j = 16 → ∀ i, (u2 (u2 (u2 Z 14 k ((Z 14) (6 + k))) 15 k (((u2 Z 14 k ((Z 14) (6 + k))) 15) (6 + k))) 16 k (((u2 (u2 Z 14 k ((Z 14) (6 + k))) 15 k (((u2 Z 14 k ((Z 14) (6 + k))) 15) (6 + k))) 16) (6 + k))) j i = if i = k then Z j (6 + k) else Z j i := by
        intro j hj i
        rcases hj with rfl | rfl | rfl
        · rw [u2_k (by decide), u2_k (by decide), u2_e]; rfl
        · rw [u2_k (by decide), u2_e, u2_k (by decide)]; rfl
        · rw [u2_e, u2_k (by decide), u2_k (by decide)]; rfl
      have e2 : ∀ j, j ≠ 14 → j ≠ 15 → j ≠ 16 → (u2 (u2 (u2 Z 14 k ((Z 14) (6 + k))) 15 k (((u2 Z 14 k ((Z 14) (6 + k))) 15) (6 + k))) 16 k (((u2 (u2 Z 14 k ((Z 14) (6 + k))) 15 k (((u2 Z 14 k ((Z 14) (6 + k))) 15) (6 + k))) 16) (6 + k))) j = Z j := fun j a b c => by rw [u2_k c, u2_k b, u2_k a]
      generalize (u2 (u2 (u2 Z 14 k ((Z 14) (6 + k))) 15 k (((u2 Z 14 k ((Z 14) (6 + k))) 15) (6 + k))) 16 k (((u2 (u2 Z 14 k ((Z 14) (6 + k))) 15 k (((u2 Z 14 k ((Z 14) (6 + k))) 15) (6 + k))) 16) (6 + k))) = Z1 at *
      obtain ⟨i1, i2⟩ := ih (k + 1) Z1 (by omega) (by omega)
      refine ⟨fun j a b c => by rw [i1 j a b c, e2 j a b c], fun j hj i => ?_⟩
      rw [i2 j hj i]
      by_cases q1 : k + 1 ≤ i ∧ i < 6
      · rw [if_pos q1, if_pos (by omega), e j hj, if_neg (by omega)]
      · rw [if_neg q1, e j hj]
        by_cases q2 : i = k
        · subst q2
          rw [if_pos rfl, if_pos (by omega)]
        · rw [if_neg q2, if_neg (by omega)]
theorem ri_114 : ∀ (t k : Nat) (Z : Zf), 3 - k < t → k ≤ 3 → (∀ j, j ≠ 17 → f_Mod_image_114 t Z k j = Z j) ∧ ∀ i, f_Mod_image_114 t Z k 17 i = if 3 + k ≤ i ∧ i < 6 then Z 17 (i - 3) else Z 17 i := by
  intro t
  induction t with
  | zero => intro k Z h; omega
  | succ t ih =>
    intro k Z h hk
    rw [f_Mod_image_114]
    by_cases q : 3 ≤ k
    · rw [if_pos q]
      exact ⟨fun _ _ => rfl, fun i => by rw [if_neg (by omega)]⟩
    · rw [if_neg q]
      obtain ⟨i1, i2⟩ := ih (k + 1) (u2 Z 17 (3 + k) (Z 17 k)) (by omega) (by omega)
      refine ⟨fun j a => by rw [i1 j a, u2_k a], fun i => ?_⟩
      rw [i2 i]
      by_cases q1 : 3 + (k + 1) ≤ i ∧ i < 6
      · rw [if_pos q1, if_pos (by omega), u2_i (by omega) rfl]
      · rw [if_neg q1]
        by_cases q2 : i = 3 + k
        · subst q2
          rw [if_pos (by omega), u2_s, Nat.add_sub_cancel_left]
        · rw [if_neg (by omega), u2_i q2 rfl]
theorem rr_123 : ∀ (t k : Nat) (Z : Zf), 3 - k < t → k ≤ 3 → (∀ j, j ≠ 17 → f_Mod_restore_123 t Z k j = Z j) ∧ ∀ i, f_Mod_restore_123 t Z k 17 i = if k ≤ i ∧ i < 3 then Z 17 (3 + i) else Z 17 i := by
  intro t
  induction t with
  | zero => intro k Z h; omega
  | succ t ih =>
    intro k Z h hk
    rw [f_Mod_restore_123]
    by_cases q : 3 ≤ k
    · rw [if_pos q]
      exact ⟨fun _ _ => rfl, fun i => by rw [if_neg (by omega)]⟩
    · rw [if_neg q]
      obtain ⟨i1, i2⟩ := ih (k + 1) (u2 Z 17 k (Z 17 (3 + k))) (by omega) (by omega)
      refine ⟨fun j a => by rw [i1 j a, u2_k a], fun i => ?_⟩
      rw [i2 i]
      by_cases q1 : k + 1 ≤ i ∧ i < 3
      · rw [if_pos q1, if_pos (by omega), u2_i (by omega) rfl]
      · rw [if_neg q1]
        by_cases q2 : i = k
        · subst q2
          rw [if_pos (by omega), u2_s]
        · rw [if_neg (by omega), u2_i q2 rfl]
theorem mi_sp {W : Zf} : (∀ i, i < 9030 → f_Mod_image W 0 i = W 0 i) ∧ (∀ i, i < 210 → f_Mod_image W 0 (9030 + i) = W 0 i) ∧ (∀ i, i < 8400 → f_Mod_image W 0 (9240 + i) = W 0 (630 + i)) ∧ (f_Mod_image W 100 27 = W 100 24 ∧ f_Mod_image W 100 28 = W 100 25 ∧ f_Mod_image W 100 29 = W 100 26 ∧ f_Mod_image W 100 30 = 1) ∧ (∀ i, i ≠ 18 → (i < 27 ∨ 30 < i) → f_Mod_image W 100 i = W 100 i) ∧ (∀ j, j = 14 ∨ j = 15 ∨ j = 16 → (∀ i, i < 6 → f_Mod_image W j i = W j i) ∧ ∀ i, i < 6 → f_Mod_image W j (6 + i) = W j i) ∧ ((∀ i, i < 3 → f_Mod_image W 17 i = W 17 i) ∧ ∀ i, i < 3 → f_Mod_image W 17 (3 + i) = W 17 i) ∧ ∀ k, k ≠ 0 → k ≠ 14 → k ≠ 15 → k ≠ 16 → k ≠ 17 → k ≠ 100 → f_Mod_image W k = W k := by
  unfold f_Mod_image
  generalize hB : va_up (va_up (u2 W 100 18 0) 0 (f_Mod_copies (u2 W 100 18 0) 0 9030 210 ((u2 W 100 18 0) 0))) 0 (f_Mod_copies (va_up (u2 W 100 18 0) 0 (f_Mod_copies (u2 W 100 18 0) 0 9030 210 ((u2 W 100 18 0) 0))) 630 9240 8400 ((va_up (u2 W 100 18 0) 0 (f_Mod_copies (u2 W 100 18 0) 0 9030 210 ((u2 W 100 18 0) 0))) 0)) = B
  have b0 : ∀ i, B 0 i = if 9240 ≤ i ∧ i < 17640 then W 0 (630 + (i - 9240)) else if 9030 ≤ i ∧ i < 9240 then W 0 (i - 9030) else W 0 i := by
    intro i
    rw [← hB, up_same, cp_sp (by omega), up_same, u2_k (by decide)]
    by_cases q : 9240 ≤ i ∧ i < 9240 + 8400
    · rw [if_pos q, if_pos (by omega), cp_out (by omega) _ (by omega)]
    · rw [if_neg q, if_neg (by omega), cp_sp (by omega)]
      by_cases q2 : 9030 ≤ i ∧ i < 9030 + 210
      · rw [if_pos q2, if_pos (by omega), Nat.zero_add]
      · rw [if_neg q2, if_neg (by omega)]
  have bk : ∀ k, k ≠ 0 → k ≠ 100 → B k = W k := fun k x1 x2 => by rw [← hB, up_ne x1 rfl, up_ne x1 rfl, u2_k x2]
  have bi : ∀ i, i ≠ 18 → B 100 i = W 100 i := fun i x1 => by rw [← hB, up_ne (by decide) rfl, up_ne (by decide) rfl, u2_i x1 rfl]
  clear hB
  rw [u2_i (show (25 : Nat) ≠ 27 by decide) rfl, u2_i (show (26 : Nat) ≠ 28 by decide) rfl, u2_i (show (26 : Nat) ≠ 27 by decide) rfl]
  generalize hC : u2 (u2 (u2 B 100 27 (B 100 24)) 100 28 (B 100 25)) 100 29 (B 100 26) = C
  have c27 : C 100 27 = W 100 24 := by rw [← hC, u2_i (by decide) rfl, u2_i (by decide) rfl, u2_s, bi _ (by decide)]
  have c28 : C 100 28 = W 100 25 := by rw [← hC, u2_i (by decide) rfl, u2_s, bi _ (by decide)]
  have c29 : C 100 29 = W 100 26 := by rw [← hC, u2_s, bi _ (by decide)]
  have ci : ∀ i, i ≠ 18 → i ≠ 27 → i ≠ 28 → i ≠ 29 → C 100 i = W 100 i := fun i x x1 x2 x3 => by rw [← hC, u2_i x3 rfl, u2_i x2 rfl, u2_i x1 rfl, bi i x]
  have ck : ∀ k, k ≠ 100 → C k = B k := fun k x => by rw [← hC, u2_k x, u2_k x, u2_k x]
  clear hC
  obtain ⟨d1, d2⟩ := ri_55 7 0 C (by decide) (by decide)
  generalize f_Mod_image_55 7 C 0 = D at *
  obtain ⟨e1, e2⟩ := ri_114 4 0 D (by decide) (by decide)
  generalize f_Mod_image_114 4 D 0 = E at *
  have z : ∀ i, u2 E 100 30 1 0 i = B 0 i := fun i => by rw [u2_k (by decide), e1 0 (by decide), d1 0 (by decide) (by decide) (by decide), ck 0 (by decide)]
  have zi : ∀ i, i ≠ 30 → u2 E 100 30 1 100 i = C 100 i := fun i x => by rw [u2_i x rfl, e1 100 (by decide), d1 100 (by decide) (by decide) (by decide)]
  refine ⟨fun i hi => ?_, fun i hi => ?_, fun i hi => ?_, ⟨?_, ?_, ?_, u2_s⟩, fun i x1 x2 => ?_, fun j hj => ⟨fun i hi => ?_, fun i hi => ?_⟩, ⟨fun i hi => ?_, fun i hi => ?_⟩, fun k x0 x1 x2 x3 x4 x5 => ?_⟩
  · rw [z, b0, if_neg (by omega), if_neg (by omega)]
  · rw [z, b0, if_neg (by omega), if_pos (by omega), Nat.add_sub_cancel_left]
  · rw [z, b0, if_pos (by omega), Nat.add_sub_cancel_left]
  · rw [zi _ (by decide)]; exact c27
  · rw [zi _ (by decide)]; exact c28
  · rw [zi _ (by decide)]; exact c29
  · rw [zi _ (by omega), ci i x1 (by omega) (by omega) (by omega)]
  · rw [u2_k (by omega), e1 j (by omega), d2 j hj, if_neg (by omega), ck j (by omega), bk j (by omega) (by omega)]
  · rw [u2_k (by omega), e1 j (by omega), d2 j hj, if_pos (by omega), Nat.add_sub_cancel_left, ck j (by omega), bk j (by omega) (by omega)]
  · rw [u2_k (by decide), e2, if_neg (by omega), d1 17 (by decide) (by decide) (by decide), ck 17 (by decide), bk 17 (by decide) (by decide)]
  · rw [u2_k (by decide), e2, if_pos (by omega), Nat.add_sub_cancel_left, d1 17 (by decide) (by decide) (by decide), ck 17 (by decide), bk 17 (by decide) (by decide)]
  · rw [u2_k x5, e1 k x4, d1 k x1 x2 x3, ck k x5, bk k x0 x5]
theorem mr_sp {W : Zf} (h0 : ¬ W 100 30 = 0) : (f_Mod_restore W).1 = 1 ∧ (∀ i, i < 210 → (f_Mod_restore W).2 0 i = W 0 (9030 + i)) ∧ (∀ i, i < 8400 → (f_Mod_restore W).2 0 (630 + i) = W 0 (9240 + i)) ∧ (∀ i, 9030 ≤ i → (f_Mod_restore W).2 0 i = W 0 i) ∧ ((f_Mod_restore W).2 100 24 = W 100 27 ∧ (f_Mod_restore W).2 100 25 = W 100 28 ∧ (f_Mod_restore W).2 100 26 = W 100 29) ∧ (∀ i, i ≠ 18 → (i < 24 ∨ 26 < i) → (f_Mod_restore W).2 100 i = W 100 i) ∧ (∀ j, j = 14 ∨ j = 15 ∨ j = 16 → (∀ i, i < 6 → (f_Mod_restore W).2 j i = W j (6 + i)) ∧ ∀ i, 6 ≤ i → (f_Mod_restore W).2 j i = W j i) ∧ ((∀ i, i < 3 → (f_Mod_restore W).2 17 i = W 17 (3 + i)) ∧ ∀ i, 3 ≤ i → (f_Mod_restore W).2 17 i = W 17 i) ∧ ∀ k, k ≠ 0 → k ≠ 14 → k ≠ 15 → k ≠ 16 → k ≠ 17 → k ≠ 100 → (f_Mod_restore W).2 k = W k := by
  unfold f_Mod_restore
  rw [if_neg (show ¬ u2 W 100 18 0 100 30 = 0 by rw [u2_i (by decide) rfl]; exact h0)]
  generalize hB : va_up (va_up (u2 W 100 18 0) 0 (f_Mod_copies (u2 W 100 18 0) 9030 0 210 ((u2 W 100 18 0) 0))) 0 (f_Mod_copies (va_up (u2 W 100 18 0) 0 (f_Mod_copies (u2 W 100 18 0) 9030 0 210 ((u2 W 100 18 0) 0))) 9240 630 8400 ((va_up (u2 W 100 18 0) 0 (f_Mod_copies (u2 W 100 18 0) 9030 0 210 ((u2 W 100 18 0) 0))) 0)) = B
  have b0 : ∀ i, B 0 i = if 630 ≤ i ∧ i < 9030 then W 0 (9240 + (i - 630)) else if i < 210 then W 0 (9030 + i) else W 0 i := by
    intro i
    rw [← hB, up_same, cp_sp (by omega), up_same, u2_k (by decide)]
    by_cases q : 630 ≤ i ∧ i < 630 + 8400
    · rw [if_pos q, if_pos (by omega), cp_out (by omega) _ (by omega)]
    · rw [if_neg q, if_neg (by omega), cp_sp (by omega)]
      by_cases q2 : i < 210
      · rw [if_pos (by omega), if_pos q2, Nat.sub_zero]
      · rw [if_neg (by omega), if_neg q2]
  have bk : ∀ k, k ≠ 0 → k ≠ 100 → B k = W k := fun k x1 x2 => by rw [← hB, up_ne x1 rfl, up_ne x1 rfl, u2_k x2]
  have bi : ∀ i, i ≠ 18 → B 100 i = W 100 i := fun i x1 => by rw [← hB, up_ne (by decide) rfl, up_ne (by decide) rfl, u2_i x1 rfl]
  clear hB
  rw [u2_i (show (28 : Nat) ≠ 24 by decide) rfl, u2_i (show (29 : Nat) ≠ 25 by decide) rfl, u2_i (show (29 : Nat) ≠ 24 by decide) rfl]
  generalize hC : u2 (u2 (u2 B 100 24 (B 100 27)) 100 25 (B 100 28)) 100 26 (B 100 29) = C
  have c27 : C 100 24 = W 100 27 := by rw [← hC, u2_i (by decide) rfl, u2_i (by decide) rfl, u2_s, bi _ (by decide)]
  have c28 : C 100 25 = W 100 28 := by rw [← hC, u2_i (by decide) rfl, u2_s, bi _ (by decide)]
  have c29 : C 100 26 = W 100 29 := by rw [← hC, u2_s, bi _ (by decide)]
  have ci : ∀ i, i ≠ 18 → i ≠ 24 → i ≠ 25 → i ≠ 26 → C 100 i = W 100 i := fun i x x1 x2 x3 => by rw [← hC, u2_i x3 rfl, u2_i x2 rfl, u2_i x1 rfl, bi i x]
  have ck : ∀ k, k ≠ 100 → C k = B k := fun k x => by rw [← hC, u2_k x, u2_k x, u2_k x]
  clear hC
  obtain ⟨d1, d2⟩ := rr_64 7 0 C (by decide) (by decide)
  generalize f_Mod_restore_64 7 C 0 = D at *
  obtain ⟨e1, e2⟩ := rr_123 4 0 D (by decide) (by decide)
  generalize f_Mod_restore_123 4 D 0 = E at *
  have z : ∀ i, E 0 i = B 0 i := fun i => by rw [e1 0 (by decide), d1 0 (by decide) (by decide) (by decide), ck 0 (by decide)]
  have zi : ∀ i, E 100 i = C 100 i := fun i => by rw [e1 100 (by decide), d1 100 (by decide) (by decide) (by decide)]
  show (1 : Int32) = 1 ∧ (∀ i, i < 210 → E 0 i = W 0 (9030 + i)) ∧ (∀ i, i < 8400 → E 0 (630 + i) = W 0 (9240 + i)) ∧ (∀ i, 9030 ≤ i → E 0 i = W 0 i) ∧ (E 100 24 = W 100 27 ∧ E 100 25 = W 100 28 ∧ E 100 26 = W 100 29) ∧ (∀ i, i ≠ 18 → (i < 24 ∨ 26 < i) → E 100 i = W 100 i) ∧ (∀ j, j = 14 ∨ j = 15 ∨ j = 16 → (∀ i, i < 6 → E j i = W j (6 + i)) ∧ ∀ i, 6 ≤ i → E j i = W j i) ∧ ((∀ i, i < 3 → E 17 i = W 17 (3 + i)) ∧ ∀ i, 3 ≤ i → E 17 i = W 17 i) ∧ ∀ k, k ≠ 0 → k ≠ 14 → k ≠ 15 → k ≠ 16 → k ≠ 17 → k ≠ 100 → E k = W k
  refine ⟨rfl, fun i hi => ?_, fun i hi => ?_, fun i hi => ?_, ⟨?_, ?_, ?_⟩, fun i x1 x2 => ?_, fun j hj => ⟨fun i hi => ?_, fun i hi => ?_⟩, ⟨fun i hi => ?_, fun i hi => ?_⟩, fun k x0 x1 x2 x3 x4 x5 => ?_⟩
  · rw [z, b0, if_neg (by omega), if_pos (by omega)]
  · rw [z, b0, if_pos (by omega), Nat.add_sub_cancel_left]
  · rw [z, b0, if_neg (by omega), if_neg (by omega)]
  · rw [zi]; exact c27
  · rw [zi]; exact c28
  · rw [zi]; exact c29
  · rw [zi, ci i x1 (by omega) (by omega) (by omega)]
  · rw [e1 j (by omega), d2 j hj, if_pos (by omega), ck j (by omega), bk j (by omega) (by omega)]
  · rw [e1 j (by omega), d2 j hj, if_neg (by omega), ck j (by omega), bk j (by omega) (by omega)]
  · rw [e2, if_pos (by omega), d1 17 (by decide) (by decide) (by decide), ck 17 (by decide), bk 17 (by decide) (by decide)]
  · rw [e2, if_neg (by omega), d1 17 (by decide) (by decide) (by decide), ck 17 (by decide), bk 17 (by decide) (by decide)]
  · rw [e1 k x4, d1 k x1 x2 x3, ck k x5, bk k x0 x5]
