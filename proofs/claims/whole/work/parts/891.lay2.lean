/-! one block is taken, alike on both sides -/
theorem tb_sp {P L : Zf} {b n : Nat} {x er : Int32} (hn : L 32 2 = nI n) : f_Layout_takeBlock_107 P b x n L er 18 = upd (L 18) n (nI b) ∧ f_Layout_takeBlock_107 P b x n L er 19 = upd (L 19) b (nI n) ∧ f_Layout_takeBlock_107 P b x n L er 20 = upd (L 20) b er ∧ f_Layout_takeBlock_107 P b x n L er 21 = upd (L 21) b (er + x) ∧ f_Layout_takeBlock_107 P b x n L er 24 = upd (L 24) (pN P 1 b) (er + x) ∧ f_Layout_takeBlock_107 P b x n L er 32 0 = f_Mod_greater (L 32 0) (er + x) ∧ f_Layout_takeBlock_107 P b x n L er 32 1 = L 32 1 ∧ f_Layout_takeBlock_107 P b x n L er 32 2 = nI (n + 1) ∧ f_Layout_takeBlock_107 P b x n L er 22 = L 22 ∧ f_Layout_takeBlock_107 P b x n L er 23 = L 23 := by
  unfold f_Layout_takeBlock_107
  rw [show (u2 (u2 L 20 b er) 21 b (er + x)) 21 b = er + x from u2_s]
  generalize hA : u2 (u2 (u2 L 20 b er) 21 b (er + x)) 24 (pN P 1 b) (er + x) = A
  have A21 : A 21 b = er + x := by rw [← hA, u2_k (by decide), u2_s]
  have A32 : A 32 = L 32 := by rw [← hA, u2_k (by decide), u2_k (by decide), u2_k (by decide)]
  rw [A21, A32, gr_eq]
  generalize f_Mod_greater (L 32 0) (er + x) = v
  have r2 : (u2 (u2 A 32 0 v) 18 n (nI b)) 32 2 = nI n := by rw [u2_k (by decide), u2_i (by decide) rfl, A32, hn]
  rw [r2]
  have r3 : (u2 (u2 (u2 A 32 0 v) 18 n (nI b)) 19 b (nI n)) 32 2 = nI n := by rw [u2_k (by decide)]; exact r2
  rw [r3]
  refine ⟨?_, ?_, ?_, ?_, ?_, ?_, ?_, ?_, ?_, ?_⟩
  · rw [u2_k (by decide), u2_k (by decide), u2_e, u2_k (by decide), ← hA, u2_k (by decide), u2_k (by decide), u2_k (by decide)]
  · rw [u2_k (by decide), u2_e, u2_k (by decide), u2_k (by decide), ← hA, u2_k (by decide), u2_k (by decide), u2_k (by decide)]
  · rw [u2_k (by decide), u2_k (by decide), u2_k (by decide), u2_k (by decide), ← hA, u2_k (by decide), u2_k (by decide), u2_e]
  · rw [u2_k (by decide), u2_k (by decide), u2_k (by decide), u2_k (by decide), ← hA, u2_k (by decide), u2_e, u2_k (by decide)]
  · rw [u2_k (by decide), u2_k (by decide), u2_k (by decide), u2_k (by decide), ← hA, u2_e, u2_k (by decide), u2_k (by decide)]
  · rw [u2_i (by decide) rfl, u2_k (by decide), u2_k (by decide), u2_s]
  · rw [u2_i (by decide) rfl, u2_k (by decide), u2_k (by decide), u2_i (by decide) rfl, A32]
  · rw [u2_s, nI_1]
  · rw [u2_k (by decide), u2_k (by decide), u2_k (by decide), u2_k (by decide), ← hA, u2_k (by decide), u2_k (by decide), u2_k (by decide)]
  · rw [u2_k (by decide), u2_k (by decide), u2_k (by decide), u2_k (by decide), ← hA, u2_k (by decide), u2_k (by decide), u2_k (by decide)]
theorem LR.take {P L V : Zf} {b n m : Nat} {x y : Int32} (h : LR P L V) (h4 : PS4 P V x y) (hb : b < pN P 30 3) (hn : L 32 2 = nI n) (hn2 : n < 2 ^ 31) : LR P (f_Layout_takeBlock_107 P b (V 2 b) n L (nI m)) (u2 (u2 (u2 (u2 (u2 V 35 b (nI m)) 36 b (nI m + (((u2 V 35 b (nI m)) 2) b))) 39 (pN V 1 b) (((u2 (u2 V 35 b (nI m)) 36 b (nI m + (((u2 V 35 b (nI m)) 2) b))) 36) b)) 100 42 (f_Mod_greater ((u2 (u2 (u2 V 35 b (nI m)) 36 b (nI m + (((u2 V 35 b (nI m)) 2) b))) 39 (pN V 1 b) (((u2 (u2 V 35 b (nI m)) 36 b (nI m + (((u2 V 35 b (nI m)) 2) b))) 36) b)) 100 42) (((u2 (u2 (u2 V 35 b (nI m)) 36 b (nI m + (((u2 V 35 b (nI m)) 2) b))) 39 (pN V 1 b) (((u2 (u2 V 35 b (nI m)) 36 b (nI m + (((u2 V 35 b (nI m)) 2) b))) 36) b)) 36) b))) 40 b 1) := by
  obtain ⟨t1, t2, t3, t4, t5, t6, t7, t8, t9, t10⟩ := tb_sp (P := P) (b := b) (x := V 2 b) (er := nI m) hn
  rw [show (u2 V 35 b (nI m)) 2 b = V 2 b from by rw [u2_k (by decide)], show (u2 (u2 V 35 b (nI m)) 36 b (nI m + V 2 b)) 36 b = nI m + V 2 b from u2_s]
  generalize nI m + V 2 b = w at *
  rw [show (u2 (u2 (u2 V 35 b (nI m)) 36 b w) 39 (pN V 1 b) w) 36 b = w from by rw [u2_k (by decide)]; exact u2_s, show (u2 (u2 (u2 V 35 b (nI m)) 36 b w) 39 (pN V 1 b) w) 100 42 = V 100 42 from by rw [u2_k (by decide), u2_k (by decide), u2_k (by decide)]]
  generalize f_Layout_takeBlock_107 P b (V 2 b) n L (nI m) = L' at *
  obtain ⟨⟨a1, a2⟩, c, d, e⟩ := h
  have v40 : u2 (u2 (u2 (u2 (u2 V 35 b (nI m)) 36 b w) 39 (pN V 1 b) w) 100 42 (f_Mod_greater (V 100 42) w)) 40 b 1 40 = upd (V 40) b 1 := by rw [u2_e, u2_k (by decide), u2_k (by decide), u2_k (by decide), u2_k (by decide)]
  have v35 : u2 (u2 (u2 (u2 (u2 V 35 b (nI m)) 36 b w) 39 (pN V 1 b) w) 100 42 (f_Mod_greater (V 100 42) w)) 40 b 1 35 = upd (V 35) b (nI m) := by rw [u2_k (by decide), u2_k (by decide), u2_k (by decide), u2_k (by decide), u2_e]
  have v36 : u2 (u2 (u2 (u2 (u2 V 35 b (nI m)) 36 b w) 39 (pN V 1 b) w) 100 42 (f_Mod_greater (V 100 42) w)) 40 b 1 36 = upd (V 36) b w := by rw [u2_k (by decide), u2_k (by decide), u2_k (by decide), u2_e, u2_k (by decide)]
  have v39 : u2 (u2 (u2 (u2 (u2 V 35 b (nI m)) 36 b w) 39 (pN V 1 b) w) 100 42 (f_Mod_greater (V 100 42) w)) 40 b 1 39 = upd (V 39) (pN V 1 b) w := by rw [u2_k (by decide), u2_k (by decide), u2_e, u2_k (by decide), u2_k (by decide)]
  have v41 : u2 (u2 (u2 (u2 (u2 V 35 b (nI m)) 36 b w) 39 (pN V 1 b) w) 100 42 (f_Mod_greater (V 100 42) w)) 40 b 1 41 = V 41 := by rw [u2_k (by decide), u2_k (by decide), u2_k (by decide), u2_k (by decide), u2_k (by decide)]
  have v42 : u2 (u2 (u2 (u2 (u2 V 35 b (nI m)) 36 b w) 39 (pN V 1 b) w) 100 42 (f_Mod_greater (V 100 42) w)) 40 b 1 100 42 = f_Mod_greater (V 100 42) w := by rw [u2_k (by decide), u2_s]
  have v43 : u2 (u2 (u2 (u2 (u2 V 35 b (nI m)) 36 b w) 39 (pN V 1 b) w) 100 42 (f_Mod_greater (V 100 42) w)) 40 b 1 100 43 = V 100 43 := by rw [u2_k (by decide), u2_i (by decide) rfl, u2_k (by decide), u2_k (by decide), u2_k (by decide)]
  generalize u2 (u2 (u2 (u2 (u2 V 35 b (nI m)) 36 b w) 39 (pN V 1 b) w) 100 42 (f_Mod_greater (V 100 42) w)) 40 b 1 = V' at *
  refine ⟨⟨by rw [t6, v42, a1], by rw [t7, v43, a2]⟩, fun k hk => ?_, fun j hj => ?_, fun p hp => ?_⟩
  · rw [t2, t3, t4, v40, v35, v36]
    by_cases z : k = b
    · subst z
      rw [ud_s, ud_s, ud_s, ud_s, ud_s, ud_s]
      exact ⟨⟨fun z => absurd z (m1_ne hn2), fun z => absurd z (by decide)⟩, fun _ => ⟨rfl, rfl⟩⟩
    · rw [ud_o z, ud_o z, ud_o z, ud_o z, ud_o z, ud_o z]; exact c k hk
  · rw [t5, v39, (h4.2.1 b hb).1]
    exact ud_cg (d j hj) rfl
  · rw [t9, t10, v41]; exact e p hp
theorem gr_m {m a : Nat} (hm : m < 2 ^ 31) (ha : a < 2 ^ 31) : (if nI m < nI a then nI a else nI m) = nI (max m a) := by rw [gr_eq, gr_nI hm ha]
/-- one block is taken -/
theorem tk_rel {P : Zf} {b K n : Nat} {x y X : Int32} (hb : b < pN P 30 3) (hK : K + 12 < 1000) (hnb : pN P 30 3 ≤ 10) (hn31 : n < 2 ^ 31) : ∀ (t l : Nat) (L V : Zf) (m : Nat), wfM V → PlM V → PS4 P V x y → LyI V (K + l) → RdI V b → LR P L V → L 32 2 = nI n → l ≤ 12 → 12 - l < t → m ≤ pN V 100 42 → (∀ l', l ≤ l' → l' < pN P 31 0 → pN V 9 l' = b → L 22 l' = -1) → LR P (f_Layout_takeBlock_107 P b (V 2 b) n (f_Layout_takeBlock_16 P b X n t L (nI m) l).2 (f_Layout_takeBlock_16 P b X n t L (nI m) l).1) (f_Mod_takes_14 b t V (nI m) l) ∧ (∀ l', l ≤ l' → l' < pN P 31 0 → pN V 9 l' = b → (f_Layout_takeBlock_16 P b X n t L (nI m) l).2 22 l' = f_Mod_takes_14 b t V (nI m) l 37 l') ∧ (∀ l', (l' < l ∨ pN P 31 0 ≤ l' ∨ ¬ pN V 9 l' = b) → (f_Layout_takeBlock_16 P b X n t L (nI m) l).2 22 l' = L 22 l' ∧ f_Mod_takes_14 b t V (nI m) l 37 l' = V 37 l') := by
  intro t
  induction t with
  | zero => intro l L V m _ _ _ _ _ _ _ _ h; omega
  | succ t ih =>
    intro l L V m hw hp h4 hY hR hL h32 hl ht hm hs
    have hz1 := hw.lnk.2
    have hy := hY.1
    have e20 := h4.1.1
    have e21 := h4.1.2
    rw [f_Layout_takeBlock_16, f_Mod_takes_14, ← h4.1.2]
    by_cases q : pN P 31 0 ≤ l
    · rw [if_pos q, if_pos q]
      refine ⟨hL.take h4 hb h32 hn31, fun l' h1 h2 => by omega, fun l' _ => ⟨rfl, ?_⟩⟩
      rw [u2_k (by decide), u2_k (by decide), u2_k (by decide), u2_k (by decide), u2_k (by decide)]
    rw [if_neg q, if_neg q]
    obtain ⟨f1, f2, f3⟩ := h4.2.2 l (by omega)
    rw [f1, f2]
    by_cases q1 : pN V 9 l = b
    · rw [if_pos q1, if_pos q1]
      obtain ⟨e1, e2, e3⟩ := ly_en hw hY (by omega) hR (by rw [← h4.1.2]; omega) q1
      have hin := hp.2.2 l (by rw [← h4.1.2]; omega)
      have tkn : ¬ V 40 (pN V 8 l) = 0 := hR l (by rw [← h4.1.2]; omega) q1
      have l21 : L 21 (pN V 8 l) = nI (pN V 36 (pN V 8 l)) := by rw [((hL.2.1 _ (by omega)).2 tkn).2]; exact e1
      have ac := iw_ac h4 hp (l := l) (by omega)
      rw [l21]
      generalize pN V 36 (pN V 8 l) = a at *
      by_cases q2 : f_Mod_isWithin V l = 0
      · have q3 : ¬ f_Layout_isAcross P l = 0 := fun z => ac.mp z q2
        rw [if_neg q3, if_pos q2]
        obtain ⟨s1, s2, p, s3, s4, s5⟩ := hL.slot hY (by omega) e2 (l := l) (kk := 22) (by omega) (Or.inl rfl) (hs l (by omega) (by omega) q1) 37 (Or.inl rfl)
        have ly := ly_slot hY (by omega) e2
        have iw : f_Mod_isWithin (u2 (f_Mod_slotFrom a V).2 37 l (f_Mod_slotFrom a V).1) l = f_Mod_isWithin V l := iw_of (by rw [u2_k (by decide), sf_keep.1 _ (by decide) (by decide)]) (by rw [u2_k (by decide), sf_keep.1 _ (by decide) (by decide)]) (by rw [u2_k (by decide), sf_keep.1 _ (by decide) (by decide)])
        rw [iw, if_pos q2]
        have c22 : u2 (f_Layout_claimSlot (nI a) L).2 22 l (f_Layout_claimSlot (nI a) L).1 22 l = nI p := by rw [u2_s, s2, s4]
        have c37 : u2 (f_Mod_slotFrom a V).2 37 l (f_Mod_slotFrom a V).1 37 l = nI p := by rw [u2_s, s4]
        rw [c22, c37, nI_1, gr_m (by omega) (by omega), gr_nI (by omega) (by omega)]
        have L32 : u2 (f_Layout_claimSlot (nI a) L).2 22 l (f_Layout_claimSlot (nI a) L).1 32 2 = nI n := by rw [u2_k (by decide), cs_keep0 _ _ _ _ (Or.inr (by decide))]; exact h32
        have L22 : ∀ l', l' ≠ l → u2 (f_Layout_claimSlot (nI a) L).2 22 l (f_Layout_claimSlot (nI a) L).1 22 l' = L 22 l' := fun l' hne => by rw [u2_i hne rfl, cs_keep0 _ _ _ _ (Or.inl (by decide))]
        have V37 : ∀ l', l' ≠ l → u2 (f_Mod_slotFrom a V).2 37 l (f_Mod_slotFrom a V).1 37 l' = V 37 l' := fun l' hne => by rw [u2_i hne rfl, sf_keep.1 _ (by decide) (by decide)]
        have vk : ∀ k, k ≠ 41 → k ≠ 100 → k ≠ 37 → u2 (f_Mod_slotFrom a V).2 37 l (f_Mod_slotFrom a V).1 k = V k := fun k x1 x2 x3 => by rw [u2_k x3, sf_keep.1 _ x1 x2]
        have vi : ∀ i, i ≠ 42 → i ≠ 43 → u2 (f_Mod_slotFrom a V).2 37 l (f_Mod_slotFrom a V).1 100 i = V 100 i := fun i x1 x2 => by rw [u2_k (by decide), sf_keep.2 _ x1 x2]
        have hw1 : wfM (u2 (f_Mod_slotFrom a V).2 37 l (f_Mod_slotFrom a V).1) := wfM.uk (z_slotFrom hw) (by decide)
        have hp1 : PlM (u2 (f_Mod_slotFrom a V).2 37 l (f_Mod_slotFrom a V).1) := PlM.uk hp.sf (by decide)
        have hY1 : LyI (u2 (f_Mod_slotFrom a V).2 37 l (f_Mod_slotFrom a V).1) (K + (l + 1)) := LyI.uk ly.1 (by decide)
        have hR1 : RdI (u2 (f_Mod_slotFrom a V).2 37 l (f_Mod_slotFrom a V).1) b := RdI.uk (rd_slot hR) (by decide)
        have ln : pN (u2 (f_Mod_slotFrom a V).2 37 l (f_Mod_slotFrom a V).1) 100 42 = max (pN V 100 42) (p + 1) := by rw [← s5]; unfold pN; rw [u2_k (by decide)]
        generalize u2 (f_Layout_claimSlot (nI a) L).2 22 l (f_Layout_claimSlot (nI a) L).1 = L1 at *
        generalize u2 (f_Mod_slotFrom a V).2 37 l (f_Mod_slotFrom a V).1 = V1 at *
        have h41 : PS4 P V1 x y := h4.cg (vi _ (by decide) (by decide)) (vi _ (by decide) (by decide)) (vk _ (by decide) (by decide) (by decide)) (vk _ (by decide) (by decide) (by decide)) (vk _ (by decide) (by decide) (by decide)) (vk _ (by decide) (by decide) (by decide)) (vk _ (by decide) (by decide) (by decide))
        have e9 : ∀ l', pN V1 9 l' = pN V 9 l' := fun l' => by unfold pN; rw [vk 9 (by decide) (by decide) (by decide)]
        obtain ⟨i1, i2, i3⟩ := ih (l + 1) L1 V1 (max m (p + 1)) hw1 hp1 h41 hY1 hR1 s1 L32 (by omega) (by omega) (by omega) (fun l' h1 h2 h3 => by rw [L22 l' (by omega)]; exact hs l' (by omega) h2 (by rw [← e9]; exact h3))
        rw [show V1 2 b = V 2 b by rw [vk 2 (by decide) (by decide) (by decide)]] at i1
        refine ⟨i1, fun l' h1 h2 h3 => ?_, fun l' h1 => ?_⟩
        · by_cases z : l' = l
          · subst z
            obtain ⟨j1, j2⟩ := i3 l' (Or.inl (by omega))
            rw [j1, j2, c22, c37]
          · exact i2 l' (by omega) h2 (by rw [e9]; exact h3)
        · have ne : l' ≠ l := fun z => by
            subst z
            rcases h1 with h1 | h1 | h1
            · omega
            · omega
            · exact h1 q1
          obtain ⟨j1, j2⟩ := i3 l' (by rw [e9]; omega)
          rw [j1, j2, L22 l' ne, V37 l' ne]; exact ⟨rfl, rfl⟩
      · have q3 : f_Layout_isAcross P l = 0 := ac.mpr q2
        rw [if_pos q3, if_neg q2]
        have iw : f_Mod_isWithin (u2 V 37 l (-1)) l = f_Mod_isWithin V l := iw_of (by rw [u2_k (by decide)]) (by rw [u2_k (by decide)]) (by rw [u2_k (by decide)])
        rw [iw, if_neg q2, u2_k (show (36 : Nat) ≠ 37 by decide), e1, gr_m (by omega) (by omega), gr_nI (by omega) (by omega)]
        have vk : ∀ k, k ≠ 37 → u2 V 37 l (-1) k = V k := fun k x3 => u2_k x3
        have V37 : ∀ l', l' ≠ l → u2 V 37 l (-1) 37 l' = V 37 l' := fun l' hne => u2_i hne rfl
        have c37 : u2 V 37 l (-1) 37 l = -1 := u2_s
        have hw1 : wfM (u2 V 37 l (-1)) := wfM.uk hw (by decide)
        have hp1 : PlM (u2 V 37 l (-1)) := PlM.uk hp (by decide)
        have hY1 : LyI (u2 V 37 l (-1)) (K + (l + 1)) := (LyI.uk hY (by decide)).mono (by omega)
        have hR1 : RdI (u2 V 37 l (-1)) b := RdI.uk hR (by decide)
        generalize u2 V 37 l (-1) = V1 at *
        have h41 : PS4 P V1 x y := h4.cg (by rw [vk 100 (by decide)]) (by rw [vk 100 (by decide)]) (vk _ (by decide)) (vk _ (by decide)) (vk _ (by decide)) (vk _ (by decide)) (vk _ (by decide))
        have hL1 : LR P L V1 := by
          unfold LR at *
          rw [vk 100 (by decide), vk 40 (by decide), vk 35 (by decide), vk 36 (by decide), vk 39 (by decide), vk 41 (by decide)]; exact hL
        have e9 : ∀ l', pN V1 9 l' = pN V 9 l' := fun l' => by unfold pN; rw [vk 9 (by decide)]
        have ln : pN V1 100 42 = pN V 100 42 := by unfold pN; rw [vk 100 (by decide)]
        obtain ⟨i1, i2, i3⟩ := ih (l + 1) L V1 (max m a) hw1 hp1 h41 hY1 hR1 hL1 h32 (by omega) (by omega) (by omega) (fun l' h1 h2 h3 => hs l' (by omega) h2 (by rw [← e9]; exact h3))
        rw [show V1 2 b = V 2 b by rw [vk 2 (by decide)]] at i1
        refine ⟨i1, fun l' h1 h2 h3 => ?_, fun l' h1 => ?_⟩
        · by_cases z : l' = l
          · subst z
            obtain ⟨j1, j2⟩ := i3 l' (Or.inl (by omega))
            rw [j1, j2, c37]; exact hs l' (by omega) h2 h3
          · exact i2 l' (by omega) h2 (by rw [e9]; exact h3)
        · have ne : l' ≠ l := fun z => by
            subst z
            rcases h1 with h1 | h1 | h1
            · omega
            · omega
            · exact h1 q1
          obtain ⟨j1, j2⟩ := i3 l' (by rw [e9]; omega)
          rw [j1, j2, V37 l' ne]; exact ⟨rfl, rfl⟩
    · rw [if_neg q1, if_neg q1]
      obtain ⟨i1, i2, i3⟩ := ih (l + 1) L V m hw hp h4 (hY.mono (by omega)) hR hL h32 (by omega) (by omega) hm (fun l' h1 h2 h3 => hs l' (by omega) h2 h3)
      refine ⟨i1, fun l' h1 h2 h3 => ?_, fun l' h1 => ?_⟩
      · have ne : l' ≠ l := fun z => by subst z; exact q1 h3
        exact i2 l' (by omega) h2 h3
      · refine i3 l' ?_
        by_cases z : l' = l
        · subst z; exact Or.inl (by omega)
        · omega
