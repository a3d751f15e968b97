/-! the whole cycle laid, alike on both sides -/
theorem se_66 : ∀ (t k : Nat) (L : Zf), 5 - k < t → k ≤ 5 → (∀ j, j ≠ 24 → f_Layout_startEmpty_66 t L k j = L j) ∧ ∀ i, f_Layout_startEmpty_66 t L k 24 i = if k ≤ i ∧ i < 5 then 0 else L 24 i := by
  intro t
  induction t with
  | zero => intro k L h; omega
  | succ t ih =>
    intro k L h hk
    rw [f_Layout_startEmpty_66]
    by_cases q : 5 ≤ k
    · rw [if_pos q]; exact ⟨fun _ _ => rfl, fun i => by rw [if_neg (by omega)]⟩
    rw [if_neg q]
    obtain ⟨i1, i2⟩ := ih (k + 1) (u2 L 24 k 0) (by omega) (by omega)
    refine ⟨fun j hj => by rw [i1 j hj, u2_k hj], fun i => ?_⟩
    rw [i2 i]
    by_cases q1 : k + 1 ≤ i ∧ i < 5
    · rw [if_pos q1, if_pos (by omega)]
    · rw [if_neg q1]
      by_cases e : i = k
      · subst e; rw [u2_s, if_pos (by omega)]
      · rw [u2_i e rfl, if_neg (by omega)]
theorem se_38 : ∀ (t k : Nat) (L : Zf), 12 - k < t → k ≤ 12 → (∀ j, j ≠ 22 → j ≠ 23 → f_Layout_startEmpty_38 t L k j = L j) ∧ ∀ i, k ≤ i → i < 12 → f_Layout_startEmpty_38 t L k 22 i = -1 ∧ f_Layout_startEmpty_38 t L k 23 i = -1 := by
  intro t
  induction t with
  | zero => intro k L h; omega
  | succ t ih =>
    intro k L h hk
    rw [f_Layout_startEmpty_38]
    by_cases q : 12 ≤ k
    · rw [if_pos q]; exact ⟨fun _ _ _ => rfl, fun i h1 h2 => by omega⟩
    rw [if_neg q]
    obtain ⟨i1, i2⟩ := ih (k + 1) (u2 (u2 L 22 k (-1)) 23 k (-1)) (by omega) (by omega)
    refine ⟨fun j h2 h3 => by rw [i1 j h2 h3, u2_k h3, u2_k h2], fun i h1 h2 => ?_⟩
    by_cases e : i = k
    · subst e
      have key : ∀ (t k : Nat) (L : Zf), i < k → f_Layout_startEmpty_38 t L k 22 i = L 22 i ∧ f_Layout_startEmpty_38 t L k 23 i = L 23 i := by
        intro t
        induction t with
        | zero => intro k L _; exact ⟨rfl, rfl⟩
        | succ t ih =>
          intro k L hk
          rw [f_Layout_startEmpty_38]
          split
          · exact ⟨rfl, rfl⟩
          · obtain ⟨a, b⟩ := ih (k + 1) (u2 (u2 L 22 k (-1)) 23 k (-1)) (by omega)
            rw [a, b, u2_k (by decide), u2_i (by omega) rfl, u2_i (by omega) rfl, u2_k (by decide)]; exact ⟨rfl, rfl⟩
      obtain ⟨a, b⟩ := key t (i + 1) (u2 (u2 L 22 i (-1)) 23 i (-1)) (by omega)
      rw [a, b, u2_k (by decide), u2_s, u2_s]; exact ⟨rfl, rfl⟩
    · exact i2 i (by omega) h2
theorem se_17 : ∀ (t k : Nat) (L : Zf), 10 - k < t → k ≤ 10 → (∀ j, j ≠ 19 → f_Layout_startEmpty_17 t L k j = L j) ∧ ∀ i, f_Layout_startEmpty_17 t L k 19 i = if k ≤ i ∧ i < 10 then -1 else L 19 i := by
  intro t
  induction t with
  | zero => intro k L h; omega
  | succ t ih =>
    intro k L h hk
    rw [f_Layout_startEmpty_17]
    by_cases q : 10 ≤ k
    · rw [if_pos q]; exact ⟨fun _ _ => rfl, fun i => by rw [if_neg (by omega)]⟩
    rw [if_neg q]
    obtain ⟨i1, i2⟩ := ih (k + 1) (u2 L 19 k (-1)) (by omega) (by omega)
    refine ⟨fun j hj => by rw [i1 j hj, u2_k hj], fun i => ?_⟩
    rw [i2 i]
    by_cases q1 : k + 1 ≤ i ∧ i < 10
    · rw [if_pos q1, if_pos (by omega)]
    · rw [if_neg q1]
      by_cases e : i = k
      · subst e; rw [u2_s, if_pos (by omega)]
      · rw [u2_i e rfl, if_neg (by omega)]
theorem se_sp {L : Zf} : (f_Layout_startEmpty L 32 0 = 0 ∧ f_Layout_startEmpty L 32 1 = 0) ∧ (∀ b, b < 10 → f_Layout_startEmpty L 19 b = -1) ∧ (∀ l, l < 12 → f_Layout_startEmpty L 22 l = -1 ∧ f_Layout_startEmpty L 23 l = -1) ∧ (∀ d, d < 5 → f_Layout_startEmpty L 24 d = 0) ∧ f_Layout_startEmpty L 18 = L 18 := by
  unfold f_Layout_startEmpty
  obtain ⟨a1, a2⟩ := se_17 11 0 (u2 (u2 (u2 L 32 0 0) 32 1 0) 32 2 0) (by omega) (by omega)
  generalize f_Layout_startEmpty_17 11 (u2 (u2 (u2 L 32 0 0) 32 1 0) 32 2 0) 0 = A at *
  obtain ⟨b1, b2⟩ := se_38 13 0 A (by omega) (by omega)
  generalize f_Layout_startEmpty_38 13 A 0 = B at *
  obtain ⟨c1, c2⟩ := se_66 6 0 B (by omega) (by omega)
  generalize f_Layout_startEmpty_66 6 B 0 = C at *
  refine ⟨⟨?_, ?_⟩, fun b hb => ?_, fun l hl => ?_, fun d hd => ?_, ?_⟩
  · rw [c1 _ (by decide), b1 _ (by decide) (by decide), a1 _ (by decide), u2_i (by decide) rfl, u2_i (by decide) rfl, u2_s]
  · rw [c1 _ (by decide), b1 _ (by decide) (by decide), a1 _ (by decide), u2_i (by decide) rfl, u2_s]
  · rw [c1 _ (by decide), b1 _ (by decide) (by decide), a2, if_pos (by omega)]
  · rw [c1 _ (by decide), c1 _ (by decide)]; exact b2 l (by omega) hl
  · rw [c2, if_pos (by omega)]
  · rw [c1 _ (by decide), b1 _ (by decide) (by decide), a1 _ (by decide), u2_k (by decide), u2_k (by decide), u2_k (by decide)]
theorem rdy_sp {P L : Zf} {b : Nat} (hn : pN P 31 0 ≤ 12) : ∀ (t k : Nat), 12 - k < t → (¬ f_Layout_isReady_2 P L b t k = 0 ↔ ∀ l, k ≤ l → l < pN P 31 0 → pN P 13 l = b → ¬ L 19 (pN P 12 l) = -1) := by
  intro t
  induction t with
  | zero => intro k h; omega
  | succ t ih =>
    intro k h
    rw [f_Layout_isReady_2]
    by_cases q : pN P 31 0 ≤ k
    · rw [if_pos q]; exact ⟨fun _ l h1 h2 => by omega, fun _ => by decide⟩
    rw [if_neg q]
    by_cases q1 : pN P 13 k = b
    · rw [if_pos q1]
      by_cases q2 : L 19 (pN P 12 k) = -1
      · rw [if_pos q2]; exact ⟨fun z => absurd rfl z, fun z => absurd q2 (z k (by omega) (by omega) q1)⟩
      · rw [if_neg q2, ih (k + 1) (by omega)]
        refine ⟨fun z l h1 h2 h3 => ?_, fun z l h1 h2 h3 => z l (by omega) h2 h3⟩
        by_cases e : l = k
        · subst e; exact q2
        · exact z l (by omega) h2 h3
    · rw [if_neg q1, ih (k + 1) (by omega)]
      refine ⟨fun z l h1 h2 h3 => ?_, fun z l h1 h2 h3 => z l (by omega) h2 h3⟩
      by_cases e : l = k
      · subst e; exact absurd h3 q1
      · exact z l (by omega) h2 h3
theorem lr_sp {P L : Zf} {c : Nat} (hc : c < pN P 30 3) (h1 : L 19 c = -1) (h2 : ¬ f_Layout_isReady P L c = 0) : ∀ (t k : Nat), c - k < t → k ≤ c → (∀ j, k ≤ j → j < c → L 19 j = -1 → f_Layout_isReady P L j = 0) → f_Layout_leastReady_2 P L t k = nI c := by
  intro t
  induction t with
  | zero => intro k h; omega
  | succ t ih =>
    intro k h hk hj
    rw [f_Layout_leastReady_2, if_neg (by omega)]
    by_cases e : k = c
    · subst e; rw [if_pos h1, if_neg h2]
    · by_cases q : L 19 k = -1
      · rw [if_pos q, if_pos (hj k (by omega) (by omega) q)]
        exact ih (k + 1) (by omega) (by omega) (fun j a b => hj j (by omega) b)
      · rw [if_neg q]
        exact ih (k + 1) (by omega) (by omega) (fun j a b => hj j (by omega) b)
def INV (F : Prop) (P L V : Zf) (x y : Int32) (k : Nat) : Prop :=
  (wfM V ∧ PlM V ∧ PS4 P V x y ∧ LyI V (72 * k) ∧ cntT V (pN V 100 20) = k) ∧ (LR P L V ∧ L 32 2 = nI k ∧ (F → isN L 18 10)) ∧
  (∀ j, j < k → L 18 j = V 34 j ∧ pN V 34 j < pN P 30 3 ∧ L 19 (pN V 34 j) = nI j) ∧ (∀ b, b < pN P 30 3 → ¬ V 40 b = 0 → ∃ j, j < k ∧ pN V 34 j = b) ∧
  (∀ l, l < pN P 31 0 → (¬ V 40 (pN V 9 l) = 0 → L 22 l = V 37 l) ∧ (V 40 (pN V 9 l) = 0 → L 22 l = -1)) ∧ (∀ l, l < 12 → L 23 l = -1)
theorem inv_st {F : Prop} {P L V : Zf} {x y : Int32} {k : Nat} (h : INV F P L V x y k) (hk : k < pN P 30 3) (hq : wfQ P) : f_Layout_leastReady P L = nI (cbF V 11 0) ∧ cbF V 11 0 < pN P 30 3 ∧ INV F P (f_Layout_takeBlock P (cbF V 11 0) (V 2 (cbF V 11 0)) k L) (f_Mod_takes (cbF V 11 0) (u2 V 34 k (nI (cbF V 11 0)))) x y (k + 1) := by
  obtain ⟨⟨hw, hp, h4, hY, hc⟩, ⟨hL, h32, h18⟩, ho, ht, hs, hb⟩ := h
  have e20 := h4.1.1
  have e21 := h4.1.2
  have nb : pN P 30 3 ≤ 10 := by have := hq.2.2.2.2.2.1.2; omega
  have nl : pN P 31 0 ≤ 12 := by have := hq.2.2.2.2.2.2.1.2; omega
  obtain ⟨w1, w2, w3, w4, w5, w6, w7, w8⟩ := lay_st hw hp hY hc (by omega)
  obtain ⟨c1, c2, c3, c4⟩ := cbF_of 11 0 (hc_ex hw hp (by omega)) (by omega)
  obtain ⟨f0, fR⟩ := cb_of hw c3
  have rd : ∀ j, j < pN P 30 3 → (¬ f_Layout_isReady P L j = 0 ↔ RdI V j) := by
    intro j hj
    unfold f_Layout_isReady
    rw [rdy_sp nl 13 0 (by omega)]
    unfold RdI
    refine ⟨fun z l hl e1 e2 => ?_, fun z l _ hl e1 e2 => ?_⟩
    · have f := h4.2.2 l (by omega)
      have q := hp.2.2 l (by omega)
      exact z l (by omega) (by omega) (by omega) ((by rw [f.1]; exact (hL.2.1 _ (by omega)).1.mpr e2))
    · have f := h4.2.2 l (by omega)
      have q := hp.2.2 l (by omega)
      rw [f.1] at e2
      exact z l (by omega) (by omega) ((hL.2.1 _ (by omega)).1.mp e2)
  generalize hcb : cbF V 11 0 = b at *
  have hbn : b < pN P 30 3 := by omega
  refine ⟨?_, hbn, ?_⟩
  · unfold f_Layout_leastReady
    refine lr_sp hbn ((hL.2.1 b hbn).1.mpr f0) ((rd b hbn).mpr fR) 11 0 (by omega) (by omega) (fun j _ hj hj19 => ?_)
    apply Classical.byContradiction
    intro hn
    have := c4 j (by omega) hj
    rw [cb_to hw ((hL.2.1 j (by omega)).1.mp hj19) ((rd j (by omega)).mp hn)] at this
    exact absurd this (by decide)
  · have hd5 : pN V 1 b < 5 := (hw.2.1 b).2
    have hm := hY.2.2.1 (pN V 1 b) hd5
    have kk : ∀ j, j ≠ 34 → u2 V 34 k (nI b) j = V j := fun j hj => u2_k hj
    have hwZ : wfM (u2 V 34 k (nI b)) := wfM.tk hw c1
    have hpZ : PlM (u2 V 34 k (nI b)) := PlM.uk hp (by decide)
    have h4Z : PS4 P (u2 V 34 k (nI b)) x y := h4.cg (by rw [kk 100 (by decide)]) (by rw [kk 100 (by decide)]) (kk _ (by decide)) (kk _ (by decide)) (kk _ (by decide)) (kk _ (by decide)) (kk _ (by decide))
    have hYZ : LyI (u2 V 34 k (nI b)) (72 * k + 0) := LyI.uk hY (by decide)
    have hRZ : RdI (u2 V 34 k (nI b)) b := RdI.uk fR (by decide)
    have hLZ : LR P L (u2 V 34 k (nI b)) := by
      unfold LR at *
      rw [kk 100 (by decide), kk 40 (by decide), kk 35 (by decide), kk 36 (by decide), kk 39 (by decide), kk 41 (by decide)]; exact hL
    have v2 : u2 V 34 k (nI b) 2 b = V 2 b := by rw [kk 2 (by decide)]
    have v9 : ∀ l, pN (u2 V 34 k (nI b)) 9 l = pN V 9 l := fun l => by unfold pN; rw [kk 9 (by decide)]
    have v37 : u2 V 34 k (nI b) 37 = V 37 := kk 37 (by decide)
    have v42 : pN (u2 V 34 k (nI b)) 100 42 = pN V 100 42 := by unfold pN; rw [kk 100 (by decide)]
    have e39 : (u2 V 34 k (nI b)) 39 (pN (u2 V 34 k (nI b)) 1 b) = nI (pN V 39 (pN V 1 b)) := by
      have : pN (u2 V 34 k (nI b)) 1 b = pN V 1 b := by unfold pN; rw [kk 1 (by decide)]
      rw [this, kk 39 (by decide)]; exact hm.1
    obtain ⟨r1, r2, r3⟩ := tk_rel (X := V 2 b) (K := 72 * k) (n := k) hbn (by omega) nb (by omega) 13 0 L (u2 V 34 k (nI b)) (pN V 39 (pN V 1 b)) hwZ hpZ h4Z hYZ hRZ hLZ h32 (by omega) (by omega) (by rw [v42]; exact hm.2) (fun l' _ h2 h3 => (hs l' h2).2 (by rw [v9] at h3; rw [h3]; exact f0))
    have tk := tk_keep (b := b) 13 (u2 V 34 k (nI b)) ((u2 V 34 k (nI b)) 39 (pN (u2 V 34 k (nI b)) 1 b)) 0
    unfold f_Mod_takes at w1 w2 w3 w4 w5 w6 w7 ⊢
    rw [e39] at w1 w2 w3 w4 w5 w6 w7 tk ⊢
    generalize f_Mod_takes_14 b 13 (u2 V 34 k (nI b)) (nI (pN V 39 (pN V 1 b))) 0 = V1 at *
    unfold f_Layout_takeBlock
    have l24 : L 24 (pN P 1 b) = nI (pN V 39 (pN V 1 b)) := by rw [(h4.2.1 b hbn).1, hL.2.2.1 _ hd5]; exact hm.1
    rw [l24]
    have kp := tb_keep P b (V 2 b) k 13 L (nI (pN V 39 (pN V 1 b))) 0
    rw [v2] at r1
    generalize f_Layout_takeBlock_16 P b (V 2 b) k 13 L (nI (pN V 39 (pN V 1 b))) 0 = A at *
    have a32 : A.2 32 2 = nI k := by rw [kp 32 2 (Or.inr (by decide)) (by decide)]; exact h32
    obtain ⟨t1, t2, t3, t4, t5, t6, t7, t8, t9, t10⟩ := tb_sp (P := P) (b := b) (x := V 2 b) (er := A.1) a32
    generalize f_Layout_takeBlock_107 P b (V 2 b) k A.2 A.1 = L1 at *
    have a18 : A.2 18 = L 18 := funext (fun i => kp 18 i (Or.inl (by decide)) (by decide))
    have a19 : A.2 19 = L 19 := funext (fun i => kp 19 i (Or.inl (by decide)) (by decide))
    have a23 : A.2 23 = L 23 := funext (fun i => kp 23 i (Or.inl (by decide)) (by decide))
    have k9 : V1 9 = V 9 := by rw [tk.1 9 (by unfold tkK; decide), kk 9 (by decide)]
    have p9 : ∀ l, pN V1 9 l = pN V 9 l := fun l => by unfold pN; rw [k9]
    have h41 : PS4 P V1 x y := h4.cg (by rw [tk.2 20 (by decide) (by decide), kk 100 (by decide)]) (by rw [tk.2 21 (by decide) (by decide), kk 100 (by decide)]) (by rw [tk.1 1 (by unfold tkK; decide), kk 1 (by decide)]) (by rw [tk.1 2 (by unfold tkK; decide), kk 2 (by decide)]) (by rw [tk.1 8 (by unfold tkK; decide), kk 8 (by decide)]) k9 (by rw [tk.1 10 (by unfold tkK; decide), kk 10 (by decide)])
    have p34 : ∀ j, pN V1 34 j = if j = k then b else pN V 34 j := by
      intro j
      unfold pN
      rw [w7]
      by_cases e : j = k
      · subst e; rw [ud_s, if_pos rfl, nI_clamp (by omega)]
      · rw [ud_o e, if_neg e]
    refine ⟨⟨w1, w2, h41, w3, by rw [w4]; exact w5⟩, ⟨r1, t8, ?_⟩, fun j hj => ?_, fun c hc hc0 => ?_, fun l hl => ?_, fun l hl => ?_⟩
    · intro hF i
      unfold pN
      rw [t1, a18]
      by_cases e : i = k
      · subst e; rw [ud_s, nI_clamp (by omega)]; exact ⟨rfl, by omega⟩
      · rw [ud_o e]; exact h18 hF i
    · rw [p34 j, t1, t2, w7, a18, a19]
      by_cases e : j = k
      · subst e
        rw [if_pos rfl, ud_s, ud_s, ud_s]; exact ⟨rfl, hbn, rfl⟩
      · obtain ⟨o1, o2, o3⟩ := ho j (by omega)
        have ne : pN V 34 j ≠ b := fun z => by
          rw [z] at o3
          rw [(hL.2.1 b hbn).1.mpr f0] at o3
          exact m1_ne (by omega) o3.symm
        rw [if_neg e, ud_o e, ud_o e, ud_o ne]; exact ⟨o1, o2, o3⟩
    · rw [w6] at hc0
      by_cases e : c = b
      · exact ⟨k, by omega, by rw [p34, if_pos rfl]; exact e.symm⟩
      · rw [ud_o e] at hc0
        obtain ⟨j, j1, j2⟩ := ht c hc hc0
        exact ⟨j, by omega, by rw [p34, if_neg (by omega)]; exact j2⟩
    · rw [p9, w6, t9]
      by_cases e : pN V 9 l = b
      · rw [e, ud_s]
        exact ⟨fun _ => r2 l (by omega) hl (by rw [v9]; exact e), fun z => absurd z (by decide)⟩
      · rw [ud_o e]
        obtain ⟨j1, j2⟩ := r3 l (Or.inr (Or.inr (by rw [v9]; exact e)))
        rw [j1, j2, v37]; exact hs l hl
    · rw [t10, a23]; exact hb l hl
theorem ly_lp {F : Prop} {P : Zf} {x y : Int32} (hq : wfQ P) : ∀ (t k : Nat) (L V : Zf), pN P 30 3 - k < t → k ≤ pN P 30 3 → INV F P L V x y k → ∃ L', f_Layout_lay_7 P x y t L k = f_Layout_lay_71 P x y 13 L' 0 ∧ INV F P L' (f_Mod_laysCycle_75 t V k) x y (pN P 30 3) := by
  intro t
  induction t with
  | zero => intro k L V h; omega
  | succ t ih =>
    intro k L V h hk hI
    rw [f_Layout_lay_7, f_Mod_laysCycle_75, ← hI.1.2.2.1.1.1]
    by_cases q : pN P 30 3 ≤ k
    · rw [if_pos q, if_pos q]
      have e : k = pN P 30 3 := by omega
      rw [e] at hI
      exact ⟨L, rfl, hI⟩
    rw [if_neg q, if_neg q]
    obtain ⟨s1, s2, s3⟩ := inv_st hI (by omega) hq
    have nb : pN P 30 3 ≤ 10 := by have := hq.2.2.2.2.2.1.2; omega
    have lr : lrN P L = cbF V 11 0 := by unfold lrN; rw [s1, nI_clamp (by omega)]
    rw [s1, if_neg (m1_ne (by omega)), lr]
    have tm := (hI.1.2.2.1.2.1 _ s2).2
    by_cases z : nI (cbF V 11 0) = x
    · rw [if_pos z] at tm ⊢
      rw [← tm]; exact ih (k + 1) _ _ (by omega) (by omega) s3
    · rw [if_neg z] at tm ⊢
      rw [← tm]; exact ih (k + 1) _ _ (by omega) (by omega) s3
/-- the ways back -/
theorem bk_lp {P : Zf} {x y : Int32} : ∀ (t l : Nat) (L V : Zf), wfM V → PlM V → PS4 P V x y → LyI V (720 + l) → AlI V → LR P L V → l ≤ 12 → 12 - l < t → (∀ l', l ≤ l' → l' < pN P 31 0 → L 23 l' = -1) → LR P (f_Layout_lay_71 P x y t L l) (f_Mod_laysCycle_119 t V l) ∧ (∀ k, k ≠ 23 → k ≠ 32 → f_Layout_lay_71 P x y t L l k = L k) ∧ (∀ l', l' < l → f_Layout_lay_71 P x y t L l 23 l' = L 23 l' ∧ f_Mod_laysCycle_119 t V l 38 l' = V 38 l') ∧ ∀ l', l ≤ l' → l' < pN P 31 0 → f_Layout_lay_71 P x y t L l 23 l' = f_Mod_laysCycle_119 t V l 38 l' ∧ (¬ pN P 14 l' = 2 → f_Layout_lay_71 P x y t L l 23 l' = -1) := by
  intro t
  induction t with
  | zero => intro l L V _ _ _ _ _ _ _ h; omega
  | succ t ih =>
    intro l L V hw hp h4 hY hA hL hl ht hs
    have hz1 := hw.lnk.2
    have e20 := h4.1.1
    have e21 := h4.1.2
    rw [f_Layout_lay_71, f_Mod_laysCycle_119, ← h4.1.2]
    by_cases q : pN P 31 0 ≤ l
    · rw [if_pos q, if_pos q]
      exact ⟨hL, fun _ _ _ => rfl, fun _ _ => ⟨rfl, rfl⟩, fun l' h1 h2 => by omega⟩
    rw [if_neg q, if_neg q]
    obtain ⟨f1, f2, f3⟩ := h4.2.2 l (by omega)
    have ac := iw_ac h4 hp (l := l) (by omega)
    have skip : f_Layout_lay_71 P x y t L (l + 1) = f_Layout_lay_71 P x y t L (l + 1) → LR P (f_Layout_lay_71 P x y t L (l + 1)) (f_Mod_laysCycle_119 t (u2 V 38 l (-1)) (l + 1)) ∧ (∀ k, k ≠ 23 → k ≠ 32 → f_Layout_lay_71 P x y t L (l + 1) k = L k) ∧ (∀ l', l' < l → f_Layout_lay_71 P x y t L (l + 1) 23 l' = L 23 l' ∧ f_Mod_laysCycle_119 t (u2 V 38 l (-1)) (l + 1) 38 l' = V 38 l') ∧ ∀ l', l ≤ l' → l' < pN P 31 0 → f_Layout_lay_71 P x y t L (l + 1) 23 l' = f_Mod_laysCycle_119 t (u2 V 38 l (-1)) (l + 1) 38 l' ∧ (¬ pN P 14 l' = 2 → f_Layout_lay_71 P x y t L (l + 1) 23 l' = -1) := by
      intro _
      have vk : ∀ k, k ≠ 38 → u2 V 38 l (-1) k = V k := fun k x3 => u2_k x3
      have V38 : ∀ l', l' ≠ l → u2 V 38 l (-1) 38 l' = V 38 l' := fun l' hne => u2_i hne rfl
      have c38 : u2 V 38 l (-1) 38 l = -1 := u2_s
      have hw1 : wfM (u2 V 38 l (-1)) := wfM.uk hw (by decide)
      have hp1 : PlM (u2 V 38 l (-1)) := PlM.uk hp (by decide)
      have hY1 : LyI (u2 V 38 l (-1)) (720 + (l + 1)) := (LyI.uk hY (by decide)).mono (by omega)
      have hA1 : AlI (u2 V 38 l (-1)) := AlI.uk hA (by decide)
      generalize u2 V 38 l (-1) = V1 at *
      have h41 : PS4 P V1 x y := h4.cg (by rw [vk 100 (by decide)]) (by rw [vk 100 (by decide)]) (vk _ (by decide)) (vk _ (by decide)) (vk _ (by decide)) (vk _ (by decide)) (vk _ (by decide))
      have hL1 : LR P L V1 := by
        unfold LR at *
        rw [vk 100 (by decide), vk 40 (by decide), vk 35 (by decide), vk 36 (by decide), vk 39 (by decide), vk 41 (by decide)]; exact hL
      obtain ⟨i1, i2, i3, i4⟩ := ih (l + 1) L V1 hw1 hp1 h41 hY1 hA1 hL1 (by omega) (by omega) (fun l' h1 h2 => hs l' (by omega) h2)
      refine ⟨i1, i2, fun l' h1 => ?_, fun l' h1 h2 => ?_⟩
      · obtain ⟨j1, j2⟩ := i3 l' (by omega)
        rw [j1, j2, V38 l' (by omega)]; exact ⟨rfl, rfl⟩
      · by_cases e : l' = l
        · subst e
          obtain ⟨j1, j2⟩ := i3 l' (by omega)
          rw [j1, j2, c38, hs l' (by omega) h2]; exact ⟨rfl, fun _ => rfl⟩
        · exact i4 l' (by omega) h2
    rw [f3]
    by_cases q1 : pN V 10 l = 2
    · rw [if_pos q1, if_pos q1]
      by_cases q2 : f_Mod_isWithin V l = 0
      · have q3 : ¬ f_Layout_isAcross P l = 0 := fun z => ac.mp z q2
        rw [if_neg q3, if_pos q2]
        obtain ⟨e1, e2, e3⟩ := ly_en2 (l := l) hw hY (by omega) hA hp (by rw [← h4.1.2]; omega)
        have hin := hp.2.2 l (by rw [← h4.1.2]; omega)
        have l21 : L 21 (pN P 13 l) = nI (pN V 36 (pN V 9 l)) := by rw [f2, ((hL.2.1 _ (by omega)).2 (hA _ hin.2)).2]; exact e1
        rw [l21]
        generalize pN V 36 (pN V 9 l) = a at *
        obtain ⟨s1, s2, p, s3, s4, s5⟩ := hL.slot hY (by omega) e2 (l := l) (kk := 23) (by omega) (Or.inr rfl) (hs l (by omega) (by omega)) 38 (Or.inr rfl)
        have ly := ly_slot hY (by omega) e2
        have c23 : u2 (f_Layout_claimSlot (nI a) L).2 23 l (f_Layout_claimSlot (nI a) L).1 23 l = nI p := by rw [u2_s, s2, s4]
        have c38 : u2 (f_Mod_slotFrom a V).2 38 l (f_Mod_slotFrom a V).1 38 l = nI p := by rw [u2_s, s4]
        have L23 : ∀ l', l' ≠ l → u2 (f_Layout_claimSlot (nI a) L).2 23 l (f_Layout_claimSlot (nI a) L).1 23 l' = L 23 l' := fun l' hne => by rw [u2_i hne rfl, cs_keep0 _ _ _ _ (Or.inl (by decide))]
        have V38 : ∀ l', l' ≠ l → u2 (f_Mod_slotFrom a V).2 38 l (f_Mod_slotFrom a V).1 38 l' = V 38 l' := fun l' hne => by rw [u2_i hne rfl, sf_keep.1 _ (by decide) (by decide)]
        have Lk : ∀ k, k ≠ 23 → k ≠ 32 → u2 (f_Layout_claimSlot (nI a) L).2 23 l (f_Layout_claimSlot (nI a) L).1 k = L k := fun k x1 x2 => funext (fun i => by rw [u2_k x1, cs_keep0 _ _ _ _ (Or.inl x2)])
        have vk : ∀ k, k ≠ 41 → k ≠ 100 → k ≠ 38 → u2 (f_Mod_slotFrom a V).2 38 l (f_Mod_slotFrom a V).1 k = V k := fun k x1 x2 x3 => by rw [u2_k x3, sf_keep.1 _ x1 x2]
        have vi : ∀ i, i ≠ 42 → i ≠ 43 → u2 (f_Mod_slotFrom a V).2 38 l (f_Mod_slotFrom a V).1 100 i = V 100 i := fun i x1 x2 => by rw [u2_k (by decide), sf_keep.2 _ x1 x2]
        have hw1 : wfM (u2 (f_Mod_slotFrom a V).2 38 l (f_Mod_slotFrom a V).1) := wfM.uk (z_slotFrom hw) (by decide)
        have hp1 : PlM (u2 (f_Mod_slotFrom a V).2 38 l (f_Mod_slotFrom a V).1) := PlM.uk hp.sf (by decide)
        have hY1 : LyI (u2 (f_Mod_slotFrom a V).2 38 l (f_Mod_slotFrom a V).1) (720 + (l + 1)) := LyI.uk ly.1 (by decide)
        have hA1 : AlI (u2 (f_Mod_slotFrom a V).2 38 l (f_Mod_slotFrom a V).1) := AlI.uk hA.sf (by decide)
        generalize u2 (f_Layout_claimSlot (nI a) L).2 23 l (f_Layout_claimSlot (nI a) L).1 = L1 at *
        generalize u2 (f_Mod_slotFrom a V).2 38 l (f_Mod_slotFrom a V).1 = V1 at *
        have h41 : PS4 P V1 x y := h4.cg (vi _ (by decide) (by decide)) (vi _ (by decide) (by decide)) (vk _ (by decide) (by decide) (by decide)) (vk _ (by decide) (by decide) (by decide)) (vk _ (by decide) (by decide) (by decide)) (vk _ (by decide) (by decide) (by decide)) (vk _ (by decide) (by decide) (by decide))
        obtain ⟨i1, i2, i3, i4⟩ := ih (l + 1) L1 V1 hw1 hp1 h41 hY1 hA1 s1 (by omega) (by omega) (fun l' h1 h2 => by rw [L23 l' (by omega)]; exact hs l' (by omega) h2)
        refine ⟨i1, fun k x1 x2 => by rw [i2 k x1 x2, Lk k x1 x2], fun l' h1 => ?_, fun l' h1 h2 => ?_⟩
        · obtain ⟨j1, j2⟩ := i3 l' (by omega)
          rw [j1, j2, L23 l' (by omega), V38 l' (by omega)]; exact ⟨rfl, rfl⟩
        · by_cases e : l' = l
          · subst e
            obtain ⟨j1, j2⟩ := i3 l' (by omega)
            rw [j1, j2, c38, c23]; exact ⟨rfl, fun z => absurd (by rw [f3]; exact q1) z⟩
          · exact i4 l' (by omega) h2
      · rw [if_pos (ac.mpr q2), if_neg q2]; exact skip rfl
    · rw [if_neg q1, if_neg q1]; exact skip rfl
theorem ta_eq {V : Zf} {b j : Nat} (hj : j < 11) (h1 : pN V 34 j = b) (h2 : ∀ i, i < j → ¬ pN V 34 i = b) : f_Mod_takenAt b V = nI j := by
  unfold f_Mod_takenAt
  have key : ∀ t k, j - k < t → k ≤ j → f_Mod_takenAt_2 b t V k = nI j := by
    intro t
    induction t with
    | zero => intro k h; omega
    | succ t ih =>
      intro k h hk
      rw [f_Mod_takenAt_2]
      by_cases e : k = j
      · subst e; rw [if_pos h1]
      · rw [if_neg (h2 k (by omega))]; exact ih (k + 1) (by omega) (by omega)
  exact key 11 0 (by omega) (by omega)
/-- the cycle laid: all that is read of it -/
theorem lay_rel {F : Prop} {P L V : Zf} {x y : Int32} (hq : wfQ P) (hw : wfM V) (hp : PlM V) (h4 : PS4 P V x y) (h18 : F → isN L 18 10) : (f_Layout_lay P x y L 32 0 = f_Mod_laysCycle V 100 42 ∧ f_Layout_lay P x y L 32 1 = f_Mod_laysCycle V 100 43) ∧ ((F → isN (f_Layout_lay P x y L) 18 10) ∧ ∀ k, k < pN P 30 3 → pN (f_Layout_lay P x y L) 18 k < pN P 30 3) ∧ (∀ k, k < pN P 30 3 → pN (f_Layout_lay P x y L) 18 k = pN (f_Mod_laysCycle V) 34 k ∧ f_Layout_lay P x y L 20 k = f_Mod_laysCycle V 35 k ∧ f_Layout_lay P x y L 21 k = f_Mod_laysCycle V 36 k ∧ f_Layout_lay P x y L 19 k = f_Mod_takenAt k (f_Mod_laysCycle V)) ∧ ∀ l, l < pN P 31 0 → f_Layout_lay P x y L 22 l = f_Mod_laysCycle V 37 l ∧ f_Layout_lay P x y L 23 l = f_Mod_laysCycle V 38 l ∧ (¬ pN P 14 l = 2 → f_Layout_lay P x y L 23 l = -1) := by
  have nb : pN P 30 3 ≤ 10 := by have := hq.2.2.2.2.2.1.2; omega
  have nl : pN P 31 0 ≤ 12 := by have := hq.2.2.2.2.2.2.1.2; omega
  obtain ⟨a1, a2, a3, a4, a5, a6⟩ := lay_0 hw hp
  have q1 := s_laysCycle_12 1001 (u2 (u2 V 100 43 0) 100 42 0) 0 (by omega) (by omega)
  have q2 := s_laysCycle_34 6 (f_Mod_laysCycle_12 1001 (u2 (u2 V 100 43 0) 100 42 0) 0) 0 (by omega) (by omega)
  have q3 := s_laysCycle_54 11 (f_Mod_laysCycle_34 6 (f_Mod_laysCycle_12 1001 (u2 (u2 V 100 43 0) 100 42 0) 0) 0) 0 (by omega) (by omega)
  have b42 : f_Mod_laysCycle_54 11 (f_Mod_laysCycle_34 6 (f_Mod_laysCycle_12 1001 (u2 (u2 V 100 43 0) 100 42 0) 0) 0) 0 100 42 = 0 := by rw [q3.1 100 (by decide), q2.1 100 (by decide), q1.1 100 (by decide), u2_s]
  have b43 : f_Mod_laysCycle_54 11 (f_Mod_laysCycle_34 6 (f_Mod_laysCycle_12 1001 (u2 (u2 V 100 43 0) 100 42 0) 0) 0) 0 100 43 = 0 := by rw [q3.1 100 (by decide), q2.1 100 (by decide), q1.1 100 (by decide), u2_i (by decide) rfl, u2_s]
  have b39 : ∀ d, d < 5 → f_Mod_laysCycle_54 11 (f_Mod_laysCycle_34 6 (f_Mod_laysCycle_12 1001 (u2 (u2 V 100 43 0) 100 42 0) 0) 0) 0 39 d = 0 := fun d hd => by rw [q3.1 39 (by decide), q2.2 d, if_pos (by omega)]
  have b41 : ∀ p, p < 1000 → f_Mod_laysCycle_54 11 (f_Mod_laysCycle_34 6 (f_Mod_laysCycle_12 1001 (u2 (u2 V 100 43 0) 100 42 0) 0) 0) 0 41 p = 0 := fun p hp => by rw [q3.1 41 (by decide), q2.1 41 (by decide), q1.2 p, if_pos (by omega)]
  unfold f_Mod_laysCycle f_Layout_lay
  generalize f_Mod_laysCycle_54 11 (f_Mod_laysCycle_34 6 (f_Mod_laysCycle_12 1001 (u2 (u2 V 100 43 0) 100 42 0) 0) 0) 0 = V0 at *
  obtain ⟨⟨s1, s2⟩, s3, s4, s5, s6⟩ := se_sp (L := L)
  have s7 := lay0 L
  generalize f_Layout_startEmpty L = L0 at *
  have h40 : PS4 P V0 x y := h4.cg (a6 _ (by decide) (by decide)) (a6 _ (by decide) (by decide)) (a5 _ (by decide) (by decide) (by decide) (by decide)) (a5 _ (by decide) (by decide) (by decide) (by decide)) (a5 _ (by decide) (by decide) (by decide) (by decide)) (a5 _ (by decide) (by decide) (by decide) (by decide)) (a5 _ (by decide) (by decide) (by decide) (by decide))
  have e20 := h40.1.1
  have I0 : INV F P L0 V0 x y 0 := by
    refine ⟨⟨a1, a2, h40, a3, cntT_0 (fun b hb => a4 b (by omega))⟩, ⟨⟨⟨by rw [s1, b42], by rw [s2, b43]⟩, fun b hb => ⟨⟨fun _ => a4 b (by omega), fun _ => s3 b (by omega)⟩, fun z => absurd (a4 b (by omega)) z⟩, fun d hd => by rw [s5 d hd, b39 d hd], fun p hp => ⟨fun z => absurd (b41 p hp) z, fun ⟨l, hl, z⟩ => ?_⟩⟩, s7, ?_⟩, fun j hj => by omega, fun b hb z => absurd (a4 b (by omega)) z, fun l hl => ⟨fun z => ?_, fun _ => (s4 l (by omega)).1⟩, fun l hl => (s4 l hl).2⟩
    · have nm : ¬ (-1 : Int32) = nI p := fun w => m1_ne (by omega) w.symm
      rcases z with z | z
      · rw [(s4 l hl).1] at z; exact absurd z nm
      · rw [(s4 l hl).2] at z; exact absurd z nm
    · intro hF i
      unfold pN
      rw [s6]; exact h18 hF i
    · have in9 := (a2.2.2 l (by rw [← h40.1.2]; exact hl)).2
      exact absurd (a4 _ (by omega)) z
  obtain ⟨L', e1, I1⟩ := ly_lp hq 11 0 L0 V0 (by omega) (by omega) I0
  rw [e1]
  generalize f_Mod_laysCycle_75 11 V0 0 = V1 at *
  obtain ⟨⟨hw1, hp1, h41, hY1, hc1⟩, ⟨hL1, h32, h181⟩, ho1, ht1, hs1, hb1⟩ := I1
  have e21 := h41.1.1
  have hA : AlI V1 := fun b hb => cntT_full (by rw [hc1]; exact e21) b hb
  obtain ⟨k1, k2, -, k4⟩ := bk_lp 13 0 L' V1 hw1 hp1 h41 (hY1.mono (by omega)) hA hL1 (by omega) (by omega) (fun l' _ h2 => hb1 l' (by omega))
  have l9 := lay_119 13 V1 0 hw1 hp1
  generalize f_Layout_lay_71 P x y 13 L' 0 = M at *
  generalize f_Mod_laysCycle_119 13 V1 0 = U at *
  have u34 : U 34 = V1 34 := l9.1 34 (by decide) (by decide) (by decide)
  have u40 : U 40 = V1 40 := l9.1 40 (by decide) (by decide) (by decide)
  refine ⟨k1.1, ⟨?_, fun k hk => ?_⟩, fun k hk => ?_, fun l hl => ?_⟩
  · intro hF i
    unfold pN
    rw [k2 18 (by decide) (by decide)]; exact h181 hF i
  · have := ho1 k hk
    unfold pN
    rw [k2 18 (by decide) (by decide), this.1]; exact this.2.1
  · have := ho1 k hk
    have tk := (k1.2.1 k hk).2 (by rw [u40]; exact hA k (by omega))
    refine ⟨by unfold pN; rw [k2 18 (by decide) (by decide), this.1, u34], tk.1, tk.2, ?_⟩
    obtain ⟨j, j1, j2⟩ := ht1 k hk (hA k (by omega))
    have oj := (ho1 j j1).2.2
    rw [j2] at oj
    rw [tk_cg u34, k2 19 (by decide) (by decide), oj]
    refine (ta_eq (by omega) j2 (fun i hi z => ?_)).symm
    have oi := (ho1 i (by omega)).2.2
    rw [z, oj] at oi
    have := (nI_eq (by omega) (by omega)).mp oi
    omega
  · have := hs1 l hl
    have in9 := (hp1.2.2 l (by rw [← h41.1.2]; exact hl)).2
    refine ⟨?_, k4 l (by omega) hl⟩
    rw [k2 22 (by decide) (by decide), this.1 (hA _ in9), l9.1 37 (by decide) (by decide) (by decide)]
