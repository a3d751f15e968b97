/-! a block's clause -/
def abZ (n : Nat) (x y : Int32) (Z : Zf) : Zf := u2 (u2 (u2 (u2 (u2 (u2 (u2 (u2 (u2 Z 1 n x) 2 n y) 3 n (-1)) 4 n 0) 10 (n * 3 + 0) (-1)) 10 (n * 3 + 1) (-1)) 10 (n * 3 + 2) (-1)) 11 n (-1)) 30 3 (nI (n + 1))
theorem ab_eq {n : Nat} {x y : Int32} {Z : Zf} : mixK [30, 31, 0, 1, 2, 3, 4, 5, 6, 7, 8, 9, 10, 11, 12, 13, 14, 15, 16, 17] (f_Plan_addBlock n x y Z).2 Z = abZ n x y Z := by
  have e : (f_Plan_addBlock n x y Z).2 = abZ n x y Z := by
    unfold f_Plan_addBlock f_Plan_addBlock_60
    rw [f_Plan_addBlock_36, if_neg (by decide), f_Plan_addBlock_36, if_neg (by decide), f_Plan_addBlock_36, if_neg (by decide), f_Plan_addBlock_36, if_pos (by decide)]
    rfl
  rw [e]
  funext k
  by_cases h : k ∈ [30, 31, 0, 1, 2, 3, 4, 5, 6, 7, 8, 9, 10, 11, 12, 13, 14, 15, 16, 17]
  · exact mx_in h
  · rw [mix_o h]
    simp only [List.mem_cons, List.not_mem_nil, or_false] at h
    unfold abZ
    rw [u2_k (by omega), u2_k (by omega), u2_k (by omega), u2_k (by omega), u2_k (by omega), u2_k (by omega), u2_k (by omega), u2_k (by omega), u2_k (by omega)]
theorem abk {n : Nat} {x y : Int32} {Z : Zf} {k : Nat} (h : k ≠ 1 ∧ k ≠ 2 ∧ k ≠ 3 ∧ k ≠ 4 ∧ k ≠ 10 ∧ k ≠ 11 ∧ k ≠ 30) : abZ n x y Z k = Z k := by
  unfold abZ
  rw [u2_k (by omega), u2_k (by omega), u2_k (by omega), u2_k (by omega), u2_k (by omega), u2_k (by omega), u2_k (by omega), u2_k (by omega), u2_k (by omega)]
theorem ab10 {n : Nat} {x y : Int32} {Z : Zf} : abZ n x y Z 10 = upd (upd (upd (Z 10) (n * 3 + 0) (-1)) (n * 3 + 1) (-1)) (n * 3 + 2) (-1) := by
  unfold abZ
  rw [u2_k (by decide), u2_k (by decide), u2_e, u2_e, u2_e, u2_k (by decide), u2_k (by decide), u2_k (by decide), u2_k (by decide)]
theorem ab1 {n : Nat} {x y : Int32} {Z : Zf} : abZ n x y Z 1 = upd (Z 1) n x := by
  unfold abZ
  rw [u2_k (by decide), u2_k (by decide), u2_k (by decide), u2_k (by decide), u2_k (by decide), u2_k (by decide), u2_k (by decide), u2_k (by decide), u2_e]
theorem ab2 {n : Nat} {x y : Int32} {Z : Zf} : abZ n x y Z 2 = upd (Z 2) n y := by
  unfold abZ
  rw [u2_k (by decide), u2_k (by decide), u2_k (by decide), u2_k (by decide), u2_k (by decide), u2_k (by decide), u2_k (by decide), u2_e, u2_k (by decide)]
theorem ab3 {n : Nat} {x y : Int32} {Z : Zf} : abZ n x y Z 3 = upd (Z 3) n (-1) := by
  unfold abZ
  rw [u2_k (by decide), u2_k (by decide), u2_k (by decide), u2_k (by decide), u2_k (by decide), u2_k (by decide), u2_e, u2_k (by decide), u2_k (by decide)]
theorem ab4 {n : Nat} {x y : Int32} {Z : Zf} : abZ n x y Z 4 = upd (Z 4) n 0 := by
  unfold abZ
  rw [u2_k (by decide), u2_k (by decide), u2_k (by decide), u2_k (by decide), u2_k (by decide), u2_e, u2_k (by decide), u2_k (by decide), u2_k (by decide)]
theorem ab11 {n : Nat} {x y : Int32} {Z : Zf} : abZ n x y Z 11 = upd (Z 11) n (-1) := by
  unfold abZ
  rw [u2_k (by decide), u2_e, u2_k (by decide), u2_k (by decide), u2_k (by decide), u2_k (by decide), u2_k (by decide), u2_k (by decide), u2_k (by decide)]
theorem ab30 {n : Nat} {x y : Int32} {Z : Zf} : abZ n x y Z 30 = upd (Z 30) 3 (nI (n + 1)) := by
  unfold abZ
  rw [u2_e, u2_k (by decide), u2_k (by decide), u2_k (by decide), u2_k (by decide), u2_k (by decide), u2_k (by decide), u2_k (by decide), u2_k (by decide)]
theorem isN.w {Z Q : Zf} {k K i n : Nat} (h : isN Z k K) (e : Q k = upd (Z k) i (nI n)) (hn : n < K) (hK : K ≤ 1000) : isN Q k K := by
  intro j
  unfold pN
  rw [e]
  by_cases d : j = i
  · subst d; rw [ud_s, nI_clamp (by omega)]; exact ⟨rfl, hn⟩
  · rw [ud_o d]; exact h j
theorem isM.w {Z Q : Zf} {k K i : Nat} {x : Int32} (h : isM Z k K) (e : Q k = upd (Z k) i x) (hx : x = -1 ∨ ∃ n, n < K ∧ x = nI n) (hK : K ≤ 1000) : isM Q k K := by
  intro j
  unfold pN
  rw [e]
  by_cases d : j = i
  · subst d
    rw [ud_s]
    rcases hx with hx | ⟨n, hn, hx⟩
    · exact Or.inl hx
    · right; rw [hx, nI_clamp (by omega)]; exact ⟨rfl, hn⟩
  · rw [ud_o d]; exact h j
theorem isN.e {Z Q : Zf} {k K : Nat} (h : isN Z k K) (e : Q k = Z k) : isN Q k K := by unfold isN pN at *; rw [e]; exact h
theorem isM.e {Z Q : Zf} {k K : Nat} (h : isM Z k K) (e : Q k = Z k) : isM Q k K := by unfold isM pN at *; rw [e]; exact h
theorem YQ.ab {n d : Nat} {y : Int32} {Z : Zf} (h : YQ Z) (hd : d < 5) : YQ (abZ n (nI d) y Z) := by
  obtain ⟨h0, h1, h12, h13, h14, h10, h11, h18⟩ := h
  refine ⟨h0.e (abk (by omega)), h1.w ab1 hd (by omega), h12.e (abk (by omega)), h13.e (abk (by omega)), h14.e (abk (by omega)), ?_, h11.w ab11 (Or.inl rfl) (by omega), h18.e (abk (by omega))⟩
  have a1 : isM (u2 Z 10 (n * 3 + 0) (-1)) 10 12 := h10.w u2_e (Or.inl rfl) (by omega)
  have a2 : isM (u2 (u2 Z 10 (n * 3 + 0) (-1)) 10 (n * 3 + 1) (-1)) 10 12 := a1.w u2_e (Or.inl rfl) (by omega)
  exact a2.w (i := n * 3 + 2) (x := -1) (by rw [ab10, u2_e, u2_e]) (Or.inl rfl) (by omega)
theorem YQ.z0 {n d : Nat} {Z : Zf} (h : YQ Z) (hd : d < 4) : YQ (u2 Z 0 n (nI d)) := by
  obtain ⟨h0, h1, h12, h13, h14, h10, h11, h18⟩ := h
  exact ⟨h0.w u2_e hd (by omega), h1.e (u2_k (by decide)), h12.e (u2_k (by decide)), h13.e (u2_k (by decide)), h14.e (u2_k (by decide)), h10.e (u2_k (by decide)), h11.e (u2_k (by decide)), h18.e (u2_k (by decide))⟩
/-- while a block is read: its own row is not yet complete -/
def MB (b c : Nat) (Z V : Zf) : Prop := (Z 30 3 = nI (b + 1) ∧ V 100 67 = nI b ∧ Z 31 0 = V 100 68) ∧ (∀ k, k < b → BkR Z V k) ∧ (∀ l, l < pN V 100 68 → Z 12 l = V 60 l ∧ Z 13 l = V 61 l ∧ Z 14 l = V 62 l) ∧ ((∀ k w, k < b → w < 3 → LkP V k w (Z 10 (k * 3 + w))) ∧ (∀ k, k < b → SfP V k (Z 11 k)) ∧ (∀ w, w < 3 → Z 10 (b * 3 + w) = -1) ∧ Z 11 b = -1) ∧ UqL V ∧ (∀ l, l < pN V 100 68 → (pN V 60 l < b ∧ pN V 61 l < b) ∧ (pN V 62 l = 2 → V 55 (pN V 61 l) = 1 ∨ V 55 (pN V 61 l) = 2)) ∧ (Z 1 b = V 53 b ∧ Z 2 b = V 54 b) ∧ PlP Z V ∧ PlH Z V ∧ PlC c Z V
theorem MB.fr {b c : Nat} {Z Q V U : Zf} (h : MB b c Z V) (hz : ∀ k, k ≤ 9 → ∀ j, j ≠ b → Q k j = Z k j) (z1 : Q 1 b = Z 1 b) (z2 : Q 2 b = Z 2 b) (hz2 : ∀ k, 10 ≤ k → k ≤ 17 → Q k = Z k) (z30 : Q 30 = Z 30) (z31 : Q 31 = Z 31) (z6 : Q 40 6 = Z 40 6) (z7 : Q 40 7 = Z 40 7) (z8 : Q 40 8 = Z 40 8) (hv : ∀ k, 53 ≤ k → k ≤ 59 → ∀ j, j ≠ b → U k j = V k j) (v1 : U 53 b = V 53 b) (v2 : U 54 b = V 54 b) (hv2 : ∀ k, 60 ≤ k → k ≤ 65 → U k = V k) (hv3 : ∀ i, 66 ≤ i → i ≤ 72 → U 100 i = V 100 i) : MB b c Q U := by
  obtain ⟨h1, h2, h3, ⟨h4, h5, h6, h7⟩, h8, h9, h10, h11, h12, h13⟩ := h
  have e68 : pN U 100 68 = pN V 100 68 := by unfold pN; rw [hv3 68 (by omega) (by omega)]
  have e60 : ∀ l, pN U 60 l = pN V 60 l := fun l => by unfold pN; rw [hv2 60 (by omega) (by omega)]
  have e61 : ∀ l, pN U 61 l = pN V 61 l := fun l => by unfold pN; rw [hv2 61 (by omega) (by omega)]
  have e62 : ∀ l, pN U 62 l = pN V 62 l := fun l => by unfold pN; rw [hv2 62 (by omega) (by omega)]
  refine ⟨?_, fun k hk => ?_, ?_, ⟨fun k w hk hw => ?_, fun k hk => ?_, ?_, ?_⟩, ?_, fun l hl => ?_, ?_, h11.fr (fun k a d => hz2 k (by omega) d) (fun k a d => hv2 k (by omega) d), h12.fr (by rw [z30]) (by rw [z30]) (by rw [z30]) (hv3 66 (by omega) (by omega)) (hv3 69 (by omega) (by omega)) (hv3 70 (by omega) (by omega)), h13.fr z6 z7 z8 (hv3 72 (by omega) (by omega)) (hv3 71 (by omega) (by omega))⟩
  · rw [z30, z31, hv3 67 (by omega) (by omega), hv3 68 (by omega) (by omega)]; exact h1
  · have a := h2 k hk
    have z : ∀ m, m ≤ 9 → Q m k = Z m k := fun m hm => hz m hm k (by omega)
    have v : ∀ m, 53 ≤ m → m ≤ 59 → U m k = V m k := fun m g1 g2 => hv m g1 g2 k (by omega)
    unfold BkR at *
    rw [z 0 (by omega), z 1 (by omega), z 2 (by omega), z 3 (by omega), z 4 (by omega), z 5 (by omega), z 6 (by omega), z 7 (by omega), z 8 (by omega), z 9 (by omega), v 53 (by omega) (by omega), v 54 (by omega) (by omega), v 55 (by omega) (by omega), v 56 (by omega) (by omega), v 57 (by omega) (by omega), v 58 (by omega) (by omega), v 59 (by omega) (by omega)]
    exact a
  · rw [e68, hz2 12 (by omega) (by omega), hz2 13 (by omega) (by omega), hz2 14 (by omega) (by omega), hv2 60 (by omega) (by omega), hv2 61 (by omega) (by omega), hv2 62 (by omega) (by omega)]; exact h3
  · have a := h4 k w hk hw
    unfold LkP at *
    simp only [e68, e61, e62]
    rw [hz2 10 (by omega) (by omega)]; exact a
  · have a := h5 k hk
    unfold SfP at *
    simp only [e68, e60, e62]
    rw [hz2 11 (by omega) (by omega)]; exact a
  · rw [hz2 10 (by omega) (by omega)]; exact h6
  · rw [hz2 11 (by omega) (by omega)]; exact h7
  · unfold UqL at *
    simp only [e68, e60, e61, e62]; exact h8
  · rw [e68] at hl
    have a := h9 l hl
    rw [e60, e61, e62, hv 55 (by omega) (by omega) _ (by omega)]; exact a
  · rw [z1, z2, v1, v2]; exact h10
theorem MB.zk {b c k : Nat} {Z V : Zf} {v : Int32} (h : MB b c Z V) (hk : k = 0 ∨ (3 ≤ k ∧ k ≤ 9)) : MB b c (u2 Z k b v) V := by
  refine h.fr (fun m _ j hj => ?_) (by rw [u2_k (by omega)]) (by rw [u2_k (by omega)]) (fun m _ _ => u2_k (by omega)) (u2_k (by omega)) (u2_k (by omega)) (by rw [u2_k (by omega)]) (by rw [u2_k (by omega)]) (by rw [u2_k (by omega)]) (fun _ _ _ _ _ => rfl) rfl rfl (fun _ _ _ => rfl) (fun _ _ _ => rfl)
  by_cases d : m = k
  · subst d; exact u2_i hj rfl
  · rw [u2_k d]
theorem MB.vk {b c k : Nat} {Z V : Zf} {v : Int32} (h : MB b c Z V) (hk : 55 ≤ k ∧ k ≤ 59) : MB b c Z (u2 V k b v) := by
  refine h.fr (fun _ _ _ _ => rfl) rfl rfl (fun _ _ _ => rfl) rfl rfl rfl rfl rfl (fun m _ _ j hj => ?_) (by rw [u2_k (by omega)]) (by rw [u2_k (by omega)]) (fun m _ _ => u2_k (by omega)) (fun i _ _ => by rw [u2_k (by omega)])
  by_cases d : m = k
  · subst d; exact u2_i hj rfl
  · rw [u2_k d]
theorem MB.kg {b c : Nat} {Z V U : Zf} {Q : Nat → Int32} (h : MB b c Z V) (g : KG V U) (r : RFr (Z 40) Q) : MB b c (va_up Z 40 Q) U := by
  have uz : ∀ k, k ≠ 40 → va_up Z 40 Q k = Z k := fun k hk => up_ne hk rfl
  refine h.fr (fun m _ j hj => by rw [uz m (by omega)]) (by rw [uz 1 (by omega)]) (by rw [uz 2 (by omega)]) (fun m _ _ => uz m (by omega)) (uz 30 (by omega)) (uz 31 (by omega)) ?_ ?_ ?_ (fun m _ _ j hj => by rw [g.k (by omega)]) (by rw [g.k (by omega)]) (by rw [g.k (by omega)]) (fun m _ _ => g.k (by omega)) (fun i _ _ => g.i (by omega))
  · rw [up_same]; exact r 6 (by decide) (by decide) (by decide)
  · rw [up_same]; exact r 7 (by decide) (by decide) (by decide)
  · rw [up_same]; exact r 8 (by decide) (by decide) (by decide)
/-- the block stands -/
theorem mb_fin {B : Nat → Int32} {b c : Nat} {Z V : Zf} (hb : b < 10) (hy : YQ Z) (hk : Kt B (Z 40) V) (h : MB b c Z V) (g : BkR Z V b) : CR B c Z (f_Mod_block1_255 V b) := by
  obtain ⟨⟨h1, h1', h1''⟩, h2, h3, ⟨h4, h5, h6, h7⟩, h8, h9, h10, h11, h12, h13⟩ := h
  unfold f_Mod_block1_255
  have e67 : V 100 67 + 1 = nI (b + 1) := by rw [h1', nI_1]
  rw [e67]
  have k0 : ∀ m, m ≠ 100 → u2 V 100 67 (nI (b + 1)) m = V m := fun m hm => u2_k hm
  have e68 : pN (u2 V 100 67 (nI (b + 1))) 100 68 = pN V 100 68 := by unfold pN; rw [u2_i (by decide) rfl]
  have e67' : pN (u2 V 100 67 (nI (b + 1))) 100 67 = b + 1 := pN_mk (by omega) u2_s
  have ep : ∀ m l, m ≠ 100 → pN (u2 V 100 67 (nI (b + 1))) m l = pN V m l := fun m l hm => by unfold pN; rw [k0 m hm]
  refine ⟨hy, Or.inl ⟨hk.i (by omega), ⟨⟨?_, ?_⟩, fun k q => ?_, ?_, ⟨fun k w q hw => ?_, fun k q => ?_⟩, ?_, fun l hl => ?_⟩, h11.fr (fun _ _ _ => rfl) (fun m _ _ => k0 m (by omega)), h12.fr rfl rfl rfl (u2_i (by decide) rfl) (u2_i (by decide) rfl) (u2_i (by decide) rfl), h13.fr rfl rfl rfl (u2_i (by decide) rfl) (u2_i (by decide) rfl)⟩⟩
  · rw [u2_s]; exact h1
  · rw [u2_i (by decide) rfl]; exact h1''
  · rw [e67'] at q
    have a : BkR Z V k := by
      by_cases d : k = b
      · subst d; exact g
      · exact h2 k (by omega)
    unfold BkR at *
    rw [k0 53 (by decide), k0 54 (by decide), k0 55 (by decide), k0 56 (by decide), k0 57 (by decide), k0 58 (by decide), k0 59 (by decide)]
    exact a
  · rw [e68, k0 60 (by decide), k0 61 (by decide), k0 62 (by decide)]; exact h3
  · rw [e67'] at q
    unfold LkP
    simp only [e68, ep 61 _ (by decide), ep 62 _ (by decide)]
    by_cases d : k = b
    · subst d
      exact Or.inl ⟨h6 w hw, fun l hl z => by have := (h9 l hl).1.2; omega⟩
    · exact h4 k w (by omega) hw
  · rw [e67'] at q
    unfold SfP
    simp only [e68, ep 60 _ (by decide), ep 62 _ (by decide)]
    by_cases d : k = b
    · subst d
      exact Or.inl ⟨h7, fun l hl z => by have := (h9 l hl).1.1; omega⟩
    · exact h5 k (by omega)
  · unfold UqL
    simp only [e68, ep 60 _ (by decide), ep 61 _ (by decide), ep 62 _ (by decide)]; exact h8
  · rw [e68] at hl
    rw [ep 62 _ (by decide), ep 61 _ (by decide), ep 60 _ (by decide), k0 55 (by decide), e67']
    have := (h9 l hl).1
    exact ⟨by omega, (h9 l hl).2⟩
theorem bm_255 {R : Nat → Int32} {V : Zf} {b : Nat} (h : Bad R V) : Bad R (f_Mod_block1_255 V b) := h.i (by omega)
theorem bm_185 {R : Nat → Int32} {V : Zf} {b : Nat} (h : Bad R V) : Bad R (f_Mod_block1_185 V b) := by
  unfold f_Mod_block1_185; rw [oo_b h.2.1]; exact bm_255 (h.k (by omega))
theorem bm_170 {R : Nat → Int32} {V : Zf} {b : Nat} (h : Bad R V) : Bad R (f_Mod_block1_170 V b) := by
  unfold f_Mod_block1_170; rw [oo_b h.2.1]; exact bm_185 (h.k (by omega))
theorem bm_157 {R : Nat → Int32} {V : Zf} {b : Nat} (h : Bad R V) : Bad R (f_Mod_block1_157 V b) := by
  unfold f_Mod_block1_157; rw [nu_b h.2.1]; exact bm_170 (h.k (by omega))
theorem bm_240 {R : Nat → Int32} {V : Zf} {b : Nat} (h : Bad R V) : Bad R (f_Mod_block1_240 V b) := by
  unfold f_Mod_block1_240; rw [oo_b h.2.1]; exact bm_255 (h.k (by omega))
theorem bm_223 {R : Nat → Int32} {V : Zf} {b : Nat} (h : Bad R V) : Bad R (f_Mod_block1_223 V b) := by
  unfold f_Mod_block1_223; rw [nu_b h.2.1]; exact bm_255 (h.k (by omega))
theorem bm_201 {R : Nat → Int32} {V : Zf} {b : Nat} (h : Bad R V) : Bad R (f_Mod_block1_201 V b) := by
  unfold f_Mod_block1_201
  split
  · rw [nu_b h.2.1]; exact bm_223 (h.k (by omega))
  · exact bm_240 h
theorem bm_133 {R : Nat → Int32} {V : Zf} {b : Nat} (h : Bad R V) : Bad R (f_Mod_block1_133 V b) := by
  unfold f_Mod_block1_133
  split
  · rw [nu_b h.2.1]; exact bm_157 (h.k (by omega))
  · exact bm_201 h
theorem bm_109 {R : Nat → Int32} {V : Zf} {b : Nat} (h : Bad R V) : Bad R (f_Mod_block1_109 V b) := by
  unfold f_Mod_block1_109
  split
  · rw [nu_b h.2.1]; exact bm_255 (h.k (by omega))
  · exact bm_133 h
theorem bm_81 {R : Nat → Int32} {V : Zf} {b : Nat} (h : Bad R V) : Bad R (f_Mod_block1_81 V b) := by
  unfold f_Mod_block1_81; exact bm_109 ((((h.k (by omega)).k (by omega)).k (by omega)).k (by omega))
theorem bm_60 {R : Nat → Int32} {V : Zf} {b : Nat} (h : Bad R V) : Bad R (f_Mod_block1_60 V b) := by
  unfold f_Mod_block1_60; rw [if_neg h.2.1]; exact h
theorem bm_47 {R : Nat → Int32} {V : Zf} {b : Nat} (h : Bad R V) : Bad R (f_Mod_block1_47 V b) := by
  unfold f_Mod_block1_47; rw [nu_b h.2.1]; exact bm_60 (h.k (by omega))
/-- the object's way on from a fault -/
def BO (Z Q : Zf) : Prop := YQ Q ∧ Q 40 = Z 40
theorem CR.bo {B : Nat → Int32} {c : Nat} {Z Q V : Zf} (h : Bad (Z 40) V) (g : BO Z Q) : CR B c Q V := ⟨g.1, Or.inr (by rw [g.2]; exact h)⟩
theorem po_68 {B : Nat → Int32} {b : Nat} {Z : Zf} (hy : YQ Z) (h : ¬ Z 40 1 = 0) : BO Z (f_Reader_readPid_68 B b Z) := by
  unfold f_Reader_readPid_68
  rw [up_c h]
  exact ⟨hy.k (by omega), u2_k (by decide)⟩
theorem po_43 {B : Nat → Int32} {b : Nat} {Z : Zf} (hy : YQ Z) (h : ¬ Z 40 1 = 0) : BO Z (f_Reader_readPid_43 B b Z) := by
  unfold f_Reader_readPid_43
  rw [up_c h]
  have k : ∀ v, BO Z (f_Reader_readPid_68 B b (u2 Z 7 b v)) := fun v => by
    obtain ⟨a1, a2⟩ := po_68 (B := B) (b := b) (Z := u2 Z 7 b v) (hy.k (by omega)) (by rw [u2_k (by decide)]; exact h)
    exact ⟨a1, by rw [a2, u2_k (by decide)]⟩
  split
  · exact k _
  · exact k _
theorem po_27 {B : Nat → Int32} {b : Nat} {Z : Zf} (hy : YQ Z) (h : ¬ Z 40 1 = 0) : BO Z (f_Reader_readPid_27 B b Z) := by
  unfold f_Reader_readPid_27
  rw [up_b h]
  obtain ⟨a1, a2⟩ := po_43 (B := B) (b := b) (Z := u2 Z 5 b (nI (rnN B 0 100 (Z 40)))) (hy.k (by omega)) (by rw [u2_k (by decide)]; exact h)
  exact ⟨a1, by rw [a2, u2_k (by decide)]⟩
theorem ob_52 {B : Nat → Int32} {Z : Zf} {d t : Nat} (h : ¬ Z 40 1 = 0) : f_Reader_readBlock_48 B Z d t = Z := by
  unfold f_Reader_readBlock_48 f_Reader_readBlock_52
  rw [up_x h, if_neg h]
theorem ob_40 {B : Nat → Int32} {Z : Zf} {d : Nat} (h : ¬ Z 40 1 = 0) : f_Reader_readBlock_40 B Z d = Z := by
  unfold f_Reader_readBlock_40
  rw [up_b h, ob_52 h]
theorem ob_24 {B : Nat → Int32} {Z : Zf} {d : Nat} (h : ¬ Z 40 1 = 0) : f_Reader_readBlock_24 B Z d = Z := by
  unfold f_Reader_readBlock_24
  rw [up_f h, ite_self, ob_40 h]
theorem ob_17 {B : Nat → Int32} {Z : Zf} (h : ¬ Z 40 1 = 0) : f_Reader_readBlock_17 B Z = Z := by
  unfold f_Reader_readBlock_17
  rw [up_b h, ob_24 h]
