/-! clauses that stand once, and plants -/
theorem on_4 {x y w : Int32} (h : OnR x y w) : (x = 0 ∧ (w >>> ((4 : Int32) &&& 31)) &&& 1 = 0 ∧ OnR 1 y (w ||| ((1 : Int32) <<< ((4 : Int32) &&& 31)))) ∨ (¬ x = 0 ∧ ¬ (w >>> ((4 : Int32) &&& 31)) &&& 1 = 0) := by
  rcases h with ⟨rfl, rfl, rfl⟩ | ⟨rfl, rfl, rfl⟩ | ⟨rfl, rfl, rfl⟩ | ⟨rfl, rfl, rfl⟩
  · exact Or.inl ⟨rfl, by decide, Or.inr (Or.inl ⟨rfl, rfl, by decide⟩)⟩
  · exact Or.inr ⟨by decide, by decide⟩
  · exact Or.inl ⟨rfl, by decide, Or.inr (Or.inr (Or.inr ⟨rfl, rfl, by decide⟩))⟩
  · exact Or.inr ⟨by decide, by decide⟩
theorem on_5 {x y w : Int32} (h : OnR x y w) : (y = 0 ∧ (w >>> ((5 : Int32) &&& 31)) &&& 1 = 0 ∧ OnR x 1 (w ||| ((1 : Int32) <<< ((5 : Int32) &&& 31)))) ∨ (¬ y = 0 ∧ ¬ (w >>> ((5 : Int32) &&& 31)) &&& 1 = 0) := by
  rcases h with ⟨rfl, rfl, rfl⟩ | ⟨rfl, rfl, rfl⟩ | ⟨rfl, rfl, rfl⟩ | ⟨rfl, rfl, rfl⟩
  · exact Or.inl ⟨rfl, by decide, Or.inr (Or.inr (Or.inl ⟨rfl, rfl, by decide⟩))⟩
  · exact Or.inl ⟨rfl, by decide, Or.inr (Or.inr (Or.inr ⟨rfl, rfl, by decide⟩))⟩
  · exact Or.inr ⟨by decide, by decide⟩
  · exact Or.inr ⟨by decide, by decide⟩
theorem nu_b {V : Zf} {x y : Int32} (h : ¬ V 100 52 = 0) : f_Mod_number x y V = (x, V) := by unfold f_Mod_number; rw [if_neg h]
theorem na_b {V : Zf} {x y : Int32} (h : ¬ V 100 52 = 0) : f_Mod_named x y V = (0, V) := by unfold f_Mod_named; rw [if_neg h]
theorem oo_b {V : Zf} {x y : Int32} (h : ¬ V 100 52 = 0) : f_Mod_oneOf x y V = (0, V) := by unfold f_Mod_oneOf; rw [if_neg h]
theorem up_b {B : Nat → Int32} {Z : Zf} {lo hi : Int32} (h : ¬ Z 40 1 = 0) : va_up Z 40 (f_Reader_readNumber B lo hi (Z 40)).2 = Z := by rw [rn_b h]; exact up_self rfl
theorem up_c {B : Nat → Int32} {Z : Zf} {i j : Nat} (h : ¬ Z 40 1 = 0) : va_up Z 40 (f_Reader_readChoice B i j (Z 40)).2 = Z := by rw [ch_b h]; exact up_self rfl
theorem up_f {Z : Zf} {e : Int32} (h : ¬ Z 40 1 = 0) : va_up Z 40 (f_Reader_fail e (Z 40)) = Z := by rw [fl_b h]; exact up_self rfl
theorem up_x {B : Nat → Int32} {Z : Zf} (h : ¬ Z 40 1 = 0) : va_up Z 40 (f_Reader_nextToken B (Z 40)) = Z := by rw [nx_b h]; exact up_self rfl
theorem bo_12 {B : Nat → Int32} {c : Nat} {Z U : Zf} (hy : YQ Z) (h : Bad (Z 40) U) : CR B c (f_Reader_readOld_12 B Z) U := by
  have e1 : u2 Z 40 7 1 40 1 = Z 40 1 := u2_i (by decide) rfl
  have e0 : u2 Z 40 7 1 40 0 = Z 40 0 := u2_i (by decide) rfl
  unfold f_Reader_readOld_12 f_Reader_readOld_17
  rw [up_b (by rw [e1]; exact h.ne)]
  exact ⟨(hy.k (by omega)).k (by omega), Or.inr (by rw [u2_k (by decide)]; exact h.r e1 e0)⟩
theorem bv_12 {B : Nat → Int32} {c : Nat} {Z U : Zf} (hy : YQ Z) (h : Bad (Z 40) U) : CR B c (f_Reader_readOver_12 B Z) U := by
  have e1 : u2 Z 40 8 1 40 1 = Z 40 1 := u2_i (by decide) rfl
  have e0 : u2 Z 40 8 1 40 0 = Z 40 0 := u2_i (by decide) rfl
  unfold f_Reader_readOver_12 f_Reader_readOver_17
  rw [up_b (by rw [e1]; exact h.ne)]
  exact ⟨(hy.k (by omega)).k (by omega), Or.inr (by rw [u2_k (by decide)]; exact h.r e1 e0)⟩
theorem cl_old {B : Nat → Int32} {c : Nat} {Z V : Zf} (hy : YQ Z) (h : Kc B (Z 40) V) (hp : PlR c Z V) : CR B c (f_Reader_readOld B Z) (f_Mod_once1 4 V) := by
  have h0 := h.1.2
  obtain ⟨p1, p2, p3, p4, p5⟩ := hp
  unfold f_Reader_readOld f_Mod_once1
  rcases on_4 p5 with ⟨o1, o2, o3⟩ | ⟨o1, o2⟩
  · rw [if_pos o1, if_pos o2, wt_y h0 n1z, if_neg z1z]
    unfold f_Reader_readOld_12 f_Mod_once1_41
    rw [if_pos rfl]
    have hc : Kc B (u2 Z 40 7 1 40) (u2 V 100 71 (V 100 71 ||| ((1 : Int32) <<< ((4 : Int32) &&& 31)))) := by rw [u2_e]; exact (h.r (by omega)).i (by omega)
    have hq : PlR c (u2 Z 40 7 1) (u2 V 100 71 (V 100 71 ||| ((1 : Int32) <<< ((4 : Int32) &&& 31)))) := by
      refine ⟨p1.fr (fun k hk => u2_k (by omega)) (by rw [u2_k (by decide)]) (by rw [u2_k (by decide)]) (fun k _ _ => u2_k (by omega)) (u2_i (by decide) rfl) (u2_i (by decide) rfl), p2.fr (fun k _ _ => u2_k (by omega)) (fun k _ _ => u2_k (by omega)), p3.fr (by rw [u2_k (by decide)]) (by rw [u2_k (by decide)]) (by rw [u2_k (by decide)]) (u2_i (by decide) rfl) (u2_i (by decide) rfl) (u2_i (by decide) rfl), ⟨?_, ?_⟩, ?_⟩
      · rw [u2_i (by decide) rfl]; exact p4.1
      · rw [u2_i (by decide) rfl]; exact p4.2
      · rw [u2_s, u2_s, u2_i (by decide) rfl]; exact o3
    have hy2 : YQ (u2 Z 40 7 1) := hy.k (by omega)
    show CR B c (f_Reader_readOld_17 B (u2 Z 40 7 1)) (u2 (f_Mod_number (nI 1) (nI 9) (s_Mod_go (u2 V 100 71 (V 100 71 ||| ((1 : Int32) <<< ((4 : Int32) &&& 31)))))).2 100 69 (f_Mod_number (nI 1) (nI 9) (s_Mod_go (u2 V 100 71 (V 100 71 ||| ((1 : Int32) <<< ((4 : Int32) &&& 31)))))).1)
    generalize u2 Z 40 7 1 = Z1 at hc hq hy2 ⊢
    generalize u2 V 100 71 (V 100 71 ||| ((1 : Int32) <<< ((4 : Int32) &&& 31))) = V1 at hc hq ⊢
    obtain ⟨g1, g2⟩ := hc.go
    unfold f_Reader_readOld_17
    rcases num_rel (lo := 1) (hi := 9) g1 (by omega) (by omega) with ⟨v, Q, U, a1, a2, a3, a4, a5, a6⟩ | ⟨Q, U, a2, a3, a4⟩
    · rw [a3, rn_1 a2 (by omega), rn_2 a2]
      refine ⟨hy2.r.k (by omega), Or.inl ⟨by rw [u2up (by decide)]; exact a4.i (by omega), ?_⟩⟩
      obtain ⟨b1, b2, b3, b4⟩ := hq.kg (g2.trans a6) a5
      refine ⟨b1.fr (fun k hk => u2_k (by omega)) (u2_i (by decide) rfl) (by rw [u2_k (by decide)]) (fun k _ _ => u2_k (by omega)) (u2_i (by decide) rfl) (u2_i (by decide) rfl), b2.fr (fun k _ _ => u2_k (by omega)) (fun k _ _ => u2_k (by omega)), ?_, b4.fr (by rw [u2_k (by decide)]) (by rw [u2_k (by decide)]) (by rw [u2_k (by decide)]) (u2_i (by decide) rfl) (u2_i (by decide) rfl)⟩
      obtain ⟨⟨d1, -, d2⟩, ⟨d, d0, d4⟩, ⟨o, o1, o2⟩⟩ := b3
      refine ⟨⟨?_, by rw [u2_s]; exact u2_s.symm, ?_⟩, ⟨d, d0, (u2_i (by decide) rfl).trans d4⟩, ⟨o, o1, (u2_i (by decide) rfl).trans o2⟩⟩
      · rw [u2_i (by decide) rfl]; exact d1.trans (u2_i (by decide) rfl).symm
      · rw [u2_i (by decide) rfl]; exact d2.trans (u2_i (by decide) rfl).symm
    · rw [a3, rn_2 a2]
      exact ⟨hy2.r.k (by omega), Or.inr (by rw [u2up (by decide)]; exact a4.i (by omega))⟩
  · rw [if_neg o1, if_neg o2]
    obtain ⟨f1, f2⟩ := h.fl (e := 4) (by decide)
    rw [n0, show nI 4 = 4 by decide, f1]
    exact bo_12 hy.r (by rw [up_same]; exact f2)
theorem cl_over {B : Nat → Int32} {c : Nat} {Z V : Zf} (hy : YQ Z) (h : Kc B (Z 40) V) (hp : PlR c Z V) : CR B c (f_Reader_readOver B Z) (f_Mod_once1 5 V) := by
  have h0 := h.1.2
  obtain ⟨p1, p2, p3, p4, p5⟩ := hp
  unfold f_Reader_readOver f_Mod_once1
  rcases on_5 p5 with ⟨o1, o2, o3⟩ | ⟨o1, o2⟩
  · rw [if_pos o1, if_pos o2, wt_y h0 n1z, if_neg z1z]
    unfold f_Reader_readOver_12 f_Mod_once1_41
    rw [if_neg (show ¬ (5 : Int32) = 4 by decide)]
    have hc : Kc B (u2 Z 40 8 1 40) (u2 V 100 71 (V 100 71 ||| ((1 : Int32) <<< ((5 : Int32) &&& 31)))) := by rw [u2_e]; exact (h.r (by omega)).i (by omega)
    have hq : PlR c (u2 Z 40 8 1) (u2 V 100 71 (V 100 71 ||| ((1 : Int32) <<< ((5 : Int32) &&& 31)))) := by
      refine ⟨p1.fr (fun k hk => u2_k (by omega)) (by rw [u2_k (by decide)]) (by rw [u2_k (by decide)]) (fun k _ _ => u2_k (by omega)) (u2_i (by decide) rfl) (u2_i (by decide) rfl), p2.fr (fun k _ _ => u2_k (by omega)) (fun k _ _ => u2_k (by omega)), p3.fr (by rw [u2_k (by decide)]) (by rw [u2_k (by decide)]) (by rw [u2_k (by decide)]) (u2_i (by decide) rfl) (u2_i (by decide) rfl) (u2_i (by decide) rfl), ⟨?_, ?_⟩, ?_⟩
      · rw [u2_i (by decide) rfl]; exact p4.1
      · rw [u2_i (by decide) rfl]; exact p4.2
      · rw [u2_s, u2_s, u2_i (by decide) rfl]; exact o3
    have hy2 : YQ (u2 Z 40 8 1) := hy.k (by omega)
    show CR B c (f_Reader_readOver_17 B (u2 Z 40 8 1)) (u2 (f_Mod_number (nI 0) (nI 9) (s_Mod_go (u2 V 100 71 (V 100 71 ||| ((1 : Int32) <<< ((5 : Int32) &&& 31)))))).2 100 70 (f_Mod_number (nI 0) (nI 9) (s_Mod_go (u2 V 100 71 (V 100 71 ||| ((1 : Int32) <<< ((5 : Int32) &&& 31)))))).1)
    generalize u2 Z 40 8 1 = Z1 at hc hq hy2 ⊢
    generalize u2 V 100 71 (V 100 71 ||| ((1 : Int32) <<< ((5 : Int32) &&& 31))) = V1 at hc hq ⊢
    obtain ⟨g1, g2⟩ := hc.go
    unfold f_Reader_readOver_17
    rcases num_rel (lo := 0) (hi := 9) g1 (by omega) (by omega) with ⟨v, Q, U, a1, a2, a3, a4, a5, a6⟩ | ⟨Q, U, a2, a3, a4⟩
    · rw [a3, rn_1 a2 (by omega), rn_2 a2]
      refine ⟨hy2.r.k (by omega), Or.inl ⟨by rw [u2up (by decide)]; exact a4.i (by omega), ?_⟩⟩
      obtain ⟨b1, b2, b3, b4⟩ := hq.kg (g2.trans a6) a5
      refine ⟨b1.fr (fun k hk => u2_k (by omega)) (u2_i (by decide) rfl) (by rw [u2_k (by decide)]) (fun k _ _ => u2_k (by omega)) (u2_i (by decide) rfl) (u2_i (by decide) rfl), b2.fr (fun k _ _ => u2_k (by omega)) (fun k _ _ => u2_k (by omega)), ?_, b4.fr (by rw [u2_k (by decide)]) (by rw [u2_k (by decide)]) (by rw [u2_k (by decide)]) (u2_i (by decide) rfl) (u2_i (by decide) rfl)⟩
      obtain ⟨⟨d1, d2, -⟩, ⟨d, d0, d4⟩, -⟩ := b3
      refine ⟨⟨?_, ?_, by rw [u2_s]; exact u2_s.symm⟩, ⟨d, d0, (u2_i (by decide) rfl).trans d4⟩, ⟨v, a1.2, u2_s⟩⟩
      · rw [u2_i (by decide) rfl]; exact d1.trans (u2_i (by decide) rfl).symm
      · rw [u2_i (by decide) rfl]; exact d2.trans (u2_i (by decide) rfl).symm
    · rw [a3, rn_2 a2]
      exact ⟨hy2.r.k (by omega), Or.inr (by rw [u2up (by decide)]; exact a4.i (by omega))⟩
  · rw [if_neg o1, if_neg o2]
    obtain ⟨f1, f2⟩ := h.fl (e := 4) (by decide)
    rw [n0, show nI 4 = 4 by decide, f1]
    exact bv_12 hy.r (by rw [up_same]; exact f2)
/-! plants -/
theorem pb_44 {B : Nat → Int32} {Z : Zf} {s a g : Nat} (h : ¬ Z 40 1 = 0) : f_Reader_readPlant_44 B Z s a g = Z := by
  unfold f_Reader_readPlant_44 f_Reader_readPlant_53
  rw [up_b h, if_neg h]
theorem pb_35 {B : Nat → Int32} {Z : Zf} {s a : Nat} (h : ¬ Z 40 1 = 0) : f_Reader_readPlant_35 B Z s a = Z := by
  unfold f_Reader_readPlant_35
  rw [up_b h, pb_44 h]
theorem pb_28 {B : Nat → Int32} {Z : Zf} {s : Nat} (h : ¬ Z 40 1 = 0) : f_Reader_readPlant_28 B Z s = Z := by
  unfold f_Reader_readPlant_28
  rw [up_b h, pb_35 h]
theorem PlP.o {Z V : Zf} {s k : Nat} {v : Int32} (h : PlP Z V) (h5 : Z 15 s = -1) (hk : k = 64 ∨ k = 65) : PlP Z (u2 V k s v) := by
  intro j hj
  obtain ⟨a1, a2⟩ := h j hj
  refine ⟨by rw [u2_k (by omega)]; exact a1, fun q => ?_⟩
  have e : j ≠ s := fun e => q (by rw [e]; exact h5)
  have u : ∀ m, u2 V k s v m j = V m j := fun m => by
    by_cases d : m = k
    · subst d; exact u2_i e rfl
    · rw [u2_k d]
  rw [u, u]
  exact a2 q
theorem PlR.o {c : Nat} {Z V : Zf} {s k : Nat} {v : Int32} (h : PlR c Z V) (h5 : Z 15 s = -1) (hk : k = 64 ∨ k = 65) : PlR c Z (u2 V k s v) :=
  ⟨h.1.fr (fun _ _ => rfl) rfl rfl (fun j _ _ => u2_k (by omega)) (by rw [u2_k (by omega)]) (by rw [u2_k (by omega)]), h.2.1.o h5 hk, h.2.2.1.fr rfl rfl rfl (by rw [u2_k (by omega)]) (by rw [u2_k (by omega)]) (by rw [u2_k (by omega)]), h.2.2.2.fr rfl rfl rfl (by rw [u2_k (by omega)]) (by rw [u2_k (by omega)])⟩
theorem BadK {B : Nat → Int32} {c : Nat} {Z V U : Zf} {Q : Nat → Int32} (hy : YQ Z) (h : Bad Q U) : CR B c (va_up Z 40 Q) U := ⟨hy.r, Or.inr (by rw [up_same]; exact h)⟩
theorem pl_44 {B : Nat → Int32} {c s a g : Nat} {Z V : Zf} (hy : YQ Z) (h : Kt B (Z 40) V) (hp : PlR c Z V) (h5 : Z 15 s = -1) (hs : s < 4) (ha : a ≤ 3) (h4 : V 64 s = nI g) : CR B c (f_Reader_readPlant_44 B Z s a g) (f_Mod_plant1_103 V s (nI a)) := by
  unfold f_Reader_readPlant_44 f_Reader_readPlant_53 f_Mod_plant1_103 f_Mod_plant1_116
  rcases num_rel (lo := 1) (hi := 50) h (by omega) (by omega) with ⟨v, Q, U, a1, a2, a3, a4, a5, a6⟩ | ⟨Q, U, a2, a3, a4⟩
  · rw [a3, rn_1 a2 (by omega), rn_2 a2, up_same, if_pos a4.1.1]
    refine ⟨((hy.r.k (by omega)).k (by omega)).k (by omega), Or.inl ⟨?_, ?_⟩⟩
    · rw [u2_k (by decide), u2_k (by decide), u2_k (by decide), up_same]
      exact (a4.k (by omega)).k (by omega)
    obtain ⟨b1, b2, b3, b4⟩ := hp.kg a6 a5
    refine ⟨b1.fr (fun k hk => by rw [u2_k (by omega), u2_k (by omega), u2_k (by omega)]) (by rw [u2_k (by omega), u2_k (by omega), u2_k (by omega)]) (by rw [u2_k (by omega), u2_k (by omega), u2_k (by omega)]) (fun k _ _ => by rw [u2_k (by omega), u2_k (by omega)]) (by rw [u2_k (by omega), u2_k (by omega)]) (by rw [u2_k (by omega), u2_k (by omega)]), fun j hj => ?_, b3.fr (by rw [u2_k (by omega), u2_k (by omega), u2_k (by omega)]) (by rw [u2_k (by omega), u2_k (by omega), u2_k (by omega)]) (by rw [u2_k (by omega), u2_k (by omega), u2_k (by omega)]) (by rw [u2_k (by omega), u2_k (by omega)]) (by rw [u2_k (by omega), u2_k (by omega)]) (by rw [u2_k (by omega), u2_k (by omega)]), b4.fr (by rw [u2_k (by omega), u2_k (by omega), u2_k (by omega)]) (by rw [u2_k (by omega), u2_k (by omega), u2_k (by omega)]) (by rw [u2_k (by omega), u2_k (by omega), u2_k (by omega)]) (by rw [u2_k (by omega), u2_k (by omega)]) (by rw [u2_k (by omega), u2_k (by omega)])⟩
    rw [u2_k (a := 15) (by decide), u2_k (a := 15) (by decide), u2_e (k := 15), u2_k (a := 16) (by decide), u2_e (k := 16), u2_e (k := 17), u2_e (k := 63), u2_k (a := 64) (by decide), u2_k (a := 64) (by decide), u2_k (a := 65) (by decide), u2_e (k := 65), u2_k (a := 16) (by decide), u2_k (a := 17) (by decide), u2_k (a := 17) (by decide), u2_k (a := 63) (by decide)]
    by_cases d : j = s
    · subst d
      rw [ud_s, ud_s, ud_s, ud_s, ud_s]
      refine ⟨rfl, fun _ => ⟨?_, rfl, v, a1, rfl⟩⟩
      show nI g = U 64 j
      rw [a6.k (k := 64) (by decide), h4]
    · rw [ud_o d, ud_o d, ud_o d, ud_o d, ud_o d]
      exact b2 j hj
  · rw [a3, rn_2 a2, up_same, if_neg a4.ne]
    exact BadK (V := V) hy ((a4.k (by omega)).k (by omega))
theorem pl_35 {B : Nat → Int32} {c s a : Nat} {Z V : Zf} (hy : YQ Z) (h : Kt B (Z 40) V) (hp : PlR c Z V) (h5 : Z 15 s = -1) (hs : s < 4) (ha : a ≤ 3) : CR B c (f_Reader_readPlant_35 B Z s a) (f_Mod_plant1_89 V s (nI a)) := by
  unfold f_Reader_readPlant_35 f_Mod_plant1_89
  rcases num_rel (lo := 0) (hi := 300) h (by omega) (by omega) with ⟨v, Q, U, a1, a2, a3, a4, a5, a6⟩ | ⟨Q, U, a2, a3, a4⟩
  · rw [a3, rn_1 a2 (by omega), rn_2 a2]
    exact pl_44 hy.r (by rw [up_same]; exact a4.k (by omega)) ((hp.kg a6 a5).o (by rw [up_ne (by decide) rfl]; exact h5) (by omega)) (by rw [up_ne (by decide) rfl]; exact h5) hs ha u2_s
  · rw [a3, rn_2 a2, pb_44 (by rw [up_same]; exact a4.ne)]
    unfold f_Mod_plant1_103 f_Mod_plant1_116
    have b := a4.k (k := 64) (i := s) (v := nI 0) (by omega)
    rw [nu_b b.2.1]
    exact BadK (V := V) hy ((b.k (by omega)).k (by omega))
theorem pl_28 {B : Nat → Int32} {c s : Nat} {Z V : Zf} (hy : YQ Z) (h : Kt B (Z 40) V) (hp : PlR c Z V) (h5 : Z 15 s = -1) (hs : s < 4) : CR B c (f_Reader_readPlant_28 B Z s) (f_Mod_plant1_82 V s) := by
  unfold f_Reader_readPlant_28 f_Mod_plant1_82
  rcases num_rel (lo := 0) (hi := 3) h (by omega) (by omega) with ⟨v, Q, U, a1, a2, a3, a4, a5, a6⟩ | ⟨Q, U, a2, a3, a4⟩
  · rw [a3, rn_1 a2 (by omega), rn_2 a2]
    exact pl_35 hy.r (by rw [up_same]; exact a4) (hp.kg a6 a5) (by rw [up_ne (by decide) rfl]; exact h5) hs a1.2
  · rw [a3, rn_2 a2, pb_35 (by rw [up_same]; exact a4.ne)]
    unfold f_Mod_plant1_89 f_Mod_plant1_103 f_Mod_plant1_116
    rw [nu_b a4.2.1]
    have b := a4.k (k := 64) (i := s) (v := nI 0) (by omega)
    rw [nu_b b.2.1]
    exact BadK (V := V) hy ((b.k (by omega)).k (by omega))
theorem cl_plant {B : Nat → Int32} {c : Nat} {Z V : Zf} (hy : YQ Z) (h : Kc B (Z 40) V) (hp : PlR c Z V) : CR B c (f_Reader_readPlant B Z) (f_Mod_plant1 V) := by
  obtain ⟨g1, g2⟩ := h.go
  have hp1 := hp.kg (Q := Z 40) g2 (fun _ _ _ _ => rfl)
  rw [up_self rfl] at hp1
  unfold f_Reader_readPlant f_Mod_plant1
  generalize s_Mod_go V = V1 at g1 g2 hp1 ⊢
  have hc := g1.nx
  have h0 := g1.1.2
  have w1 : ∀ y, f_Mod_wants (nI 1) y V1 = (1, V1) := fun y => wt_y h0 n1z
  unfold f_Mod_plant1_4
  rcases rn_ok (lo := 0) (hi := 3) g1 (by omega) (by omega) with ⟨v, a1, a2, a3, a4⟩ | ⟨a2, a4⟩ | ⟨v, a0, a1, a2, a3, a4⟩
  · rw [if_pos a2, w1, if_neg z1z, rn_1 a4 (by omega), rn_2 a4]
    show CR B c _ (f_Mod_plant1_25 V1)
    unfold f_Mod_plant1_25
    have e4 : ¬ (4 : Int32) ≤ nI v := by rw [show (4 : Int32) = nI 4 by decide, nI_leI (by omega) (by omega)]; omega
    rw [a3, if_neg e4, w1, if_neg z1z]
    show CR B c _ (f_Mod_plant1_46 V1)
    unfold f_Mod_plant1_46 f_Reader_readPlant_7
    have e63 : Z 15 v = V1 63 v := (hp1.2.1 v (by omega)).1
    rw [pN_mk (by omega) a3, up_ne (show 15 ≠ 40 by decide) rfl, e63, w1, if_neg z1z]
    have z15 : va_up Z 40 (f_Reader_nextToken B (Z 40)) 15 v = V1 63 v := by rw [up_ne (by decide) rfl]; exact e63
    by_cases q : V1 63 v = -1
    · rw [if_pos q, if_pos q]
      show CR B c _ (f_Mod_plant1_73 V1)
      unfold f_Mod_plant1_73
      rw [pN_mk (by omega) a3]
      obtain ⟨k1, k2⟩ := hc.go
      exact pl_28 hy.r (by rw [up_same]; exact k1) (hp1.kg k2 g1.2.2.2.2) (by rw [z15]; exact q) (by omega)
    · rw [if_neg q, if_neg q]
      obtain ⟨f1, f2⟩ := hc.fl (e := 4) (by decide)
      rw [n0, show nI 4 = 4 by decide, f1, up_same, up_up, pb_28 (by rw [up_same]; exact f2.ne)]
      exact BadK (V := V) hy f2
  · rw [if_neg a2, rn_2 a4]
    obtain ⟨f1, f2⟩ := hc.fl (e := 1) (by decide)
    rw [n0, nI1, f1]
    unfold f_Reader_readPlant_7
    have bn := f2.ne
    rw [up_f (by rw [up_same]; exact bn), ite_self, pb_28 (by rw [up_same]; exact bn)]
    exact BadK (V := V) hy f2
  · rw [if_pos a2, w1, if_neg z1z, rn_2 a4]
    show CR B c _ (f_Mod_plant1_25 V1)
    unfold f_Mod_plant1_25
    have e4 : (4 : Int32) ≤ nI v := by rw [show (4 : Int32) = nI 4 by decide, nI_leI (by omega) (by omega)]; omega
    rw [a3, if_pos e4]
    obtain ⟨f1, f2⟩ := hc.fl (e := 2) (by decide)
    rw [n0, nI2, f1]
    unfold f_Reader_readPlant_7
    have bn := f2.ne
    rw [up_f (by rw [up_same]; exact bn), ite_self, pb_28 (by rw [up_same]; exact bn)]
    exact BadK (V := V) hy f2
