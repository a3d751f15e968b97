/-! the kinds of block -/
theorem kd_0 {B : Nat → Int32} {b c : Nat} {Z V : Zf} (hb : b < 10) (hy : YQ Z) (h : Kt B (Z 40) V) (m : MB b c Z V) (z0 : Z 0 b = 0) (v5 : V 55 b = 0) : CR B c (u2 (va_up Z 40 ((f_Reader_readNumber B (nI 0) (nI 3) (Z 40)).2)) 3 b (nI (rnN B 0 3 (Z 40)))) (f_Mod_block1_255 (u2 (f_Mod_number (nI 0) (nI 3) V).2 56 b (f_Mod_number (nI 0) (nI 3) V).1) b) := by
  rcases num_rel (lo := 0) (hi := 3) h (by omega) (by omega) with ⟨v, Q, U, a1, a2, a3, a4, a5, a6⟩ | ⟨Q, U, a2, a3, a4⟩
  · rw [a3, rn_1 a2 (by omega), rn_2 a2]
    refine mb_fin hb (hy.r.k (by omega)) (by rw [u2up (by decide)]; exact a4.k (by omega)) (((m.kg a6 a5).zk (by omega)).vk (by omega)) ?_
    have m' := (m.kg a6 a5).2.2.2.2.2.2.1
    have y0 : u2 (va_up Z 40 Q) 3 b (nI v) 0 b = 0 := by rw [u2_k (by decide), up_ne (by decide) rfl]; exact z0
    have x5 : u2 U 56 b (nI v) 55 b = 0 := by rw [u2_k (by decide), a6.k (by decide)]; exact v5
    unfold BkR
    rw [y0, x5]
    refine ⟨⟨rfl, ?_, ?_⟩, fun _ => ⟨by rw [u2_s, u2_s], v, by omega, u2_s⟩, fun z => absurd z (by decide), fun z => absurd z (by decide), fun z => absurd z (by decide)⟩
    · rw [u2_k (by decide), u2_k (by decide)]; exact m'.1
    · rw [u2_k (by decide), u2_k (by decide)]; exact m'.2
  · rw [a3, rn_2 a2]
    exact ⟨hy.r.k (by omega), Or.inr (by rw [u2up (by decide)]; exact bm_255 (a4.k (by omega)))⟩
theorem pd_68 {B : Nat → Int32} {b c : Nat} {Z V : Zf} (hb : b < 10) (hy : YQ Z) (h : Kt B (Z 40) V) (m : MB b c Z V) (z0 : Z 0 b = 1) (v5 : V 55 b = 1) (e4 : Z 4 b = V 56 b) (e5 : Z 5 b = V 57 b) (e7 : Z 7 b = V 58 b) (e7' : Z 7 b = 1 ∨ Z 7 b = 2) : CR B c (f_Reader_readPid_68 B b Z) (f_Mod_block1_185 V b) := by
  unfold f_Reader_readPid_68 f_Mod_block1_185
  rcases cho_rel (x := 12) (i := 6) (j := 7) h (by omega) (by omega) (by omega) (by decide) with ⟨w, x, Q, U, a1, a2, a3, a4, a5, a6, a7⟩ | ⟨x, Q, U, a2, a3, a4⟩
  · rw [a2, a3]
    refine mb_fin hb (hy.r.k (by omega)) (by rw [u2up (by decide)]; exact a5.k (by omega)) (((m.kg a7 a6).zk (by omega)).vk (by omega)) ?_
    have m' := (m.kg a7 a6).2.2.2.2.2.2.1
    have zz : ∀ k, k ≠ 8 → k ≠ 40 → u2 (va_up Z 40 Q) 8 b x k = Z k := fun k h1 h2 => by rw [u2_k h1, up_ne h2 rfl]
    have vv : ∀ k, k ≠ 59 → k ≠ 100 → u2 U 59 b (nI (w - 12)) k = V k := fun k h1 h2 => by rw [u2_k h1, a7.k h2]
    unfold BkR
    show (u2 (va_up Z 40 Q) 8 b x 0 b = u2 U 59 b (nI (w - 12)) 55 b ∧ _) ∧ _
    rw [zz 0 (by decide) (by decide), vv 55 (by decide) (by decide), z0, v5]
    refine ⟨⟨rfl, ?_, ?_⟩, fun z => absurd z (by decide), fun _ => ⟨⟨?_, ?_, ?_⟩, ?_, ?_⟩, fun z => absurd z (by decide), fun z => absurd z (by decide)⟩
    · show u2 (va_up Z 40 Q) 8 b x 1 b = u2 U 59 b (nI (w - 12)) 53 b
      rw [u2_k (by decide), u2_k (by decide)]; exact m'.1
    · show u2 (va_up Z 40 Q) 8 b x 2 b = u2 U 59 b (nI (w - 12)) 54 b
      rw [u2_k (by decide), u2_k (by decide)]; exact m'.2
    · show u2 (va_up Z 40 Q) 8 b x 4 b = u2 U 59 b (nI (w - 12)) 56 b
      rw [zz 4 (by decide) (by decide), vv 56 (by decide) (by decide)]; exact e4
    · show u2 (va_up Z 40 Q) 8 b x 5 b = u2 U 59 b (nI (w - 12)) 57 b
      rw [zz 5 (by decide) (by decide), vv 57 (by decide) (by decide)]; exact e5
    · show u2 (va_up Z 40 Q) 8 b x 7 b = u2 U 59 b (nI (w - 12)) 58 b
      rw [zz 7 (by decide) (by decide), vv 58 (by decide) (by decide)]; exact e7
    · show u2 (va_up Z 40 Q) 8 b x 7 b = 1 ∨ u2 (va_up Z 40 Q) 8 b x 7 b = 2
      rw [zz 7 (by decide) (by decide)]; exact e7'
    · show u2 (va_up Z 40 Q) 8 b x 8 b = 0 ↔ ¬ u2 U 59 b (nI (w - 12)) 59 b = 1
      rw [u2_s, u2_s, a4, show wcI 6 = 13 by decide]
      rcases a1 with rfl | rfl <;> decide
  · rw [a2, a3]
    exact ⟨hy.r.k (by omega), Or.inr (by rw [u2up (by decide)]; exact bm_255 (a4.k (by omega)))⟩
theorem pd_43 {B : Nat → Int32} {b c : Nat} {Z V : Zf} (hb : b < 10) (hy : YQ Z) (h : Kt B (Z 40) V) (m : MB b c Z V) (z0 : Z 0 b = 1) (v5 : V 55 b = 1) (e4 : Z 4 b = V 56 b) (e5 : Z 5 b = V 57 b) : CR B c (f_Reader_readPid_43 B b Z) (f_Mod_block1_170 V b) := by
  unfold f_Reader_readPid_43 f_Mod_block1_170
  rcases cho_rel (x := 10) (i := 4) (j := 5) h (by omega) (by omega) (by omega) (by decide) with ⟨w, x, Q, U, a1, a2, a3, a4, a5, a6, a7⟩ | ⟨x, Q, U, a2, a3, a4⟩
  · rw [a2, a3]
    have key : ∀ v : Int32, (v = 1 ∨ v = 2) → v = 1 + nI (w - 10) → CR B c (f_Reader_readPid_68 B b (u2 (va_up Z 40 Q) 7 b v)) (f_Mod_block1_185 (u2 U 58 b (1 + nI (w - 10))) b) := by
      intro v hv ev
      have zz : ∀ k, k ≠ 7 → k ≠ 40 → u2 (va_up Z 40 Q) 7 b v k = Z k := fun k h1 h2 => by rw [u2_k h1, up_ne h2 rfl]
      have vv : ∀ k, k ≠ 58 → k ≠ 100 → u2 U 58 b (1 + nI (w - 10)) k = V k := fun k h1 h2 => by rw [u2_k h1, a7.k h2]
      refine pd_68 hb (hy.r.k (by omega)) (by rw [u2up (by decide)]; exact a5.k (by omega)) (((m.kg a7 a6).zk (by omega)).vk (by omega)) ?_ ?_ ?_ ?_ ?_ ?_
      · rw [zz 0 (by decide) (by decide)]; exact z0
      · rw [vv 55 (by decide) (by decide)]; exact v5
      · rw [zz 4 (by decide) (by decide), vv 56 (by decide) (by decide)]; exact e4
      · rw [zz 5 (by decide) (by decide), vv 57 (by decide) (by decide)]; exact e5
      · rw [u2_s, u2_s]; exact ev
      · rw [u2_s]; exact hv
    show CR B c (if x = 0 then f_Reader_readPid_68 B b (u2 (va_up Z 40 Q) 7 b 2) else f_Reader_readPid_68 B b (u2 (va_up Z 40 Q) 7 b 1)) (f_Mod_block1_185 (u2 U 58 b (1 + nI (w - 10))) b)
    rw [show wcI 4 = 10 by decide] at a4
    by_cases q : x = 0
    · rw [if_pos q]
      refine key 2 (Or.inr rfl) ?_
      have := a4.mp q
      have e : w = 11 := by omega
      subst e; decide
    · rw [if_neg q]
      refine key 1 (Or.inl rfl) ?_
      have e : w = 10 := Classical.byContradiction fun y => q (a4.mpr y)
      subst e; decide
  · rw [a2, a3]
    have key : ∀ v : Int32, CR B c (f_Reader_readPid_68 B b (u2 (va_up Z 40 Q) 7 b v)) (f_Mod_block1_185 (u2 U 58 b (1 + 0)) b) := by
      intro v
      have e : u2 (va_up Z 40 Q) 7 b v 40 = Q := u2up (by decide)
      exact CR.bo (Z := u2 (va_up Z 40 Q) 7 b v) (by rw [e]; exact bm_185 (a4.k (by omega))) (po_68 (hy.r.k (by omega)) (by rw [e]; exact a4.ne))
    show CR B c (if x = 0 then f_Reader_readPid_68 B b (u2 (va_up Z 40 Q) 7 b 2) else f_Reader_readPid_68 B b (u2 (va_up Z 40 Q) 7 b 1)) (f_Mod_block1_185 (u2 U 58 b (1 + 0)) b)
    by_cases q : x = 0
    · rw [if_pos q]; exact key 2
    · rw [if_neg q]; exact key 1
theorem pd_27 {B : Nat → Int32} {b c : Nat} {Z V : Zf} (hb : b < 10) (hy : YQ Z) (h : Kt B (Z 40) V) (m : MB b c Z V) (z0 : Z 0 b = 1) (v5 : V 55 b = 1) (e4 : Z 4 b = V 56 b) : CR B c (f_Reader_readPid_27 B b Z) (f_Mod_block1_157 V b) := by
  unfold f_Reader_readPid_27 f_Mod_block1_157
  rcases num_rel (lo := 0) (hi := 100) h (by omega) (by omega) with ⟨v, Q, U, a1, a2, a3, a4, a5, a6⟩ | ⟨Q, U, a2, a3, a4⟩
  · rw [a3, rn_1 a2 (by omega), rn_2 a2]
    have zz : ∀ k, k ≠ 5 → k ≠ 40 → u2 (va_up Z 40 Q) 5 b (nI v) k = Z k := fun k h1 h2 => by rw [u2_k h1, up_ne h2 rfl]
    have vv : ∀ k, k ≠ 57 → k ≠ 100 → u2 U 57 b (nI v) k = V k := fun k h1 h2 => by rw [u2_k h1, a6.k h2]
    refine pd_43 hb (hy.r.k (by omega)) (by rw [u2up (by decide)]; exact a4.k (by omega)) (((m.kg a6 a5).zk (by omega)).vk (by omega)) ?_ ?_ ?_ ?_
    · rw [zz 0 (by decide) (by decide)]; exact z0
    · show u2 U 57 b (nI v) 55 b = 1
      rw [vv 55 (by decide) (by decide)]; exact v5
    · show _ = u2 U 57 b (nI v) 56 b
      rw [zz 4 (by decide) (by decide), vv 56 (by decide) (by decide)]; exact e4
    · show _ = u2 U 57 b (nI v) 57 b
      rw [u2_s, u2_s]
  · rw [a3, rn_2 a2]
    have e : u2 (va_up Z 40 Q) 5 b (nI (rnN B 0 100 (Z 40))) 40 = Q := u2up (by decide)
    exact CR.bo (Z := u2 (va_up Z 40 Q) 5 b (nI (rnN B 0 100 (Z 40)))) (by rw [e]; exact bm_170 (a4.k (by omega))) (po_43 (hy.r.k (by omega)) (by rw [e]; exact a4.ne))
theorem pd_10 {B : Nat → Int32} {b c : Nat} {Z V : Zf} (hb : b < 10) (hy : YQ Z) (h : Kt B (Z 40) V) (m : MB b c Z V) (z0 : Z 0 b = 1) (v5 : V 55 b = 1) : CR B c (f_Reader_readPid_10 B b Z) (f_Mod_block1_157 (u2 (f_Mod_number (nI 0) (nI 300) V).2 56 b (f_Mod_number (nI 0) (nI 300) V).1) b) := by
  unfold f_Reader_readPid_10
  rcases num_rel (lo := 0) (hi := 300) h (by omega) (by omega) with ⟨v, Q, U, a1, a2, a3, a4, a5, a6⟩ | ⟨Q, U, a2, a3, a4⟩
  · rw [a3, rn_1 a2 (by omega), rn_2 a2]
    have zz : ∀ k, k ≠ 4 → k ≠ 40 → u2 (va_up Z 40 Q) 4 b (nI v) k = Z k := fun k h1 h2 => by rw [u2_k h1, up_ne h2 rfl]
    have vv : ∀ k, k ≠ 56 → k ≠ 100 → u2 U 56 b (nI v) k = V k := fun k h1 h2 => by rw [u2_k h1, a6.k h2]
    refine pd_27 hb (hy.r.k (by omega)) (by rw [u2up (by decide)]; exact a4.k (by omega)) (((m.kg a6 a5).zk (by omega)).vk (by omega)) ?_ ?_ ?_
    · rw [zz 0 (by decide) (by decide)]; exact z0
    · show u2 U 56 b (nI v) 55 b = 1
      rw [vv 55 (by decide) (by decide)]; exact v5
    · show _ = u2 U 56 b (nI v) 56 b
      rw [u2_s, u2_s]
  · rw [a3, rn_2 a2]
    have e : u2 (va_up Z 40 Q) 4 b (nI (rnN B 0 300 (Z 40))) 40 = Q := u2up (by decide)
    exact CR.bo (Z := u2 (va_up Z 40 Q) 4 b (nI (rnN B 0 300 (Z 40)))) (by rw [e]; exact bm_157 (a4.k (by omega))) (po_27 (hy.r.k (by omega)) (by rw [e]; exact a4.ne))
theorem kd_2 {B : Nat → Int32} {b c : Nat} {Z V : Zf} (hb : b < 10) (hy : YQ Z) (h : Kt B (Z 40) V) (m : MB b c Z V) (z0 : Z 0 b = 2) (v5 : V 55 b = 2) : CR B c (u2 (va_up (u2 (va_up Z 40 ((f_Reader_readNumber B (nI 0) (nI 3) (Z 40)).2)) 3 b (nI (rnN B 0 3 (Z 40)))) 40 ((f_Reader_readNumber B (nI 1) (nI 1000) ((u2 (va_up Z 40 ((f_Reader_readNumber B (nI 0) (nI 3) (Z 40)).2)) 3 b (nI (rnN B 0 3 (Z 40)))) 40)).2)) 6 b (nI (rnN B 1 1000 ((u2 (va_up Z 40 ((f_Reader_readNumber B (nI 0) (nI 3) (Z 40)).2)) 3 b (nI (rnN B 0 3 (Z 40)))) 40)))) (f_Mod_block1_223 (u2 (f_Mod_number (nI 0) (nI 3) V).2 56 b (f_Mod_number (nI 0) (nI 3) V).1) b) := by
  rcases num_rel (lo := 0) (hi := 3) h (by omega) (by omega) with ⟨v, Q, U, a1, a2, a3, a4, a5, a6⟩ | ⟨Q, U, a2, a3, a4⟩
  · rw [a3, rn_1 a2 (by omega), rn_2 a2]
    show CR B c _ (f_Mod_block1_223 (u2 U 56 b (nI v)) b)
    have hy1 : YQ (u2 (va_up Z 40 Q) 3 b (nI v)) := hy.r.k (by omega)
    have h1 : Kt B (u2 (va_up Z 40 Q) 3 b (nI v) 40) (u2 U 56 b (nI v)) := by rw [u2up (by decide)]; exact a4.k (by omega)
    have m1 : MB b c (u2 (va_up Z 40 Q) 3 b (nI v)) (u2 U 56 b (nI v)) := ((m.kg a6 a5).zk (by omega)).vk (by omega)
    have y0 : u2 (va_up Z 40 Q) 3 b (nI v) 0 b = 2 := by rw [u2_k (by decide), up_ne (by decide) rfl]; exact z0
    have x5 : u2 U 56 b (nI v) 55 b = 2 := by rw [u2_k (by decide), a6.k (by decide)]; exact v5
    have y3 : u2 (va_up Z 40 Q) 3 b (nI v) 3 b = u2 U 56 b (nI v) 56 b := by rw [u2_s, u2_s]
    generalize u2 (va_up Z 40 Q) 3 b (nI v) = Z1 at hy1 h1 m1 y0 y3 ⊢
    generalize u2 U 56 b (nI v) = V1 at h1 m1 x5 y3 ⊢
    unfold f_Mod_block1_223
    rcases num_rel (lo := 1) (hi := 1000) h1 (by omega) (by omega) with ⟨r, Q1, U1, c1, c2, c3, c4, c5, c6⟩ | ⟨Q1, U1, c2, c3, c4⟩
    · rw [c3, rn_1 c2 (by omega), rn_2 c2]
      refine mb_fin hb (hy1.r.k (by omega)) (by rw [u2up (by decide)]; exact c4.k (by omega)) (((m1.kg c6 c5).zk (by omega)).vk (by omega)) ?_
      have m' := (m1.kg c6 c5).2.2.2.2.2.2.1
      have zz : ∀ k, k ≠ 6 → k ≠ 40 → u2 (va_up Z1 40 Q1) 6 b (nI r) k = Z1 k := fun k h1 h2 => by rw [u2_k h1, up_ne h2 rfl]
      have vv : ∀ k, k ≠ 57 → k ≠ 100 → u2 U1 57 b (nI r) k = V1 k := fun k h1 h2 => by rw [u2_k h1, c6.k h2]
      unfold BkR
      show (u2 (va_up Z1 40 Q1) 6 b (nI r) 0 b = u2 U1 57 b (nI r) 55 b ∧ _) ∧ _
      rw [zz 0 (by decide) (by decide), vv 55 (by decide) (by decide), y0, x5]
      refine ⟨⟨rfl, ?_, ?_⟩, fun z => absurd z (by decide), fun z => absurd z (by decide), fun _ => ⟨?_, ?_, r, c1.2, u2_s⟩, fun z => absurd z (by decide)⟩
      · show _ = u2 U1 57 b (nI r) 53 b
        rw [u2_k (by decide), u2_k (by decide)]; exact m'.1
      · show _ = u2 U1 57 b (nI r) 54 b
        rw [u2_k (by decide), u2_k (by decide)]; exact m'.2
      · show _ = u2 U1 57 b (nI r) 56 b
        rw [zz 3 (by decide) (by decide), vv 56 (by decide) (by decide)]; exact y3
      · show _ = u2 U1 57 b (nI r) 57 b
        rw [u2_s, u2_s]
    · rw [c3, rn_2 c2]
      exact ⟨hy1.r.k (by omega), Or.inr (by rw [u2up (by decide)]; exact bm_255 (c4.k (by omega)))⟩
  · rw [a3, rn_2 a2]
    have e : u2 (va_up Z 40 Q) 3 b (nI (rnN B 0 3 (Z 40))) 40 = Q := u2up (by decide)
    rw [up_b (by rw [e]; exact a4.ne)]
    exact ⟨(hy.r.k (by omega)).k (by omega), Or.inr (by rw [u2_k (by decide), e]; exact bm_223 (a4.k (by omega)))⟩
theorem kd_3 {B : Nat → Int32} {b c : Nat} {Z V : Zf} (hb : b < 10) (hy : YQ Z) (h : Kt B (Z 40) V) (m : MB b c Z V) (z0 : Z 0 b = 3) (v5 : V 55 b = 3) : CR B c (u2 (va_up Z 40 ((f_Reader_readChoice B 10 11 (Z 40)).2)) 9 b ((f_Reader_readChoice B 10 11 (Z 40)).1)) (f_Mod_block1_240 V b) := by
  unfold f_Mod_block1_240
  rcases cho_rel (x := 14) (i := 10) (j := 11) h (by omega) (by omega) (by omega) (by decide) with ⟨w, x, Q, U, a1, a2, a3, a4, a5, a6, a7⟩ | ⟨x, Q, U, a2, a3, a4⟩
  · rw [a2, a3]
    refine mb_fin hb (hy.r.k (by omega)) (by rw [u2up (by decide)]; exact a5.k (by omega)) (((m.kg a7 a6).zk (by omega)).vk (by omega)) ?_
    have m' := (m.kg a7 a6).2.2.2.2.2.2.1
    have zz : ∀ k, k ≠ 9 → k ≠ 40 → u2 (va_up Z 40 Q) 9 b x k = Z k := fun k h1 h2 => by rw [u2_k h1, up_ne h2 rfl]
    have vv : ∀ k, k ≠ 56 → k ≠ 100 → u2 U 56 b (1 - nI (w - 14)) k = V k := fun k h1 h2 => by rw [u2_k h1, a7.k h2]
    unfold BkR
    show (u2 (va_up Z 40 Q) 9 b x 0 b = u2 U 56 b (1 - nI (w - 14)) 55 b ∧ _) ∧ _
    rw [zz 0 (by decide) (by decide), vv 55 (by decide) (by decide), z0, v5]
    refine ⟨⟨rfl, ?_, ?_⟩, fun z => absurd z (by decide), fun z => absurd z (by decide), fun z => absurd z (by decide), fun _ => ?_⟩
    · show u2 (va_up Z 40 Q) 9 b x 1 b = u2 U 56 b (1 - nI (w - 14)) 53 b
      rw [u2_k (by decide), u2_k (by decide)]; exact m'.1
    · show u2 (va_up Z 40 Q) 9 b x 2 b = u2 U 56 b (1 - nI (w - 14)) 54 b
      rw [u2_k (by decide), u2_k (by decide)]; exact m'.2
    · show u2 (va_up Z 40 Q) 9 b x 9 b = 0 ↔ ¬ u2 U 56 b (1 - nI (w - 14)) 56 b = 1
      rw [u2_s, u2_s, a4, show wcI 10 = 14 by decide]
      rcases a1 with rfl | rfl <;> decide
  · rw [a2, a3]
    exact ⟨hy.r.k (by omega), Or.inr (by rw [u2up (by decide)]; exact bm_255 (a4.k (by omega)))⟩
theorem kd_all {B : Nat → Int32} {b c : Nat} {Z V : Zf} (hb : b < 10) (hy : YQ Z) (h : Kc B (Z 40) V) (m : MB b c Z V) : CR B c (f_Reader_readBlock_70 B Z b) (f_Mod_block1_81 (u2 (f_Mod_oneOf (nI 6) (nI 4) V).2 55 b (f_Mod_oneOf (nI 6) (nI 4) V).1) b) := by
  unfold f_Reader_readBlock_70 f_Reader_readBlock_107 f_Reader_readBlock_124 f_Reader_readBlock_178 f_Reader_readPid
  rcases one_rel (x := 6) (m := 4) h (by omega) with ⟨w, w1, w2, w3⟩ | ⟨U, u1, u2', u3⟩
  · rw [w2]
    obtain ⟨g1, g2⟩ := h.go
    have i2 := w3 2 (by omega)
    have i3 := w3 3 (by omega)
    have i8 := w3 8 (by omega)
    have i9 := w3 9 (by omega)
    rw [show wcI 2 = 6 by decide] at i2
    rw [show wcI 3 = 7 by decide] at i3
    rw [show wcI 8 = 8 by decide] at i8
    rw [show wcI 9 = 9 by decide] at i9
    have m1 := m.kg (Q := Z 40) g2 (fun _ _ _ _ => rfl)
    rw [up_self rfl] at m1
    unfold f_Mod_block1_81
    show CR B c _ (f_Mod_block1_109 (u2 (u2 (u2 (u2 (u2 (s_Mod_go V) 55 b (nI (w - 6))) 59 b 0) 58 b 0) 57 b 0) 56 b 0) b)
    have m2 : MB b c Z (u2 (u2 (u2 (u2 (u2 (s_Mod_go V) 55 b (nI (w - 6))) 59 b 0) 58 b 0) 57 b 0) 56 b 0) := ((((m1.vk (by omega)).vk (by omega)).vk (by omega)).vk (by omega)).vk (by omega)
    have k2 : Kt B (Z 40) (u2 (u2 (u2 (u2 (u2 (s_Mod_go V) 55 b (nI (w - 6))) 59 b 0) 58 b 0) 57 b 0) 56 b 0) := ((((g1.k (by omega)).k (by omega)).k (by omega)).k (by omega)).k (by omega)
    have v5 : u2 (u2 (u2 (u2 (u2 (s_Mod_go V) 55 b (nI (w - 6))) 59 b 0) 58 b 0) 57 b 0) 56 b 0 55 b = nI (w - 6) := by rw [u2_k (by decide), u2_k (by decide), u2_k (by decide), u2_k (by decide), u2_s]
    generalize u2 (u2 (u2 (u2 (u2 (s_Mod_go V) 55 b (nI (w - 6))) 59 b 0) 58 b 0) 57 b 0) 56 b 0 = V2 at m2 k2 v5 ⊢
    have st : ∀ d : Nat, d < 4 → YQ (u2 Z 0 b (nI d)) ∧ Kt B (u2 Z 0 b (nI d) 40) V2 ∧ MB b c (u2 Z 0 b (nI d)) V2 ∧ u2 Z 0 b (nI d) 0 b = nI d := fun d hd => ⟨hy.z0 hd, by rw [u2_k (by decide)]; exact k2, m2.zk (by omega), u2_s⟩
    unfold f_Mod_block1_109 f_Mod_block1_133 f_Mod_block1_201
    have hw : w = 6 ∨ w = 7 ∨ w = 8 ∨ w = 9 := by omega
    rcases hw with rfl | rfl | rfl | rfl
    · rw [if_neg (i2.mpr rfl), v5, if_pos (show nI (6 - 6) = 0 by decide)]
      obtain ⟨s1, s2, s3, s4⟩ := st 0 (by omega)
      exact kd_0 hb s1 s2 s3 s4 v5
    · have j2 : f_Reader_isWord B (Z 40) 2 = 0 := Classical.byContradiction fun y => by have := i2.mp y; omega
      rw [if_pos j2, if_neg (i3.mpr rfl), v5, if_neg (show ¬ nI (7 - 6) = 0 by decide), if_pos (show nI (7 - 6) = 1 by decide)]
      obtain ⟨s1, s2, s3, s4⟩ := st 1 (by omega)
      exact pd_10 hb s1 s2 s3 s4 v5
    · have j2 : f_Reader_isWord B (Z 40) 2 = 0 := Classical.byContradiction fun y => by have := i2.mp y; omega
      have j3 : f_Reader_isWord B (Z 40) 3 = 0 := Classical.byContradiction fun y => by have := i3.mp y; omega
      rw [if_pos j2, if_pos j3, if_neg (i8.mpr rfl), v5, if_neg (show ¬ nI (8 - 6) = 0 by decide), if_neg (show ¬ nI (8 - 6) = 1 by decide), if_pos (show nI (8 - 6) = 2 by decide)]
      obtain ⟨s1, s2, s3, s4⟩ := st 2 (by omega)
      exact kd_2 hb s1 s2 s3 s4 v5
    · have j2 : f_Reader_isWord B (Z 40) 2 = 0 := Classical.byContradiction fun y => by have := i2.mp y; omega
      have j3 : f_Reader_isWord B (Z 40) 3 = 0 := Classical.byContradiction fun y => by have := i3.mp y; omega
      have j8 : f_Reader_isWord B (Z 40) 8 = 0 := Classical.byContradiction fun y => by have := i8.mp y; omega
      rw [if_pos j2, if_pos j3, if_pos j8, if_neg (i9.mpr rfl), v5, if_neg (show ¬ nI (9 - 6) = 0 by decide), if_neg (show ¬ nI (9 - 6) = 1 by decide), if_neg (show ¬ nI (9 - 6) = 2 by decide)]
      obtain ⟨s1, s2, s3, s4⟩ := st 3 (by omega)
      exact kd_3 hb s1 s2 s3 s4 v5
  · rw [u1, if_pos (u3 2 (by omega) (by decide) (by decide)), if_pos (u3 3 (by omega) (by decide) (by decide)), if_pos (u3 8 (by omega) (by decide) (by decide)), if_pos (u3 9 (by omega) (by decide) (by decide))]
    exact BadK (V := V) hy (bm_81 (u2'.k (by omega)))
/-- from the block's clause to its kind -/
theorem PlR.vb {b c k : Nat} {Z V : Zf} {v : Int32} (h : PlR c Z V) (h7 : V 100 67 = nI b) (hb : b < 10) (hk : k = 53 ∨ k = 54) : PlR c Z (u2 V k b v) := by
  obtain ⟨⟨p1, p2, p3, p4, p5, p6⟩, q1, q2, q3⟩ := h
  have e7 : pN V 100 67 = b := pN_mk (by omega) h7
  have k0 : ∀ m, m ≠ k → u2 V k b v m = V m := fun m hm => u2_k hm
  have ep : ∀ m l, m ≠ k → pN (u2 V k b v) m l = pN V m l := fun m l hm => by unfold pN; rw [k0 m hm]
  refine ⟨⟨?_, fun j q => ?_, ?_, ⟨fun j w q hw => ?_, fun j q => ?_⟩, ?_, ?_⟩, q1.fr (fun _ _ _ => rfl) (fun m _ _ => k0 m (by omega)), q2.fr rfl rfl rfl (by rw [k0 _ (by omega)]) (by rw [k0 _ (by omega)]) (by rw [k0 _ (by omega)]), q3.fr rfl rfl rfl (by rw [k0 _ (by omega)]) (by rw [k0 _ (by omega)])⟩
  · rw [k0 _ (by omega)]; exact p1
  · rw [ep 100 _ (by omega), e7] at q
    have a := p2 j (by rw [e7]; exact q)
    have u : ∀ m, u2 V k b v m j = V m j := fun m => by
      by_cases d : m = k
      · subst d; exact u2_i (by omega) rfl
      · rw [u2_k d]
    unfold BkR at *
    rw [u, u, u, u, u, u, u]; exact a
  · rw [ep 100 _ (by omega), k0 60 (by omega), k0 61 (by omega), k0 62 (by omega)]; exact p3
  · rw [ep 100 _ (by omega)] at q
    have a := p4.1 j w q hw
    unfold LkP at *
    simp only [ep 100 _ (show 100 ≠ k by omega), ep 61 _ (show 61 ≠ k by omega), ep 62 _ (show 62 ≠ k by omega)]; exact a
  · rw [ep 100 _ (by omega)] at q
    have a := p4.2 j q
    unfold SfP at *
    simp only [ep 100 _ (show 100 ≠ k by omega), ep 60 _ (show 60 ≠ k by omega), ep 62 _ (show 62 ≠ k by omega)]; exact a
  · unfold UqL at *
    simp only [ep 100 _ (show 100 ≠ k by omega), ep 60 _ (show 60 ≠ k by omega), ep 61 _ (show 61 ≠ k by omega), ep 62 _ (show 62 ≠ k by omega)]; exact p5
  · simp only [ep 100 _ (show 100 ≠ k by omega), ep 60 _ (show 60 ≠ k by omega), ep 61 _ (show 61 ≠ k by omega), ep 62 _ (show 62 ≠ k by omega), k0 55 (show 55 ≠ k by omega)]; exact p6
theorem mb_of {b c d t : Nat} {Z V : Zf} (h : PlR c Z V) (h7 : V 100 67 = nI b) (hb : b < 10) (h3 : V 53 b = nI d) (h4 : V 54 b = nI t) : MB b c (abZ b (nI d) (nI t) Z) V := by
  obtain ⟨⟨p1, p2, p3, p4, p5, p6⟩, q1, q2, q3⟩ := h
  have e7 : pN V 100 67 = b := pN_mk (by omega) h7
  rw [e7] at p2 p4 p6
  refine ⟨⟨?_, h7, ?_⟩, fun k hk => ?_, ?_, ⟨fun k w hk hw => ?_, fun k hk => ?_, fun w hw => ?_, ?_⟩, p5, p6, ⟨?_, ?_⟩, q1.fr (fun k _ _ => abk (by omega)) (fun _ _ _ => rfl), q2.fr (by rw [ab30, ud_o (by decide)]) (by rw [ab30, ud_o (by decide)]) (by rw [ab30, ud_o (by decide)]) rfl rfl rfl, q3.fr (by rw [abk (by omega)]) (by rw [abk (by omega)]) (by rw [abk (by omega)]) rfl rfl⟩
  · rw [ab30, ud_s]
  · rw [abk (by omega)]; exact p1.2
  · have a := p2 k hk
    have kb : k ≠ b := by omega
    unfold BkR at *
    rw [abk (k := 0) (by omega), abk (k := 5) (by omega), abk (k := 6) (by omega), abk (k := 7) (by omega), abk (k := 8) (by omega), abk (k := 9) (by omega), ab1, ab2, ab3, ab4, ud_o kb, ud_o kb, ud_o kb, ud_o kb]
    exact a
  · rw [abk (k := 12) (by omega), abk (k := 13) (by omega), abk (k := 14) (by omega)]; exact p3
  · rw [ab10, ud_o (by omega), ud_o (by omega), ud_o (by omega)]; exact p4.1 k w hk hw
  · rw [ab11, ud_o (by omega)]; exact p4.2 k hk
  · rw [ab10]
    by_cases w2 : w = 2
    · rw [w2, ud_s]
    rw [ud_o (by omega)]
    by_cases w1 : w = 1
    · rw [w1, ud_s]
    rw [ud_o (by omega), show w = 0 by omega, ud_s]
  · rw [ab11, ud_s]
  · rw [ab1, ud_s, h3]
  · rw [ab2, ud_s, h4]
theorem bl_48 {B : Nat → Int32} {b c d t : Nat} {Z V : Zf} (hb : b < 10) (hd : d < 5) (hy : YQ Z) (h : Kt B (Z 40) V) (hp : PlR c Z V) (h7 : V 100 67 = nI b) (h3 : V 53 b = nI d) (h4 : V 54 b = nI t) : CR B c (f_Reader_readBlock_48 B Z d t) (f_Mod_block1_60 V b) := by
  have hc := h.nx
  unfold f_Reader_readBlock_48 f_Reader_readBlock_52 f_Reader_readBlock_60 f_Mod_block1_60
  have e30 : pN (va_up Z 40 (f_Reader_nextToken B (Z 40))) 30 3 = b := pN_mk (by omega) (by rw [up_ne (show 30 ≠ 40 by decide) rfl, hp.1.1.1]; exact h7)
  rw [up_same, if_pos hc.1.1, if_pos hc.1.2, e30, ab_eq]
  have r := h.2.2.2.2
  have hp1 := hp.kg (Q := f_Reader_nextToken B (Z 40)) KG.rf r
  refine kd_all hb (hy.r.ab hd) ?_ (mb_of hp1 h7 hb h3 h4)
  rw [abk (by omega), up_same]; exact hc
theorem cl_block {B : Nat → Int32} {b c : Nat} {Z V : Zf} (hy : YQ Z) (h : Kc B (Z 40) V) (hp : PlR c Z V) (h7 : V 100 67 = nI b) (hb : b < 11) : CR B c (f_Reader_readBlock B Z) (f_Mod_block1 V) := by
  have h0 := h.1.2
  have e30 : pN Z 30 3 = b := pN_mk (by omega) (by rw [hp.1.1.1]; exact h7)
  have e10 : (10 : Int32) ≤ nI b ↔ 10 ≤ b := nI_leI (a := 10) (by omega) (by omega)
  unfold f_Reader_readBlock f_Mod_block1
  rw [e30, h7]
  by_cases q : b < 10
  · rw [if_pos q, if_neg (fun z => by have := e10.mp z; omega), wt_y h0 n1z, if_neg z1z]
    show CR B c _ (f_Mod_block1_23 V)
    obtain ⟨g1, g2⟩ := h.go
    have hp1 := hp.kg (Q := Z 40) g2 (fun _ _ _ _ => rfl)
    rw [up_self rfl] at hp1
    have e7 : s_Mod_go V 100 67 = nI b := by rw [g2.i (by omega)]; exact h7
    unfold f_Mod_block1_23 f_Reader_readBlock_17
    rw [pN_mk (by omega) h7]
    generalize s_Mod_go V = V1 at g1 g2 hp1 e7 ⊢
    obtain ⟨⟨d1, -, -⟩, ⟨d, d2, d3⟩, -⟩ := hp1.2.2.1
    rw [d3]
    unfold f_Reader_readBlock_24
    have z30 : ∀ Q, va_up Z 40 Q 30 0 = nI d := fun Q => by rw [up_ne (by decide) rfl, d1, d3]
    rw [z30]
    rcases nam_rel (hi := 4) (d := d) g1 (by omega) (by omega) with ⟨v, Q, U, a1, a2, a3, a4, a5, a6⟩ | ⟨v, Q, U, a1, a2, a3, a4, a5⟩ | ⟨Q, U, a2, a3, a4⟩
    · rw [a3, rn_1 a2 (by omega), rn_2 a2, if_pos (by rw [nI_ltI (by omega) (by omega)]; exact a1.2)]
      show CR B c _ (f_Mod_block1_47 (u2 U 53 b (nI v)) b)
      have hy2 : YQ (va_up Z 40 Q) := hy.r
      have u7 : U 100 67 = nI b := by rw [a6.i (by omega)]; exact e7
      have hp2 : PlR c (va_up Z 40 Q) (u2 U 53 b (nI v)) := (hp1.kg a6 a5).vb u7 q (by omega)
      have k2 : Kt B (va_up Z 40 Q 40) (u2 U 53 b (nI v)) := by rw [up_same]; exact a4.k (by omega)
      have w7 : u2 U 53 b (nI v) 100 67 = nI b := by rw [u2_k (by decide)]; exact u7
      have w3 : u2 U 53 b (nI v) 53 b = nI v := u2_s
      generalize va_up Z 40 Q = Z2 at hy2 hp2 k2 ⊢
      generalize u2 U 53 b (nI v) = V2 at hp2 k2 w7 w3 ⊢
      unfold f_Reader_readBlock_40 f_Mod_block1_47
      rcases num_rel (lo := 1) (hi := 9) k2 (by omega) (by omega) with ⟨t, Q3, U3, c1, c2, c3, c4, c5, c6⟩ | ⟨Q3, U3, c2, c3, c4⟩
      · rw [c3, rn_1 c2 (by omega), rn_2 c2]
        have u7' : U3 100 67 = nI b := by rw [c6.i (by omega)]; exact w7
        refine bl_48 q (by omega) hy2.r (by rw [up_same]; exact c4.k (by omega)) ((hp2.kg c6 c5).vb u7' q (by omega)) ?_ ?_ u2_s
        · rw [u2_k (by decide)]; exact u7'
        · rw [u2_k (by decide)]
          show U3 53 b = nI v
          rw [c6.k (k := 53) (by decide)]; exact w3
      · rw [c3, rn_2 c2, ob_52 (by rw [up_same]; exact c4.ne)]
        exact BadK (V := V) hy2 (bm_60 (c4.k (by omega)))
    · rw [a3, rn_1 a2 (by omega), rn_2 a2, if_neg (by rw [nI_ltI (by omega) (by omega)]; omega), up_same, up_up, ob_40 (by rw [up_same]; exact a4.ne)]
      exact BadK (V := V) hy (bm_47 (a4.k (by omega)))
    · rw [a3, rn_1 a2 (by omega), rn_2 a2, if_pos (by rw [nI_ltI (by omega) (by omega)]; omega), ob_40 (by rw [up_same]; exact a4.ne)]
      exact BadK (V := V) hy (bm_47 (a4.k (by omega)))
  · rw [if_neg q, if_pos (e10.mpr (by omega))]
    obtain ⟨f1, f2⟩ := h.fl (e := 2) (by decide)
    rw [n0, nI2, f1, ob_17 (by rw [up_same]; exact f2.ne)]
    exact BadK (V := V) hy f2
