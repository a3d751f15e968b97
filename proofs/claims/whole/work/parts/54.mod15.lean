/-! the reference: what each clause leaves (written by wip/whole/c_mod15.py) -/
theorem RM.fr {Z0 Z Y : Nat → Nat → Int32} (h : RM Z0 Z) (hk : ∀ k, k < 53 → Y k = Z k) (hi : ∀ i, i < 49 → i ≠ 33 → i ≠ 47 → Y 100 i = Z 100 i) (hR : RdM Y) : RM Z0 Y := by
  refine ⟨hR, ⟨fun k q => (hk k q).trans (h.2.1.1 k q), fun i q r => (hi i (by omega) r (by omega)).trans (h.2.1.2 i q r)⟩, (hi 48 (by decide) (by decide) (by decide)).trans h.2.2.1, ?_⟩
  rw [pN_o (hi 46 (by decide) (by decide) (by decide))]; exact h.2.2.2
def Bk (Z0 : Nat → Nat → Int32) (b : Nat) (Z : Nat → Nat → Int32) : Prop := RM Z0 Z ∧ Z 100 67 = nI b ∧ b < 10
theorem Bk.rw {Z0 Z Y : Nat → Nat → Int32} {b : Nat} (h : Bk Z0 b Z) (r : RW Z Y) : Bk Z0 b Y := ⟨h.1.rw r, (r.2.1.2 67 (by unfold goK; decide) (by decide) (by decide)).trans h.2.1, h.2.2⟩
theorem Bk.g {Z0 Z : Nat → Nat → Int32} {b : Nat} (h : Bk Z0 b Z) : GoI Z := h.1.1.1
theorem Bk.nm {Z0 Z : Nat → Nat → Int32} {b : Nat} {x y : Int32} (h : Bk Z0 b Z) : Bk Z0 b (f_Mod_number x y Z).2 := h.rw (rw_number h.g)
theorem Bk.nd {Z0 Z : Nat → Nat → Int32} {b : Nat} {x y : Int32} (h : Bk Z0 b Z) : Bk Z0 b (f_Mod_named x y Z).2 := h.rw (rw_named h.g)
theorem Bk.oo {Z0 Z : Nat → Nat → Int32} {b : Nat} {x y : Int32} (h : Bk Z0 b Z) : Bk Z0 b (f_Mod_oneOf x y Z).2 := h.rw (rw_oneOf h.g)
theorem Bk.s53 {Z0 Z : Nat → Nat → Int32} {b i : Nat} {v : Int32} (h : Bk Z0 b Z) (hv : ∃ n, v = nI n ∧ n < 5) : Bk Z0 b (u2 Z 53 i v) := ⟨h.1.k (by decide) (h.1.1.s53 hv), by rw [u2_k (by decide)]; exact h.2.1, h.2.2⟩
theorem Bk.s54 {Z0 Z : Nat → Nat → Int32} {b i : Nat} {v : Int32} (h : Bk Z0 b Z) (hv : ∃ n, v = nI n ∧ n < 10) : Bk Z0 b (u2 Z 54 i v) := ⟨h.1.k (by decide) (h.1.1.s54 hv), by rw [u2_k (by decide)]; exact h.2.1, h.2.2⟩
theorem Bk.s55 {Z0 Z : Nat → Nat → Int32} {b i : Nat} {v : Int32} (h : Bk Z0 b Z) (hv : ∃ n, v = nI n ∧ n < 4) : Bk Z0 b (u2 Z 55 i v) := ⟨h.1.k (by decide) (h.1.1.s55 hv), by rw [u2_k (by decide)]; exact h.2.1, h.2.2⟩
theorem Bk.s56 {Z0 Z : Nat → Nat → Int32} {b i : Nat} {v : Int32} (h : Bk Z0 b Z) (hv : ∃ n, v = nI n ∧ n < 301) : Bk Z0 b (u2 Z 56 i v) := ⟨h.1.k (by decide) (h.1.1.s56 hv), by rw [u2_k (by decide)]; exact h.2.1, h.2.2⟩
theorem Bk.uk {Z0 Z : Nat → Nat → Int32} {b k i : Nat} {v : Int32} (h : Bk Z0 b Z) (hk : k = 57 ∨ k = 58 ∨ k = 59 ∨ k = 64) : Bk Z0 b (u2 Z k i v) := ⟨h.1.k (by omega) (h.1.1.uk hk), by rw [u2_k (by omega)]; exact h.2.1, h.2.2⟩
theorem v_num {a b K : Nat} {Z : Nat → Nat → Int32} (hab : a ≤ b) (hb : b < K) (hK : K ≤ 2 ^ 20) : ∃ n, (f_Mod_number (nI a) (nI b) Z).1 = nI n ∧ n < K := by
  obtain ⟨n, e, -, h⟩ := nm_v (Z := Z) hab (by omega)
  exact ⟨n, e, by omega⟩
theorem v_one {f m K : Nat} {Z : Nat → Nat → Int32} (hf : f < 2 ^ 20) (hm : 1 ≤ m ∧ m < 2 ^ 20) (hK : m ≤ K) : ∃ n, (f_Mod_oneOf (nI f) (nI m) Z).1 = nI n ∧ n < K := by
  obtain ⟨n, e, h⟩ := oo_v (Z := Z) hf hm
  exact ⟨n, e, by omega⟩
theorem v_1m {f : Nat} {Z : Nat → Nat → Int32} (hf : f < 2 ^ 20) : ∃ n, 1 - (f_Mod_oneOf (nI f) (nI 2) Z).1 = nI n ∧ n < 301 := by
  obtain ⟨n, e, h⟩ := oo_v (m := 2) (Z := Z) hf (by decide)
  rw [e, show (1 : Int32) = nI 1 from rfl, sub_nI (by omega)]
  exact ⟨_, rfl, by omega⟩
theorem bk_255 {Z0 Z : Nat → Nat → Int32} {b : Nat} (h : Bk Z0 b Z) : RM Z0 (f_Mod_block1_255 Z b) := by
  rw [f_Mod_block1_255, h.2.1, nI_1]
  exact h.1.i (by decide) (h.1.1.u67 h.2.1 h.2.2)
theorem bk_240 {Z0 Z : Nat → Nat → Int32} {b : Nat} (h : Bk Z0 b Z) : RM Z0 (f_Mod_block1_240 Z b) := by
  rw [f_Mod_block1_240]; exact bk_255 (h.oo.s56 (v_1m (by decide)))
theorem bk_223 {Z0 Z : Nat → Nat → Int32} {b : Nat} (h : Bk Z0 b Z) : RM Z0 (f_Mod_block1_223 Z b) := by
  rw [f_Mod_block1_223]; exact bk_255 (h.nm.uk (by decide))
theorem bk_201 {Z0 Z : Nat → Nat → Int32} {b : Nat} (h : Bk Z0 b Z) : RM Z0 (f_Mod_block1_201 Z b) := by
  rw [f_Mod_block1_201]
  split
  · exact bk_223 (h.nm.s56 (v_num (by decide) (by decide) (by decide)))
  · exact bk_240 h
theorem bk_185 {Z0 Z : Nat → Nat → Int32} {b : Nat} (h : Bk Z0 b Z) : RM Z0 (f_Mod_block1_185 Z b) := by
  rw [f_Mod_block1_185]; exact bk_255 (h.oo.uk (by decide))
theorem bk_170 {Z0 Z : Nat → Nat → Int32} {b : Nat} (h : Bk Z0 b Z) : RM Z0 (f_Mod_block1_170 Z b) := by
  rw [f_Mod_block1_170]; exact bk_185 (h.oo.uk (by decide))
theorem bk_157 {Z0 Z : Nat → Nat → Int32} {b : Nat} (h : Bk Z0 b Z) : RM Z0 (f_Mod_block1_157 Z b) := by
  rw [f_Mod_block1_157]; exact bk_170 (h.nm.uk (by decide))
theorem bk_133 {Z0 Z : Nat → Nat → Int32} {b : Nat} (h : Bk Z0 b Z) : RM Z0 (f_Mod_block1_133 Z b) := by
  rw [f_Mod_block1_133]
  split
  · exact bk_157 (h.nm.s56 (v_num (by decide) (by decide) (by decide)))
  · exact bk_201 h
theorem bk_109 {Z0 Z : Nat → Nat → Int32} {b : Nat} (h : Bk Z0 b Z) : RM Z0 (f_Mod_block1_109 Z b) := by
  rw [f_Mod_block1_109]
  split
  · exact bk_255 (h.nm.s56 (v_num (by decide) (by decide) (by decide)))
  · exact bk_133 h
theorem bk_81 {Z0 Z : Nat → Nat → Int32} {b : Nat} (h : Bk Z0 b Z) : RM Z0 (f_Mod_block1_81 Z b) := by
  rw [f_Mod_block1_81]; exact bk_109 ((((h.uk (by decide)).uk (by decide)).uk (by decide)).s56 ⟨0, rfl, by decide⟩)
theorem bk_60 {Z0 Z : Nat → Nat → Int32} {b : Nat} (h : Bk Z0 b Z) : RM Z0 (f_Mod_block1_60 Z b) := by
  rw [f_Mod_block1_60]
  split
  · exact bk_81 (h.oo.s55 (v_one (by decide) (by decide) (by decide)))
  · exact h.1
theorem bk_47 {Z0 Z : Nat → Nat → Int32} {b : Nat} (h : Bk Z0 b Z) : RM Z0 (f_Mod_block1_47 Z b) := by
  rw [f_Mod_block1_47]; exact bk_60 (h.nm.s54 (v_num (by decide) (by decide) (by decide)))
theorem v_nam {a K : Nat} {Y Z : Nat → Nat → Int32} (h : GoI Z) (hy : Y 100 66 = nI (pN Y 100 66) ∧ pN Y 100 66 < 6) (ha : a < K) (hK : K ≤ 2 ^ 20) : ∃ n, (f_Mod_named (nI a) (Y 100 66) Z).1 = nI n ∧ n < K := by
  rw [hy.1]
  obtain ⟨n, e, h1, -⟩ := nd_v (a := a) (m := pN Y 100 66) h (by omega) (by omega)
  exact ⟨n, e, by omega⟩
theorem bk_23 {Z0 Z : Nat → Nat → Int32} (h : Bk Z0 (pN Z 100 67) Z) : RM Z0 (f_Mod_block1_23 Z) := by
  rw [f_Mod_block1_23]
  have h1 : Bk Z0 (pN Z 100 67) (s_Mod_go Z) := h.rw (RW.self h.g).go
  exact bk_47 (h1.nd.s53 (v_nam h1.g h1.1.1.2.1.1 (by decide) (by decide)))
theorem rm_block1 {Z : Nat → Nat → Int32} (h : RdM Z) : RM Z (f_Mod_block1 Z) := by
  rw [f_Mod_block1]
  have h0 := RM.self h
  have r : ∀ x y, RM Z (f_Mod_wants x y Z).2 := fun x y => h0.rw (RW.self h.1).wt
  by_cases c : 10 ≤ Z 100 67
  · rw [if_pos c]; exact r _ _
  · rw [if_neg c]
    split
    · exact r _ _
    · have q := h.2.1.2.1
      have b := b67 (Z := Z) ⟨q.1, by show (Z 100 67).toNatClampNeg ≤ 10; omega⟩ c
      have e : (f_Mod_wants (nI 1) (nI 2) Z).2 100 67 = Z 100 67 := wt_k.2 67 (by decide) (by decide)
      refine bk_23 ⟨r _ _, ?_, ?_⟩
      · rw [pN_o e, e]; exact b.1
      · rw [pN_o e]; exact b.2
theorem RdM.lk {Y : Nat → Nat → Int32} {f t n w : Nat} {S : Nat → Prop} (h : RdM Y) (e : Y 100 68 = nI n) (hn : n < 12) (hf : f < pN Y 100 67) (ht : t < pN Y 100 67) (hw : w < 3) (hS : clB Y S) (h1 : S f) (h2 : ¬ S t) : RdM (u2 (u2 (u2 (u2 Y 60 n (nI f)) 61 n (nI t)) 62 n (nI w)) 100 68 (nI (n + 1))) := by
  obtain ⟨g, ⟨a0, a1, a2⟩, c, ⟨d0, d1, d2⟩, p, l, r, hr⟩ := h
  have a1' : pN Y 100 67 < 11 := a1.2
  have e68 : pN Y 100 68 = n := pN_mk (by omega) e
  unfold clB at hS
  rw [e68] at hS
  rw [e, nI_clamp (by omega)] at l hr
  refine ⟨((g.uk (by decide)).uk (by decide)).uk (by decide) |>.u100 (by decide), ?_⟩
  have k53 : ∀ k, k ≠ 60 → k ≠ 61 → k ≠ 62 → k ≠ 100 → u2 (u2 (u2 (u2 Y 60 n (nI f)) 61 n (nI t)) 62 n (nI w)) 100 68 (nI (n + 1)) k = Y k := fun k q0 q1 q2 q3 => by rw [u2_k q3, u2_k q2, u2_k q1, u2_k q0]
  have k60 : u2 (u2 (u2 (u2 Y 60 n (nI f)) 61 n (nI t)) 62 n (nI w)) 100 68 (nI (n + 1)) 60 = upd (Y 60) n (nI f) := by rw [u2_k (by decide), u2_k (by decide), u2_k (by decide), u2_e]
  have k61 : u2 (u2 (u2 (u2 Y 60 n (nI f)) 61 n (nI t)) 62 n (nI w)) 100 68 (nI (n + 1)) 61 = upd (Y 61) n (nI t) := by rw [u2_k (by decide), u2_k (by decide), u2_e, u2_k (by decide)]
  have k62 : u2 (u2 (u2 (u2 Y 60 n (nI f)) 61 n (nI t)) 62 n (nI w)) 100 68 (nI (n + 1)) 62 = upd (Y 62) n (nI w) := by rw [u2_k (by decide), u2_e, u2_k (by decide), u2_k (by decide)]
  have i68 : u2 (u2 (u2 (u2 Y 60 n (nI f)) 61 n (nI t)) 62 n (nI w)) 100 68 (nI (n + 1)) 100 68 = nI (n + 1) := u2_s
  have i66 : ∀ i, i ≠ 68 → u2 (u2 (u2 (u2 Y 60 n (nI f)) 61 n (nI t)) 62 n (nI w)) 100 68 (nI (n + 1)) 100 i = Y 100 i := fun i hi => by rw [u2_i hi rfl, u2_k (by decide), u2_k (by decide), u2_k (by decide)]
  rw [k53 53 (by decide) (by decide) (by decide) (by decide), k53 54 (by decide) (by decide) (by decide) (by decide), k53 55 (by decide) (by decide) (by decide) (by decide), k53 56 (by decide) (by decide) (by decide) (by decide), k53 63 (by decide) (by decide) (by decide) (by decide), k53 65 (by decide) (by decide) (by decide) (by decide), k60, k61, k62, i68, i66 66 (by decide), i66 67 (by decide)]
  have in60 : ∀ j, j ≠ n → upd (Y 60) n (nI f) j = Y 60 j := fun j q => if_neg q
  have in61 : ∀ j, j ≠ n → upd (Y 61) n (nI t) j = Y 61 j := fun j q => if_neg q
  have at60 : upd (Y 60) n (nI f) n = nI f := if_pos rfl
  have at61 : upd (Y 61) n (nI t) n = nI t := if_pos rfl
  refine ⟨⟨a0, a1, by rw [nI_clamp (by omega)], by rw [nI_clamp (by omega)]; omega⟩, c, ⟨d0.u (by omega) (by decide), d1.u (by omega) (by decide), d2.u hw (by decide)⟩, p, fun j hj => ?_, ?_⟩
  · rw [nI_clamp (by omega)] at hj
    by_cases q : j = n
    · rw [q, at60, at61, nI_clamp (by omega), nI_clamp (by omega)]; exact ⟨hf, ht⟩
    · rw [in60 j q, in61 j q]; exact l j (by omega)
  · classical
    refine ⟨fun x => r x + (if S x then 0 else r f + 1), fun j hj => ?_⟩
    rw [nI_clamp (by omega)] at hj
    by_cases q : j = n
    · rw [q, at60, at61, nI_clamp (by omega), nI_clamp (by omega)]
      dsimp only
      rw [if_pos h1, if_neg h2]; omega
    · rw [in60 j q, in61 j q]
      dsimp only
      have o := hr j (by omega)
      by_cases s1 : S (Y 61 j).toNatClampNeg
      · have s0 : S (Y 60 j).toNatClampNeg := hS j (by omega) s1
        rw [if_pos s1, if_pos s0]; omega
      · rw [if_neg s1]
        split <;> omega
theorem lk_140 {Z0 Z : Nat → Nat → Int32} {f t w : Nat} {S : Nat → Prop} (h : RM Z0 Z) (hn : pN Z 100 68 < 12) (hf : f < pN Z 100 67) (ht : t < pN Z 100 67) (hw : w < 3) (hS : clB Z S) (h1 : S f) (h2 : ¬ S t) : RM Z0 (f_Mod_link1_140 Z f t (nI w)) := by
  rw [f_Mod_link1_140]
  have g := RW.go (RW.self h.1.1)
  have hY := h.rw g
  have e67 : s_Mod_go Z 100 67 = Z 100 67 := g.2.1.2 67 (by unfold goK; decide) (by decide) (by decide)
  have e68 : s_Mod_go Z 100 68 = Z 100 68 := g.2.1.2 68 (by unfold goK; decide) (by decide) (by decide)
  have x68 : s_Mod_go Z 100 68 = nI (pN Z 100 68) := e68.trans h.1.2.1.2.2.1
  have cl : clB (s_Mod_go Z) S := by
    unfold clB pN at hS ⊢
    rw [e68, g.2.1.1 60 (by decide), g.2.1.1 61 (by decide)]; exact hS
  refine hY.fr (fun k hk => ?_) (fun i hi q r => ?_) (RdM.lk hY.1 x68 hn (by rw [pN_o e67]; exact hf) (by rw [pN_o e67]; exact ht) hw cl h1 h2)
  · rw [u2_k (by omega), u2_k (by omega), u2_k (by omega), u2_k (by omega)]
  · rw [u2_i (by omega) rfl, u2_k (by decide), u2_k (by decide), u2_k (by decide)]
theorem lk_100 {Z0 Z : Nat → Nat → Int32} {f t w : Nat} (h : RM Z0 Z) (hn : pN Z 100 68 < 12) (hf : f < pN Z 100 67) (ht : t < pN Z 100 67) (hw : w < 3) : RM Z0 (f_Mod_link1_100 Z f t (nI w)) := by
  have hb : pN Z 100 67 < 11 := h.1.2.1.2.1.2
  rw [f_Mod_link1_100]
  by_cases c : (f_Mod_wants (f_Mod_isPlace (Z 55 f) (Z 55 t) (nI w)) (nI 3) Z).1 = 0
  · rw [if_pos c]; exact h.rw (RW.self h.1.1).wt
  · rw [if_neg c, (wt_of (by decide) c).2.2]
    by_cases c2 : (f_Mod_wants (f_Mod_isFree f t (nI w) Z) (nI 5) Z).1 = 0
    · rw [if_pos c2]; exact h.rw (RW.self h.1.1).wt
    · rw [if_neg c2]
      have q := wt_of (by decide) c2
      rw [q.2.2]
      have s := if_ah (by omega) q.1
      have a := ah_all (Z := Z) (f := f) h.1.2.2.2.1.1 h.1.2.2.2.1.2.1 h.1.2.1.2.2.2 (by omega)
      exact lk_140 h hn hf ht hw a.2.1 a.1 s
theorem lk_49 {Z0 Z : Nat → Nat → Int32} {f t : Nat} (h : RM Z0 Z) (hn : pN Z 100 68 < 12) (hf : Z 100 52 = 0 → f < pN Z 100 67) (ht : Z 100 52 = 0 → t < pN Z 100 67) : RM Z0 (f_Mod_link1_49 Z f t) := by
  have r : ∀ x y, RM Z0 (f_Mod_wants x y Z).2 := fun x y => h.rw (RW.self h.1.1).wt
  rw [f_Mod_link1_49]
  by_cases c0 : Z 100 52 = 0
  · rw [if_pos c0]
    by_cases c1 : Z 100 49 = 1
    · rw [if_pos c1]
      by_cases c2 : f_Mod_within (Z 100 51) (nI 16) (nI 18) = 0
      · rw [if_pos c2]; exact r _ _
      · rw [if_neg c2]
        by_cases c3 : (f_Mod_wants (nI 1) (nI 1) Z).1 = 0
        · rw [if_pos c3]; exact r _ _
        · rw [if_neg c3, (wt_of (by decide) c3).2.2, f_Mod_link1_92]
          obtain ⟨n, e, h1, h2⟩ := win_ab (by decide) (by decide) c2
          rw [e, show (16 : Int32) = nI 16 from rfl, sub_nI h1]
          exact lk_100 h hn (hf c0) (ht c0) (by omega)
    · rw [if_neg c1]; exact r _ _
  · rw [if_neg c0]; exact h
theorem nd_lt {Z : Nat → Nat → Int32} (hw : GoI Z) (hb : Z 100 67 = nI (pN Z 100 67) ∧ pN Z 100 67 < 11) : (f_Mod_named (nI 9) (Z 100 67) Z).2 100 52 = 0 → (f_Mod_named (nI 9) (Z 100 67) Z).1.toNatClampNeg < pN Z 100 67 := by
  rw [hb.1]
  obtain ⟨n, e, h1, h2⟩ := nd_v (a := 9) (m := pN Z 100 67) hw (by decide) (by omega)
  intro q
  rw [e, nI_clamp (by omega)]; exact h2 q
theorem lk_38 {Z0 Z : Nat → Nat → Int32} {f : Nat} (h : RM Z0 Z) (hn : pN Z 100 68 < 12) (hf : Z 100 52 = 0 → f < pN Z 100 67) : RM Z0 (f_Mod_link1_38 Z f) := by
  rw [f_Mod_link1_38]
  have g := rw_named (x := nI 9) (y := Z 100 67) h.1.1
  have e67 : (f_Mod_named (nI 9) (Z 100 67) Z).2 100 67 = Z 100 67 := g.2.1.2 67 (by unfold goK; decide) (by decide) (by decide)
  have e68 : (f_Mod_named (nI 9) (Z 100 67) Z).2 100 68 = Z 100 68 := g.2.1.2 68 (by unfold goK; decide) (by decide) (by decide)
  refine lk_49 (h.rw g) (by rw [pN_o e68]; exact hn) (fun q => ?_) (fun q => ?_)
  · rw [pN_o e67]; exact hf (g.2.2.2 q)
  · rw [pN_o e67]; exact nd_lt h.1.1 h.1.2.1.2.1 q
theorem lk_23 {Z0 Z : Nat → Nat → Int32} (h : RM Z0 Z) (hn : pN Z 100 68 < 12) : RM Z0 (f_Mod_link1_23 Z) := by
  rw [f_Mod_link1_23]
  have g0 := RW.go (RW.self h.1.1)
  have x68 : s_Mod_go Z 100 68 = Z 100 68 := g0.2.1.2 68 (by unfold goK; decide) (by decide) (by decide)
  have h1 := h.rw g0
  have hn1 : pN (s_Mod_go Z) 100 68 < 12 := by rw [pN_o x68]; exact hn
  generalize s_Mod_go Z = Y at h1 hn1 ⊢
  have g := rw_named (x := nI 9) (y := Y 100 67) h1.1.1
  have e67 : (f_Mod_named (nI 9) (Y 100 67) Y).2 100 67 = Y 100 67 := g.2.1.2 67 (by unfold goK; decide) (by decide) (by decide)
  have e68 : (f_Mod_named (nI 9) (Y 100 67) Y).2 100 68 = Y 100 68 := g.2.1.2 68 (by unfold goK; decide) (by decide) (by decide)
  refine lk_38 (h1.rw g) (by rw [pN_o e68]; exact hn1) (fun q => ?_)
  rw [pN_o e67]; exact nd_lt h1.1.1 h1.1.2.1.2.1 q
theorem rm_link1 {Z : Nat → Nat → Int32} (h : RdM Z) : RM Z (f_Mod_link1 Z) := by
  rw [f_Mod_link1]
  have h0 := RM.self h
  have r : ∀ x y, RM Z (f_Mod_wants x y Z).2 := fun x y => h0.rw (RW.self h.1).wt
  by_cases c : 12 ≤ Z 100 68
  · rw [if_pos c]; exact r _ _
  · rw [if_neg c]
    split
    · exact r _ _
    · have b := b68 (Z := Z) h.2.1.2.2 c
      have e : (f_Mod_wants (nI 1) (nI 2) Z).2 100 68 = Z 100 68 := wt_k.2 68 (by decide) (by decide)
      exact lk_23 (r _ _) (by rw [pN_o e]; exact b.2)
theorem pl_116 {Z0 Z : Nat → Nat → Int32} {s : Nat} {a : Int32} (h : RM Z0 Z) (h0 : Z 65 s ≠ 0) : RM Z0 (f_Mod_plant1_116 Z s a) := by
  rw [f_Mod_plant1_116]; exact h.k (by decide) (h.1.s63 h0)
theorem pl_103 {Z0 Z : Nat → Nat → Int32} {s : Nat} {a : Int32} (h : RM Z0 Z) : RM Z0 (f_Mod_plant1_103 Z s a) := by
  rw [f_Mod_plant1_103]
  have g := h.rw (rw_number (x := nI 1) (y := nI 50) h.1.1)
  have hv : (f_Mod_number (nI 1) (nI 50) Z).1 ≠ 0 := by
    obtain ⟨n, e, h1, h2⟩ := nm_v (a := 1) (b := 50) (Z := Z) (by decide) (by decide)
    rw [e]; exact nI_ne0 (by omega) (by omega)
  exact pl_116 (g.k (by decide) (g.1.s65 hv)) (by rw [u2_s]; exact hv)
theorem pl_89 {Z0 Z : Nat → Nat → Int32} {s : Nat} {a : Int32} (h : RM Z0 Z) : RM Z0 (f_Mod_plant1_89 Z s a) := by
  rw [f_Mod_plant1_89]
  have g := h.rw (rw_number (x := nI 0) (y := nI 300) h.1.1)
  exact pl_103 (g.k (by decide) (g.1.uk (by decide)))
theorem pl_46 {Z0 Z : Nat → Nat → Int32} (h : RM Z0 Z) : RM Z0 (f_Mod_plant1_46 Z) := by
  have r : ∀ x y, RM Z0 (f_Mod_wants x y Z).2 := fun x y => h.rw (RW.self h.1.1).wt
  rw [f_Mod_plant1_46]
  repeat' split
  · exact r _ _
  · rw [f_Mod_plant1_73, f_Mod_plant1_82]
    have h1 := (r (nI 1) (nI 4)).rw (RW.go (RW.self (r _ _).1.1))
    exact pl_89 (h1.rw (rw_number h1.1.1))
  · exact r _ _
theorem rm_plant1 {Z : Nat → Nat → Int32} (h : RdM Z) : RM Z (f_Mod_plant1 Z) := by
  rw [f_Mod_plant1]
  have h0 := (RM.self h).rw (RW.go (RW.self h.1))
  generalize s_Mod_go Z = Y at h0 ⊢
  have r : ∀ x y, RM Z (f_Mod_wants x y Y).2 := fun x y => h0.rw (RW.self h0.1.1).wt
  rw [f_Mod_plant1_4]
  repeat' split
  · exact r _ _
  · rw [f_Mod_plant1_25]
    repeat' split
    · exact (r _ _).rw (RW.self (r _ _).1.1).wt
    · exact (r _ _).rw (RW.self (r _ _).1.1).wt
    · exact pl_46 ((r _ _).rw (RW.self (r _ _).1.1).wt)
  · exact r _ _
theorem rm_once1 {x : Int32} {Z : Nat → Nat → Int32} (h : RdM Z) : RM Z (f_Mod_once1 x Z) := by
  have r : ∀ x y, RM Z (f_Mod_wants x y Z).2 := fun x y => (RM.self h).rw (RW.self h.1).wt
  rw [f_Mod_once1]
  repeat' split
  · exact r _ _
  · have r1 := (r (nI 1) (nI 4)).i (i := 71) (v := ((f_Mod_wants (nI 1) (nI 4) Z).2 100 71 ||| (1 : Int32) <<< (x &&& 31))) (by decide) ((r (nI 1) (nI 4)).1.u100 (by decide))
    have r2 := r1.rw (RW.go (RW.self r1.1.1))
    rw [f_Mod_once1_41]
    split
    · have r3 := r2.rw (rw_number (x := nI 1) (y := nI 9) r2.1.1)
      exact r3.i (by decide) (r3.1.u100 (by decide))
    · have r3 := r2.rw (rw_number (x := nI 0) (y := nI 9) r2.1.1)
      exact r3.i (by decide) (r3.1.u100 (by decide))
  · exact r _ _
theorem rm_clause1 {Z : Nat → Nat → Int32} (h : RdM Z) : RM Z (f_Mod_clause1 Z) := by
  have r : ∀ x y, RM Z (f_Mod_wants x y Z).2 := fun x y => (RM.self h).rw (RW.self h.1).wt
  have r2 : ∀ x y a b, RM Z (f_Mod_wants x y (f_Mod_wants a b Z).2).2 := fun x y a b => (r a b).rw (RW.self (r a b).1.1).wt
  have key : ∀ w, RM Z (f_Mod_clause1_17 Z w) := by
    intro w
    rw [f_Mod_clause1_17]
    repeat' split
    · exact rm_block1 h
    · exact rm_link1 h
    · exact rm_plant1 h
    · exact rm_once1 h
    · exact rm_once1 h
    · exact r _ _
    · exact r2 _ _ _ _
    · rw [f_Mod_clause1_108, f_Mod_clause1_112]
      have g := (r2 (nI 1) (nI 4) (nI 1) (nI 1)).rw (RW.go (RW.self (r2 _ _ _ _).1.1))
      have g2 := g.rw (rw_number (x := nI 1) (y := nI 5) g.1.1)
      exact g2.i (by decide) (g2.1.u66 (v_num (by decide) (by decide) (by decide)))
    · exact r2 _ _ _ _
    · exact r _ _
  rw [f_Mod_clause1]
  split
  · exact key _
  · exact key _
