/-! the reference: what a text tells keeps its bounds; no ring of links (written by wip/whole/c_mod14.py; rows bt .. b_sshr pasted from the kit's BITS.to-paste) -/
def bt (x : Int32) (i : Nat) : Bool := x.toBitVec.getLsbD i
theorem b_ext {x y : Int32} (h : ∀ i, i < 32 → bt x i = bt y i) : x = y := Int32.toBitVec_inj.mp (BitVec.eq_of_getLsbD_eq (fun i hi => h i hi))
theorem b_or (x y : Int32) (i : Nat) : bt (x ||| y) i = (bt x i || bt y i) := by unfold bt; rw [Int32.toBitVec_or, BitVec.getLsbD_or]
theorem b_and (x y : Int32) (i : Nat) : bt (x &&& y) i = (bt x i && bt y i) := by unfold bt; rw [Int32.toBitVec_and, BitVec.getLsbD_and]
theorem b_xor (x y : Int32) (i : Nat) : bt (x ^^^ y) i = (bt x i ^^ bt y i) := by unfold bt; rw [Int32.toBitVec_xor, BitVec.getLsbD_xor]
theorem b_big {x : Int32} {i : Nat} (h : 32 ≤ i) : bt x i = false := BitVec.getLsbD_of_ge _ _ h
theorem b_255 (i : Nat) : bt 255 i = decide (i < 8) := by
  rcases Nat.lt_or_ge i 32 with h | h
  · exact (by decide +kernel : ∀ i, i < 32 → bt 255 i = decide (i < 8)) i h
  · rw [b_big h, decide_eq_false (by omega)]
theorem b_65535 (i : Nat) : bt 65535 i = decide (i < 16) := by
  rcases Nat.lt_or_ge i 32 with h | h
  · exact (by decide +kernel : ∀ i, i < 32 → bt 65535 i = decide (i < 16)) i h
  · rw [b_big h, decide_eq_false (by omega)]
theorem b_m1 : ∀ i, i < 32 → bt (-1) i = true := by decide +kernel
theorem b_0 (i : Nat) : bt 0 i = false := BitVec.getLsbD_zero
theorem s_l : ∀ n, n < 32 → ((nI n &&& 31).toBitVec.smod 32).toNat = n := by decide +kernel
theorem s_u : ∀ n, n < 32 → (((nI n).toUInt32 &&& Int32.toUInt32 31).toBitVec % 32).toNat = n := by decide +kernel
theorem b_shl (n : Nat) (hn : n < 32) (x : Int32) {i : Nat} (hi : i < 32) : bt (x <<< (nI n &&& 31)) i = (decide (n ≤ i) && bt x (i - n)) := by
  unfold bt
  rw [Int32.toBitVec_shiftLeft]
  show (x.toBitVec <<< ((nI n &&& 31).toBitVec.smod 32).toNat).getLsbD i = _
  rw [s_l n hn, BitVec.getLsbD_shiftLeft]
  rcases Nat.lt_or_ge i n with h | h
  · simp [h, Nat.not_le.mpr h]
  · simp [hi, h, Nat.not_lt.mpr h]
theorem b_ushr (n : Nat) (hn : n < 32) (x : Int32) (i : Nat) : bt ((x.toUInt32 >>> ((nI n).toUInt32 &&& Int32.toUInt32 31)).toInt32) i = bt x (n + i) := by
  show (x.toUInt32 >>> ((nI n).toUInt32 &&& Int32.toUInt32 31)).toBitVec.getLsbD i = x.toUInt32.toBitVec.getLsbD (n + i)
  rw [UInt32.toBitVec_shiftRight]
  show (x.toUInt32.toBitVec >>> (((nI n).toUInt32 &&& Int32.toUInt32 31).toBitVec % 32).toNat).getLsbD i = _
  rw [s_u n hn, BitVec.getLsbD_ushiftRight]
theorem b_sshr (n : Nat) (hn : n < 32) (x : Int32) {i : Nat} (hi : i < 32) : bt (x >>> (nI n &&& 31)) i = if n + i < 32 then bt x (n + i) else bt x 31 := by
  unfold bt
  rw [Int32.toBitVec_shiftRight]
  show (x.toBitVec.sshiftRight ((nI n &&& 31).toBitVec.smod 32).toNat).getLsbD i = _
  rw [s_l n hn, BitVec.getLsbD_sshiftRight, BitVec.msb_eq_getLsbD_last]
  simp [hi]
theorem bt_1 : ∀ i, i < 32 → bt 1 i = decide (i = 0) := by decide +kernel
theorem and_1 (y : Int32) : y &&& 1 = if bt y 0 = true then 1 else 0 := by
  apply b_ext
  intro i hi
  rw [b_and, bt_1 i hi]
  by_cases h : bt y 0 = true
  · rw [if_pos h, bt_1 i hi]
    by_cases e : i = 0
    · subst e; rw [h]; rfl
    · simp [e]
  · rw [if_neg h, b_0]
    by_cases e : i = 0
    · subst e; simp [h]
    · simp [e]
theorem sb_1 {u : Int32} {x : Nat} (hx : x < 32) : ((u >>> (nI x &&& 31)) &&& 1) = 1 ↔ bt u x = true := by
  rw [and_1, b_sshr x hx u (by decide : 0 < 32), if_pos (show x + 0 < 32 by omega)]
  show (if bt u x = true then (1 : Int32) else 0) = 1 ↔ _
  by_cases h : bt u x = true
  · simp [h]
  · simp [h]
theorem sb_0 {u : Int32} {x : Nat} (hx : x < 32) : ((u >>> (nI x &&& 31)) &&& 1) = 0 ↔ ¬ bt u x = true := by
  rw [and_1, b_sshr x hx u (by decide : 0 < 32), if_pos (show x + 0 < 32 by omega)]
  show (if bt u x = true then (1 : Int32) else 0) = 0 ↔ _
  by_cases h : bt u x = true
  · simp [h]
  · simp [h]
theorem or_bt {u : Int32} {x y : Nat} (hx : x < 32) (hy : y < 32) : bt (u ||| ((1 : Int32) <<< (nI y &&& 31))) x = (bt u x || decide (x = y)) := by
  rw [b_or, b_shl y hy _ hx]
  congr 1
  rw [bt_1 _ (by omega), Bool.eq_iff_iff]
  simp only [Bool.and_eq_true, decide_eq_true_eq]
  omega
theorem or_bt_of {u : Int32} {x y : Nat} (hx : x < 32) (hy : y < 32) : bt (u ||| ((1 : Int32) <<< (nI y &&& 31))) x = true ↔ bt u x = true ∨ x = y := by
  rw [or_bt hx hy, Bool.or_eq_true, decide_eq_true_eq]
theorem sh_bt {x y : Nat} (hx : x < 32) (hy : y < 32) : bt ((1 : Int32) <<< (nI y &&& 31)) x = true ↔ x = y := by
  rw [b_shl y hy _ hx, bt_1 _ (by omega)]
  simp only [Bool.and_eq_true, decide_eq_true_eq]
  omega
/-- how many of the first n bits are set -/
def cnb (u : Int32) : Nat → Nat
  | 0 => 0
  | n + 1 => cnb u n + (if bt u n = true then 1 else 0)
theorem cnb_le (u : Int32) : ∀ n, cnb u n ≤ n
  | 0 => Nat.le_refl _
  | n + 1 => by
    have := cnb_le u n
    rw [cnb]; split <;> omega
theorem cnb_pos {u : Int32} {y : Nat} (h : bt u y = true) : ∀ {n : Nat}, y < n → 1 ≤ cnb u n
  | 0, hn => by omega
  | n + 1, hn => by
    rw [cnb]
    by_cases e : y = n
    · rw [← e, if_pos h]; omega
    · have := cnb_pos h (n := n) (by omega)
      omega
theorem cnb_mono {u v : Int32} : ∀ {n : Nat}, (∀ x, x < n → bt u x = true → bt v x = true) → cnb u n ≤ cnb v n
  | 0, _ => Nat.le_refl _
  | n + 1, h => by
    have := cnb_mono (u := u) (v := v) (n := n) (fun x hx => h x (by omega))
    rw [cnb, cnb]
    by_cases c : bt u n = true
    · rw [if_pos c, if_pos (h n (by omega) c)]; omega
    · rw [if_neg c]; omega
theorem cnb_lt {u v : Int32} {y : Nat} (h0 : ¬ bt u y = true) (h1 : bt v y = true) : ∀ {n : Nat}, y < n → (∀ x, x < n → bt u x = true → bt v x = true) → cnb u n + 1 ≤ cnb v n
  | 0, hn, _ => by omega
  | n + 1, hn, h => by
    rw [cnb, cnb]
    by_cases e : y = n
    · have := cnb_mono (u := u) (v := v) (n := n) (fun x hx => h x (by omega))
      rw [← e, if_neg h0, if_pos h1, e]; omega
    · have := cnb_lt h0 h1 (n := n) (by omega) (fun x hx => h x (by omega))
      by_cases c : bt u n = true
      · rw [if_pos c, if_pos (h n (by omega) c)]; omega
      · rw [if_neg c]; omega
/-- sets of blocks that hold what comes ahead of theirs -/
def clB (Z : Nat → Nat → Int32) (S : Nat → Prop) : Prop := ∀ j, j < pN Z 100 68 → S (pN Z 61 j) → S (pN Z 60 j)
theorem ah15 {Z : Nat → Nat → Int32} {f : Nat} (h60 : isN Z 60 10) (h61 : isN Z 61 10) : ∀ (t l : Nat) (u : Int32) (k : Nat), 12 - l < t → l ≤ 12 → pN Z 100 68 < 13 →
    (∀ x, x < 32 → bt u x = true → bt (f_Mod_aheadOf_15 f t Z u k l).1 x = true) ∧
    (∀ S : Nat → Prop, clB Z S → (∀ x, x < 32 → bt u x = true → S x) → ∀ x, x < 32 → bt (f_Mod_aheadOf_15 f t Z u k l).1 x = true → S x) ∧
    (∀ j, l ≤ j → j < pN Z 100 68 → bt u (pN Z 61 j) = true → bt (f_Mod_aheadOf_15 f t Z u k l).1 (pN Z 60 j) = true) := by
  intro t
  induction t with
  | zero => intro l u k h; omega
  | succ t ih =>
    intro l u k ht hl hn
    have a60 := h60 l
    have a61 := h61 l
    by_cases c1 : pN Z 100 68 ≤ l
    · have e : f_Mod_aheadOf_15 f (t + 1) Z u k l = (u, Z) := by rw [f_Mod_aheadOf_15, if_pos c1]
      rw [e]
      exact ⟨fun _ _ q => q, fun S _ h0 => h0, fun j h1 h2 => by omega⟩
    · by_cases c2 : bt u (pN Z 61 l) = true
      · have e : f_Mod_aheadOf_15 f (t + 1) Z u k l = f_Mod_aheadOf_15 f t Z (u ||| ((1 : Int32) <<< (nI (pN Z 60 l) &&& 31))) k (l + 1) := by
          rw [f_Mod_aheadOf_15, if_neg c1, a61.1, if_pos ((sb_1 (by omega)).mpr c2), a60.1]
        rw [e]
        obtain ⟨r1, r2, r3⟩ := ih (l + 1) (u ||| ((1 : Int32) <<< (nI (pN Z 60 l) &&& 31))) k (by omega) (by omega) hn
        refine ⟨fun x hx q => r1 x hx ((or_bt_of hx (by omega)).mpr (Or.inl q)), fun S hS h0 => r2 S hS (fun x hx q => ?_), fun j h1 h2 h3 => ?_⟩
        · rcases (or_bt_of hx (by omega)).mp q with q | q
          · exact h0 x hx q
          · rw [q]; exact hS l (by omega) (h0 _ (by omega) c2)
        · by_cases ej : j = l
          · rw [ej]; exact r1 _ (by omega) ((or_bt_of (by omega) (by omega)).mpr (Or.inr rfl))
          · exact r3 j (by omega) h2 ((or_bt_of (by have := (h61 j).2; omega) (by omega)).mpr (Or.inl h3))
      · have e : f_Mod_aheadOf_15 f (t + 1) Z u k l = f_Mod_aheadOf_15 f t Z u k (l + 1) := by
          rw [f_Mod_aheadOf_15, if_neg c1, a61.1, if_neg (fun q => c2 ((sb_1 (by omega)).mp q))]
        rw [e]
        obtain ⟨r1, r2, r3⟩ := ih (l + 1) u k (by omega) (by omega) hn
        refine ⟨r1, r2, fun j h1 h2 h3 => ?_⟩
        by_cases ej : j = l
        · rw [ej] at h3; exact absurd h3 c2
        · exact r3 j (by omega) h2 h3
theorem ah6 {Z : Nat → Nat → Int32} {f : Nat} (h60 : isN Z 60 10) (h61 : isN Z 61 10) (hn : pN Z 100 68 < 13) : ∀ (t k : Nat) (u : Int32), 10 - k < t → k ≤ 10 → (k + 1 ≤ cnb u 10 ∨ clB Z (fun x => bt u x = true)) →
    (∀ x, x < 32 → bt u x = true → bt (f_Mod_aheadOf_6 f t Z u k) x = true) ∧
    (∀ S : Nat → Prop, clB Z S → (∀ x, x < 32 → bt u x = true → S x) → ∀ x, x < 32 → bt (f_Mod_aheadOf_6 f t Z u k) x = true → S x) ∧
    clB Z (fun x => bt (f_Mod_aheadOf_6 f t Z u k) x = true) := by
  intro t
  induction t with
  | zero => intro k u h; omega
  | succ t ih =>
    intro k u ht hk hc
    by_cases c : 10 ≤ k
    · have e : f_Mod_aheadOf_6 f (t + 1) Z u k = u := by rw [f_Mod_aheadOf_6, if_pos c]
      rw [e]
      refine ⟨fun _ _ q => q, fun S _ h0 => h0, ?_⟩
      rcases hc with hc | hc
      · have := cnb_le u 10; omega
      · exact hc
    · have e : f_Mod_aheadOf_6 f (t + 1) Z u k = f_Mod_aheadOf_6 f t Z (f_Mod_aheadOf_15 f (fu 13) Z u k 0).1 (k + 1) := by rw [f_Mod_aheadOf_6, if_neg c]
      rw [e]
      obtain ⟨r1, r2, r3⟩ := ah15 (f := f) h60 h61 (fu 13) 0 u k (by rw [fu_eq]; omega) (by omega) hn
      generalize (f_Mod_aheadOf_15 f (fu 13) Z u k 0).1 = v at r1 r2 r3 ⊢
      have key : k + 1 + 1 ≤ cnb v 10 ∨ clB Z (fun x => bt v x = true) := by
        by_cases cl : clB Z (fun x => bt u x = true)
        · right
          intro j hj h1
          exact r1 _ (by have := (h60 j).2; omega) (cl j hj (r2 _ cl (fun _ _ q => q) _ (by have := (h61 j).2; omega) h1))
        · left
          have hc' : k + 1 ≤ cnb u 10 := hc.resolve_right cl
          have : ∃ j, j < pN Z 100 68 ∧ bt u (pN Z 61 j) = true ∧ ¬ bt u (pN Z 60 j) = true := by
            apply Classical.byContradiction
            intro q
            exact cl (fun j hj h1 => Classical.byContradiction fun h2 => q ⟨j, hj, h1, h2⟩)
          obtain ⟨j, hj, h1, h2⟩ := this
          have := cnb_lt (u := u) (v := v) h2 (r3 j (Nat.zero_le _) hj h1) (n := 10) (h60 j).2 (fun x hx => r1 x (by omega))
          omega
      obtain ⟨s1, s2, s3⟩ := ih (k + 1) v (by omega) (by omega) key
      exact ⟨fun x hx q => s1 x hx (r1 x hx q), fun S hS h0 => s2 S hS (r2 S hS h0), s3⟩
/-- blocks ahead of one: the least set that holds it and what comes ahead of its own -/
theorem ah_all {Z : Nat → Nat → Int32} {f : Nat} (h60 : isN Z 60 10) (h61 : isN Z 61 10) (hn : pN Z 100 68 < 13) (hf : f < 10) : bt (f_Mod_aheadOf f Z) f = true ∧ clB Z (fun x => bt (f_Mod_aheadOf f Z) x = true) ∧ ∀ S : Nat → Prop, clB Z S → S f → ∀ x, x < 32 → bt (f_Mod_aheadOf f Z) x = true → S x := by
  have b0 : bt ((1 : Int32) <<< (nI f &&& 31)) f = true := (sh_bt (by omega) (by omega)).mpr rfl
  obtain ⟨r1, r2, r3⟩ := ah6 (f := f) h60 h61 hn (fu 11) 0 ((1 : Int32) <<< (nI f &&& 31)) (by rw [fu_eq]; omega) (by omega) (Or.inl (cnb_pos b0 hf))
  rw [f_Mod_aheadOf]
  exact ⟨r1 f (by omega) b0, r3, fun S hS h0 => r2 S hS (fun x hx q => by rw [(sh_bt hx (by omega)).mp q]; exact h0)⟩
theorem if_ah {f b : Nat} {w : Int32} {Z : Nat → Nat → Int32} (hb : b < 10) (H : ¬ f_Mod_isFree f b w Z = 0) : ¬ bt (f_Mod_aheadOf f Z) b = true := by
  have key : ∀ (t l : Nat), ¬ f_Mod_isFree_3 f b w t Z l = 0 → ¬ bt (f_Mod_aheadOf f Z) b = true := by
    intro t
    induction t with
    | zero => intro l h; exact absurd rfl h
    | succ t ih =>
      intro l h
      rw [f_Mod_isFree_3] at h
      by_cases c1 : pN Z 100 68 ≤ l
      · rw [if_pos c1] at h
        by_cases c2 : ((f_Mod_aheadOf f Z >>> (nI b &&& 31)) &&& 1) = 0
        · exact (sb_0 (by omega)).mp c2
        · rw [if_neg c2] at h; exact absurd rfl h
      · rw [if_neg c1] at h
        repeat' split at h
        all_goals first | exact absurd rfl h | exact ih _ h
  rw [f_Mod_isFree] at H
  exact key _ _ H
def iNr (f : Nat → Int32) (K : Nat) : Prop := ∀ j, f j = nI (f j).toNatClampNeg ∧ (f j).toNatClampNeg < K
theorem iNr.u {f : Nat → Int32} {K i n : Nat} (h : iNr f K) (hn : n < K) (hK : K ≤ 1000) : iNr (upd f i (nI n)) K := by
  intro j
  by_cases c : j = i
  · have e : upd f i (nI n) j = nI n := if_pos c
    rw [e, nI_clamp (by omega)]; exact ⟨rfl, hn⟩
  · have e : upd f i (nI n) j = f j := if_neg c
    rw [e]; exact h j
def RdV (a53 a54 a55 a56 a60 a61 a62 a63 a65 : Nat → Int32) (x66 x67 x68 : Int32) : Prop :=
  ((x66 = nI x66.toNatClampNeg ∧ x66.toNatClampNeg < 6) ∧ (x67 = nI x67.toNatClampNeg ∧ x67.toNatClampNeg < 11) ∧ (x68 = nI x68.toNatClampNeg ∧ x68.toNatClampNeg < 13)) ∧
  (iNr a53 5 ∧ iNr a54 10 ∧ iNr a55 4 ∧ iNr a56 301) ∧ (iNr a60 10 ∧ iNr a61 10 ∧ iNr a62 3) ∧ (∀ s, s < 4 → a63 s ≠ -1 → a65 s ≠ 0) ∧
  (∀ l, l < x68.toNatClampNeg → (a60 l).toNatClampNeg < x67.toNatClampNeg ∧ (a61 l).toNatClampNeg < x67.toNatClampNeg) ∧
  (∃ r : Nat → Nat, ∀ l, l < x68.toNatClampNeg → r (a60 l).toNatClampNeg < r (a61 l).toNatClampNeg)
/-- what a text has told so far -/
def RdM (Z : Nat → Nat → Int32) : Prop := GoI Z ∧ RdV (Z 53) (Z 54) (Z 55) (Z 56) (Z 60) (Z 61) (Z 62) (Z 63) (Z 65) (Z 100 66) (Z 100 67) (Z 100 68)
def FrR (Z0 Z : Nat → Nat → Int32) : Prop := (∀ k, k < 53 → Z k = Z0 k) ∧ ∀ i, i < 46 → i ≠ 33 → Z 100 i = Z0 100 i
/-- since Z0: bounds are kept, the live part is as it was, the text is read on -/
def RM (Z0 Z : Nat → Nat → Int32) : Prop := RdM Z ∧ FrR Z0 Z ∧ Z 100 48 = Z0 100 48 ∧ pN Z0 100 46 ≤ pN Z 100 46
theorem RM.self {Z : Nat → Nat → Int32} (h : RdM Z) : RM Z Z := ⟨h, ⟨fun _ _ => rfl, fun _ _ _ => rfl⟩, rfl, Nat.le_refl _⟩
theorem RM.trans {X Y Z : Nat → Nat → Int32} (h : RM X Y) (h2 : RM Y Z) : RM X Z := ⟨h2.1, ⟨fun k hk => (h2.2.1.1 k hk).trans (h.2.1.1 k hk), fun i h0 h1 => (h2.2.1.2 i h0 h1).trans (h.2.1.2 i h0 h1)⟩, h2.2.2.1.trans h.2.2.1, Nat.le_trans h.2.2.2 h2.2.2.2⟩
theorem u2_e {L : Nat → Nat → Int32} {k i : Nat} {v : Int32} : u2 L k i v k = upd (L k) i v := by unfold u2; rw [up_same]
theorem RdM.rw {Z Y : Nat → Nat → Int32} (h : RdM Z) (r : RW Z Y) : RdM Y := by
  refine ⟨r.1, ?_⟩
  have g := r.2.1.2
  have k := r.2.1.1
  rw [k 53 (by decide), k 54 (by decide), k 55 (by decide), k 56 (by decide), k 60 (by decide), k 61 (by decide), k 62 (by decide), k 63 (by decide), k 65 (by decide), g 66 (by unfold goK; decide) (by decide) (by decide), g 67 (by unfold goK; decide) (by decide) (by decide), g 68 (by unfold goK; decide) (by decide) (by decide)]
  exact h.2
theorem RM.rw {Z0 Z Y : Nat → Nat → Int32} (h : RM Z0 Z) (r : RW Z Y) : RM Z0 Y := by
  refine ⟨h.1.rw r, ⟨fun k hk => (r.2.1.1 k (by omega)).trans (h.2.1.1 k hk), fun i h0 h1 => (r.2.1.2 i (by unfold goK; omega) (by omega) (by omega)).trans (h.2.1.2 i h0 h1)⟩, (r.2.1.2 48 (by unfold goK; decide) (by decide) (by decide)).trans h.2.2.1, Nat.le_trans h.2.2.2 r.2.2.1⟩
theorem RM.k {Z0 Z : Nat → Nat → Int32} {k i : Nat} {v : Int32} (h : RM Z0 Z) (hk : 53 ≤ k ∧ k ≠ 100) (hR : RdM (u2 Z k i v)) : RM Z0 (u2 Z k i v) := by
  refine ⟨hR, ⟨fun j hj => (u2_k (by omega)).trans (h.2.1.1 j hj), fun j h0 h1 => ?_⟩, ?_, ?_⟩
  · rw [u2_k hk.2.symm]; exact h.2.1.2 j h0 h1
  · rw [u2_k hk.2.symm]; exact h.2.2.1
  · have e : pN (u2 Z k i v) 100 46 = pN Z 100 46 := pN_o (by rw [u2_k hk.2.symm])
    rw [e]; exact h.2.2.2
theorem RM.i {Z0 Z : Nat → Nat → Int32} {i : Nat} {v : Int32} (h : RM Z0 Z) (hi : 66 ≤ i) (hR : RdM (u2 Z 100 i v)) : RM Z0 (u2 Z 100 i v) := by
  refine ⟨hR, ⟨fun j hj => (u2_k (by omega)).trans (h.2.1.1 j hj), fun j h0 h1 => ?_⟩, ?_, ?_⟩
  · rw [u2_i (by omega) rfl]; exact h.2.1.2 j h0 h1
  · rw [u2_i (by omega) rfl]; exact h.2.2.1
  · have e : pN (u2 Z 100 i v) 100 46 = pN Z 100 46 := pN_o (u2_i (by omega) rfl)
    rw [e]; exact h.2.2.2
theorem RdM.s53 {Z : Nat → Nat → Int32} {i : Nat} {v : Int32} (h : RdM Z) (hv : ∃ n, v = nI n ∧ n < 5) : RdM (u2 Z 53 i v) := by
  obtain ⟨n, rfl, hn⟩ := hv
  obtain ⟨g, a, ⟨b0, b1, b2, b3⟩, c⟩ := h
  refine ⟨g.uk (by decide), ?_⟩
  rw [u2_k (show (54 : Nat) ≠ 53 by decide), u2_k (show (55 : Nat) ≠ 53 by decide), u2_k (show (56 : Nat) ≠ 53 by decide), u2_k (show (60 : Nat) ≠ 53 by decide), u2_k (show (61 : Nat) ≠ 53 by decide), u2_k (show (62 : Nat) ≠ 53 by decide), u2_k (show (63 : Nat) ≠ 53 by decide), u2_k (show (65 : Nat) ≠ 53 by decide), u2_k (show (100 : Nat) ≠ 53 by decide), u2_e]
  exact ⟨a, ⟨(b0.u hn (by decide)), b1, b2, b3⟩, c⟩
theorem RdM.s54 {Z : Nat → Nat → Int32} {i : Nat} {v : Int32} (h : RdM Z) (hv : ∃ n, v = nI n ∧ n < 10) : RdM (u2 Z 54 i v) := by
  obtain ⟨n, rfl, hn⟩ := hv
  obtain ⟨g, a, ⟨b0, b1, b2, b3⟩, c⟩ := h
  refine ⟨g.uk (by decide), ?_⟩
  rw [u2_k (show (53 : Nat) ≠ 54 by decide), u2_k (show (55 : Nat) ≠ 54 by decide), u2_k (show (56 : Nat) ≠ 54 by decide), u2_k (show (60 : Nat) ≠ 54 by decide), u2_k (show (61 : Nat) ≠ 54 by decide), u2_k (show (62 : Nat) ≠ 54 by decide), u2_k (show (63 : Nat) ≠ 54 by decide), u2_k (show (65 : Nat) ≠ 54 by decide), u2_k (show (100 : Nat) ≠ 54 by decide), u2_e]
  exact ⟨a, ⟨b0, (b1.u hn (by decide)), b2, b3⟩, c⟩
theorem RdM.s55 {Z : Nat → Nat → Int32} {i : Nat} {v : Int32} (h : RdM Z) (hv : ∃ n, v = nI n ∧ n < 4) : RdM (u2 Z 55 i v) := by
  obtain ⟨n, rfl, hn⟩ := hv
  obtain ⟨g, a, ⟨b0, b1, b2, b3⟩, c⟩ := h
  refine ⟨g.uk (by decide), ?_⟩
  rw [u2_k (show (53 : Nat) ≠ 55 by decide), u2_k (show (54 : Nat) ≠ 55 by decide), u2_k (show (56 : Nat) ≠ 55 by decide), u2_k (show (60 : Nat) ≠ 55 by decide), u2_k (show (61 : Nat) ≠ 55 by decide), u2_k (show (62 : Nat) ≠ 55 by decide), u2_k (show (63 : Nat) ≠ 55 by decide), u2_k (show (65 : Nat) ≠ 55 by decide), u2_k (show (100 : Nat) ≠ 55 by decide), u2_e]
  exact ⟨a, ⟨b0, b1, (b2.u hn (by decide)), b3⟩, c⟩
theorem RdM.s56 {Z : Nat → Nat → Int32} {i : Nat} {v : Int32} (h : RdM Z) (hv : ∃ n, v = nI n ∧ n < 301) : RdM (u2 Z 56 i v) := by
  obtain ⟨n, rfl, hn⟩ := hv
  obtain ⟨g, a, ⟨b0, b1, b2, b3⟩, c⟩ := h
  refine ⟨g.uk (by decide), ?_⟩
  rw [u2_k (show (53 : Nat) ≠ 56 by decide), u2_k (show (54 : Nat) ≠ 56 by decide), u2_k (show (55 : Nat) ≠ 56 by decide), u2_k (show (60 : Nat) ≠ 56 by decide), u2_k (show (61 : Nat) ≠ 56 by decide), u2_k (show (62 : Nat) ≠ 56 by decide), u2_k (show (63 : Nat) ≠ 56 by decide), u2_k (show (65 : Nat) ≠ 56 by decide), u2_k (show (100 : Nat) ≠ 56 by decide), u2_e]
  exact ⟨a, ⟨b0, b1, b2, (b3.u hn (by decide))⟩, c⟩
theorem RdM.uk {Z : Nat → Nat → Int32} {k i : Nat} {v : Int32} (h : RdM Z) (hk : k = 57 ∨ k = 58 ∨ k = 59 ∨ k = 64) : RdM (u2 Z k i v) := by
  refine ⟨h.1.uk (by omega), ?_⟩
  rw [u2_k (k := k) (show (53 : Nat) ≠ k by omega), u2_k (k := k) (show (54 : Nat) ≠ k by omega), u2_k (k := k) (show (55 : Nat) ≠ k by omega), u2_k (k := k) (show (56 : Nat) ≠ k by omega), u2_k (k := k) (show (60 : Nat) ≠ k by omega), u2_k (k := k) (show (61 : Nat) ≠ k by omega), u2_k (k := k) (show (62 : Nat) ≠ k by omega), u2_k (k := k) (show (63 : Nat) ≠ k by omega), u2_k (k := k) (show (65 : Nat) ≠ k by omega), u2_k (k := k) (show (100 : Nat) ≠ k by omega)]
  exact h.2
theorem RdM.u100 {Z : Nat → Nat → Int32} {i : Nat} {v : Int32} (h : RdM Z) (hi : 69 ≤ i) : RdM (u2 Z 100 i v) := by
  refine ⟨h.1.u100 (by omega), ?_⟩
  rw [u2_k (show (53 : Nat) ≠ 100 by decide), u2_k (show (54 : Nat) ≠ 100 by decide), u2_k (show (55 : Nat) ≠ 100 by decide), u2_k (show (56 : Nat) ≠ 100 by decide), u2_k (show (60 : Nat) ≠ 100 by decide), u2_k (show (61 : Nat) ≠ 100 by decide), u2_k (show (62 : Nat) ≠ 100 by decide), u2_k (show (63 : Nat) ≠ 100 by decide), u2_k (show (65 : Nat) ≠ 100 by decide), u2_i (i := i) (show 66 ≠ i by omega) rfl, u2_i (i := i) (show 67 ≠ i by omega) rfl, u2_i (i := i) (show 68 ≠ i by omega) rfl]
  exact h.2
theorem RdM.u66 {Z : Nat → Nat → Int32} {v : Int32} (h : RdM Z) (hv : ∃ n, v = nI n ∧ n < 6) : RdM (u2 Z 100 66 v) := by
  obtain ⟨n, rfl, hn⟩ := hv
  obtain ⟨g, ⟨a0, a1⟩, c⟩ := h
  refine ⟨g.u100 (by decide), ?_⟩
  rw [u2_k (show (53 : Nat) ≠ 100 by decide), u2_k (show (54 : Nat) ≠ 100 by decide), u2_k (show (55 : Nat) ≠ 100 by decide), u2_k (show (56 : Nat) ≠ 100 by decide), u2_k (show (60 : Nat) ≠ 100 by decide), u2_k (show (61 : Nat) ≠ 100 by decide), u2_k (show (62 : Nat) ≠ 100 by decide), u2_k (show (63 : Nat) ≠ 100 by decide), u2_k (show (65 : Nat) ≠ 100 by decide), u2_s, u2_i (i := 66) (show 67 ≠ 66 by decide) rfl, u2_i (i := 66) (show 68 ≠ 66 by decide) rfl]
  exact ⟨⟨⟨by rw [nI_clamp (by omega)], by rw [nI_clamp (by omega)]; exact hn⟩, a1⟩, c⟩
theorem RdM.u67 {Z : Nat → Nat → Int32} {b : Nat} (h : RdM Z) (e : Z 100 67 = nI b) (hb : b < 10) : RdM (u2 Z 100 67 (nI (b + 1))) := by
  obtain ⟨g, ⟨a0, a1, a2⟩, c, d, f, l, r⟩ := h
  refine ⟨g.u100 (by decide), ?_⟩
  rw [e, nI_clamp (by omega)] at l
  rw [u2_k (show (53 : Nat) ≠ 100 by decide), u2_k (show (54 : Nat) ≠ 100 by decide), u2_k (show (55 : Nat) ≠ 100 by decide), u2_k (show (56 : Nat) ≠ 100 by decide), u2_k (show (60 : Nat) ≠ 100 by decide), u2_k (show (61 : Nat) ≠ 100 by decide), u2_k (show (62 : Nat) ≠ 100 by decide), u2_k (show (63 : Nat) ≠ 100 by decide), u2_k (show (65 : Nat) ≠ 100 by decide), u2_s, u2_i (i := 67) (show 66 ≠ 67 by decide) rfl, u2_i (i := 67) (show 68 ≠ 67 by decide) rfl]
  refine ⟨⟨a0, ⟨by rw [nI_clamp (by omega)], by rw [nI_clamp (by omega)]; omega⟩, a2⟩, c, d, f, fun j hj => ?_, r⟩
  have := l j hj
  rw [nI_clamp (by omega)]; omega
theorem RdM.s65 {Z : Nat → Nat → Int32} {i : Nat} {v : Int32} (h : RdM Z) (hv : v ≠ 0) : RdM (u2 Z 65 i v) := by
  obtain ⟨g, a, c, d, f, l⟩ := h
  refine ⟨g.uk (by decide), ?_⟩
  rw [u2_k (show (53 : Nat) ≠ 65 by decide), u2_k (show (54 : Nat) ≠ 65 by decide), u2_k (show (55 : Nat) ≠ 65 by decide), u2_k (show (56 : Nat) ≠ 65 by decide), u2_k (show (60 : Nat) ≠ 65 by decide), u2_k (show (61 : Nat) ≠ 65 by decide), u2_k (show (62 : Nat) ≠ 65 by decide), u2_k (show (63 : Nat) ≠ 65 by decide), u2_k (show (100 : Nat) ≠ 65 by decide), u2_e]
  refine ⟨a, c, d, fun s hs h1 => ?_, l⟩
  by_cases e : s = i
  · have : upd (Z 65) i v s = v := if_pos e
    rw [this]; exact hv
  · have : upd (Z 65) i v s = Z 65 s := if_neg e
    rw [this]; exact f s hs h1
theorem RdM.s63 {Z : Nat → Nat → Int32} {i : Nat} {v : Int32} (h : RdM Z) (hv : Z 65 i ≠ 0) : RdM (u2 Z 63 i v) := by
  obtain ⟨g, a, c, d, f, l⟩ := h
  refine ⟨g.uk (by decide), ?_⟩
  rw [u2_k (show (53 : Nat) ≠ 63 by decide), u2_k (show (54 : Nat) ≠ 63 by decide), u2_k (show (55 : Nat) ≠ 63 by decide), u2_k (show (56 : Nat) ≠ 63 by decide), u2_k (show (60 : Nat) ≠ 63 by decide), u2_k (show (61 : Nat) ≠ 63 by decide), u2_k (show (62 : Nat) ≠ 63 by decide), u2_k (show (65 : Nat) ≠ 63 by decide), u2_k (show (100 : Nat) ≠ 63 by decide), u2_e]
  refine ⟨a, c, d, fun s hs h1 => ?_, l⟩
  by_cases e : s = i
  · rw [e]; exact hv
  · have : upd (Z 63) i v s = Z 63 s := if_neg e
    rw [this] at h1; exact f s hs h1
