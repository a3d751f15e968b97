/-! the tape, images -/
theorem b_i8 (v : Int32) {i : Nat} (hi : i < 32) : bt (v.toInt8.toInt32) i = if i < 8 then bt v i else bt v 7 := by
  unfold bt
  rw [Int8.toBitVec_toInt32, BitVec.getLsbD_signExtend, decide_eq_true hi, Bool.true_and]
  have e : ∀ j, j < 8 → v.toInt8.toBitVec.getLsbD j = v.toBitVec.getLsbD j := by
    intro j hj
    rw [show v.toInt8.toBitVec = v.toBitVec.signExtend 8 from rfl, BitVec.getLsbD_signExtend, decide_eq_true hj, Bool.true_and, if_pos (by omega)]
  by_cases q : i < 8
  · rw [if_pos q, if_pos q]; exact e i q
  · rw [if_neg q, if_neg q, BitVec.msb_eq_getLsbD_last]; exact e 7 (by decide)
theorem t_pos {v : Int32} (h : bt v 31 = false) : v.toInt = (v.toBitVec.toNat : Int) := by
  rw [← Int32.toInt_toBitVec]
  exact BitVec.toInt_eq_toNat_of_msb (by rw [BitVec.msb_eq_getLsbD_last]; exact h)
theorem t_neg {v : Int32} (h : bt v 31 = true) : v.toInt < 0 := by
  have e : v.toBitVec.msb = true := by rw [BitVec.msb_eq_getLsbD_last]; exact h
  rw [BitVec.msb_eq_toInt] at e
  exact of_decide_eq_true e
theorem t_lt {v : Int32} (h : ∀ i, 7 ≤ i → bt v i = false) : 0 ≤ v.toInt ∧ v.toInt < 128 := by
  have e := t_pos (h 31 (by decide))
  have l := Nat.lt_pow_two_of_testBit (n := 7) v.toBitVec.toNat (fun i hi => by rw [BitVec.testBit_toNat]; exact h i hi)
  have : (2 : Nat) ^ 7 = 128 := by decide
  omega
theorem t_ge {v : Int32} (h : bt v 31 = false) (h7 : bt v 7 = true) : 128 ≤ v.toInt := by
  have e := t_pos h
  have l := Nat.ge_two_pow_of_testBit (i := 7) (x := v.toBitVec.toNat) (by rw [BitVec.testBit_toNat]; exact h7)
  have : (2 : Nat) ^ 7 = 128 := by decide
  omega
def cbB (x : Int32) (s : Nat) : Int32 := vp_nar .byte (((x.toUInt32 >>> ((nI s).toUInt32 &&& Int32.toUInt32 31)).toInt32).toInt8.toInt32)
def rbB (x : Int32) (s : Nat) : Int32 := (x >>> (nI s &&& 31)) &&& 255
theorem by_rel (x : Int32) {s : Nat} (hs : s ≤ 24) : ByR (cbB x s) (rbB x s) := by
  have c : ∀ i, i < 32 → bt (cbB x s) i = if i < 8 then bt x (s + i) else bt x (s + 7) := by
    intro i hi
    show bt (((((x.toUInt32 >>> ((nI s).toUInt32 &&& Int32.toUInt32 31)).toInt32).toInt8.toInt32).toInt8.toInt32)) i = _
    rw [b_i8 _ hi]
    by_cases q : i < 8
    · rw [if_pos q, if_pos q, b_i8 _ hi, if_pos q, b_ushr s (by omega)]
    · rw [if_neg q, if_neg q, b_i8 _ (by decide), if_pos (by decide), b_ushr s (by omega)]
  have r : ∀ i, i < 32 → bt (rbB x s) i = if i < 8 then bt x (s + i) else false := by
    intro i hi
    show bt ((x >>> (nI s &&& 31)) &&& 255) i = _
    rw [b_and, b_255]
    by_cases q : i < 8
    · rw [if_pos q, decide_eq_true q, Bool.and_true, b_sshr s (by omega) x hi, if_pos (by omega)]
    · rw [if_neg q, decide_eq_false q, Bool.and_false]
  cases z : bt x (s + 7) with
  | false =>
    left
    have e : rbB x s = cbB x s := by
      refine b_ext (fun i hi => ?_)
      rw [c i hi, r i hi]
      by_cases q : i < 8
      · rw [if_pos q, if_pos q]
      · rw [if_neg q, if_neg q, z]
    have l := t_lt (v := cbB x s) (fun i hi => by
      by_cases h32 : i < 32
      · rw [c i h32]
        by_cases q : i < 8
        · rw [if_pos q, show i = 7 by omega]; exact z
        · rw [if_neg q]; exact z
      · exact b_big (by omega))
    exact ⟨l.1, l.2, e⟩
  | true =>
    right
    refine ⟨t_neg ?_, t_ge ?_ ?_⟩
    · rw [c 31 (by decide), if_neg (by decide)]; exact z
    · rw [r 31 (by decide), if_neg (by decide)]
    · rw [r 7 (by decide), if_pos (by decide)]; exact z
theorem pb_sp {P Z : Zf} {n : Nat} {x : Int32} : (∀ k, k ≠ 506 → k ≠ 507 → f_Bus_putBytes P n x Z k = Z k) ∧ (∀ i, i ≠ 1 → f_Bus_putBytes P n x Z 507 i = Z 507 i) ∧ f_Bus_putBytes P n x Z 507 1 = nI (n + 4) ∧ (∀ j, j < n ∨ n + 4 ≤ j → f_Bus_putBytes P n x Z 506 j = Z 506 j) ∧ ∀ i, i < 4 → f_Bus_putBytes P n x Z 506 (n + i) = cbB x (24 - 8 * i) := by
  unfold f_Bus_putBytes
  refine ⟨fun k h1 h2 => ?_, fun i hi => ?_, u2_s, fun j hj => ?_, fun i hi => ?_⟩
  · rw [u2_k h2, u2_k h1, u2_k h2, u2_k h1, u2_k h2, u2_k h1, u2_k h2, u2_k h1]
  · rw [u2_i hi rfl, u2_k (by decide), u2_i hi rfl, u2_k (by decide), u2_i hi rfl, u2_k (by decide), u2_i hi rfl, u2_k (by decide)]
  · rw [u2_k (by decide), u2_i (by omega) rfl, u2_k (by decide), u2_i (by omega) rfl, u2_k (by decide), u2_i (by omega) rfl, u2_k (by decide), u2_i (by omega) rfl]
  · have cs : i = 0 ∨ i = 1 ∨ i = 2 ∨ i = 3 := by omega
    rcases cs with rfl | rfl | rfl | rfl
    · rw [u2_k (by decide), u2_i (by omega) rfl, u2_k (by decide), u2_i (by omega) rfl, u2_k (by decide), u2_i (by omega) rfl, u2_k (by decide)]; exact u2_s
    · rw [u2_k (by decide), u2_i (by omega) rfl, u2_k (by decide), u2_i (by omega) rfl, u2_k (by decide)]; exact u2_s
    · rw [u2_k (by decide), u2_i (by omega) rfl, u2_k (by decide)]; exact u2_s
    · rw [u2_k (by decide)]; exact u2_s
def ag (a b c d e : Int32) (k : Nat) : Int32 := if 4 ≤ k then if 8 ≤ k then if 12 ≤ k then if 16 ≤ k then e else d else c else b else a
theorem fd_23 {n : Nat} {a b c d e : Int32} : ∀ (t k : Nat) (V : Zf), 20 - k < t → k ≤ 20 → (f_Mod_feed_23 n a b c d e t V k).1 = nI (n + 20) ∧ (f_Mod_feed_23 n a b c d e t V k).2 100 32 = nI (n + 20) ∧ (∀ i, i ≠ 32 → (f_Mod_feed_23 n a b c d e t V k).2 100 i = V 100 i) ∧ (∀ j, j ≠ 31 → j ≠ 100 → (f_Mod_feed_23 n a b c d e t V k).2 j = V j) ∧ (∀ j, j < n + k ∨ n + 20 ≤ j → (f_Mod_feed_23 n a b c d e t V k).2 31 j = V 31 j) ∧ ∀ i, k ≤ i → i < 20 → (f_Mod_feed_23 n a b c d e t V k).2 31 (n + i) = rbB (ag a b c d e i) (24 - 8 * (i % 4)) := by
  intro t
  induction t with
  | zero => intro k V h; omega
  | succ t ih =>
    intro k V h hk
    rw [f_Mod_feed_23]
    by_cases q : 20 ≤ k
    · rw [if_pos q]
      refine ⟨rfl, ?_, fun i hi => ?_, fun j h1 h2 => ?_, fun j hj => ?_, fun i h1 h2 => by omega⟩
      · show u2 V 100 32 (nI (n + 20)) 100 32 = nI (n + 20)
        exact u2_s
      · show u2 V 100 32 (nI (n + 20)) 100 i = V 100 i
        exact u2_i hi rfl
      · show u2 V 100 32 (nI (n + 20)) j = V j
        exact u2_k h2
      · show u2 V 100 32 (nI (n + 20)) 31 j = V 31 j
        rw [u2_k (by decide)]
    · rw [if_neg q]
      have e1 : (if 4 ≤ k then if 8 ≤ k then if 12 ≤ k then if 16 ≤ k then f_Mod_feed_23 n a b c d e t (u2 V 31 (n + k) ((e >>> ((nI (24 - (8 * (k % 4)))) &&& 31)) &&& 255)) (k + 1) else f_Mod_feed_23 n a b c d e t (u2 V 31 (n + k) ((d >>> ((nI (24 - (8 * (k % 4)))) &&& 31)) &&& 255)) (k + 1) else f_Mod_feed_23 n a b c d e t (u2 V 31 (n + k) ((c >>> ((nI (24 - (8 * (k % 4)))) &&& 31)) &&& 255)) (k + 1) else f_Mod_feed_23 n a b c d e t (u2 V 31 (n + k) ((b >>> ((nI (24 - (8 * (k % 4)))) &&& 31)) &&& 255)) (k + 1) else f_Mod_feed_23 n a b c d e t (u2 V 31 (n + k) ((a >>> ((nI (24 - (8 * (k % 4)))) &&& 31)) &&& 255)) (k + 1)) = f_Mod_feed_23 n a b c d e t (u2 V 31 (n + k) (rbB (ag a b c d e k) (24 - 8 * (k % 4)))) (k + 1) := by
        unfold ag rbB
        by_cases q4 : 4 ≤ k
        · rw [if_pos q4, if_pos q4]
          by_cases q8 : 8 ≤ k
          · rw [if_pos q8, if_pos q8]
            by_cases q12 : 12 ≤ k
            · rw [if_pos q12, if_pos q12]
              by_cases q16 : 16 ≤ k
              · rw [if_pos q16, if_pos q16]
              · rw [if_neg q16, if_neg q16]
            · rw [if_neg q12, if_neg q12]
          · rw [if_neg q8, if_neg q8]
        · rw [if_neg q4, if_neg q4]
      rw [e1]
      obtain ⟨i1, i2, i3, i4, i5, i6⟩ := ih (k + 1) (u2 V 31 (n + k) (rbB (ag a b c d e k) (24 - 8 * (k % 4)))) (by omega) (by omega)
      refine ⟨i1, i2, fun i hi => ?_, fun j h1 h2 => ?_, fun j hj => ?_, fun i h1 h2 => ?_⟩
      · rw [i3 i hi, u2_k (by decide)]
      · rw [i4 j h1 h2, u2_k h1]
      · rw [i5 j (by omega), u2_i (by omega) rfl]
      · by_cases z : i = k
        · subst z
          rw [i5 (n + i) (by omega)]; exact u2_s
        · exact i6 i (by omega) h2
theorem RelW.tp {S : SA} {P Y Z W Q V : Zf} {m : Nat} (h : RelW S P Y Z W) (hq : ∀ k, k ≠ 506 → k ≠ 507 → Q k = Z k) (hq7 : ∀ i, i ≠ 1 → Q 507 i = Z 507 i) (hv : ∀ k, k ≠ 31 → k ≠ 100 → V k = W k) (hv1 : ∀ i, i ≠ 18 → i ≠ 32 → V 100 i = W 100 i) (q1 : Q 507 1 = nI m) (v1 : V 100 32 = nI m) (hm : m ≤ 900) (ht : TpR Q V) : RelW S P Y Q V := by
  obtain ⟨⟨g1, g2, g3, g4, g5, g6, g7⟩, h2, ⟨h3, h4⟩, ⟨a1, a2, a3, a4⟩, ⟨b1, b2⟩, ⟨c1, c2, c3⟩, h7⟩ := h
  have pq : pN Q 507 1 = m := pN_mk (by omega) q1
  have pv : pN V 100 32 = m := pN_mk (by omega) v1
  refine ⟨⟨?_, ?_, ?_, g4, ?_, ?_, ?_⟩, ?_, ⟨?_, ?_⟩, ⟨?_, ?_, ?_, ?_⟩, ⟨?_, ?_⟩, ⟨?_, ?_, ht⟩, h7⟩
  · unfold NtI pN at *
    rw [hq 310 (by omega) (by omega), hq 311 (by omega) (by omega), hq 312 (by omega) (by omega)]; exact g1
  · unfold HiI pN at *
    rw [hq 303 (by omega) (by omega)]; exact g2
  · rw [pq]; exact ⟨q1, hm⟩
  · unfold HiL pN at *
    rw [hq 303 (by omega) (by omega)]; exact g5
  · rw [hq7 7 (by decide)]; exact g6
  · unfold HiI pN at *
    rw [hq7 7 (by decide), hq 403 (by omega) (by omega), hq 410 (by omega) (by omega)]; exact g7
  · obtain ⟨m1, m2, m3, m4, m5, m6, m7, m8, m9, m10, m11, m12⟩ := h2
    refine ⟨?_, m2.of (hv1 _ (by omega) (by omega)) (hv1 _ (by omega) (by omega)), ?_, m4.of (hv1 _ (by omega) (by omega)) (hv _ (by omega) (by omega)), ?_, ?_, ?_, ?_, ?_, ?_, ?_, by rw [pv]; exact v1, by omega⟩
    · unfold wfM isN pN at *
      rw [hv 3 (by omega) (by omega), hv 1 (by omega) (by omega), hv 8 (by omega) (by omega), hv 9 (by omega) (by omega), hv 10 (by omega) (by omega), hv 34 (by omega) (by omega), hv 4 (by omega) (by omega), hv 11 (by omega) (by omega), hv 13 (by omega) (by omega), hv1 20 (by omega) (by omega), hv1 21 (by omega) (by omega), hv1 19 (by omega) (by omega)]; exact m1
    · unfold TkI hasT pN at *
      rw [hv 34 (by omega) (by omega), hv1 20 (by omega) (by omega)]; exact m3
    · exact m5.of (hv 2 (by omega) (by omega)) (hv 8 (by omega) (by omega)) (hv 9 (by omega) (by omega)) (hv1 20 (by omega) (by omega)) (hv1 21 (by omega) (by omega))
    · unfold isN pN at *
      rw [hv 2 (by omega) (by omega)]; exact m6
    · rw [hv 0 (by omega) (by omega)]; exact m7
    · unfold pN at *
      rw [hv1 19 (by omega) (by omega)]; exact m8
    · unfold RwI iNr at *
      rw [hv 53 (by omega) (by omega), hv 54 (by omega) (by omega), hv 55 (by omega) (by omega), hv 56 (by omega) (by omega), hv 60 (by omega) (by omega), hv 61 (by omega) (by omega), hv 62 (by omega) (by omega)]; exact m9
    · unfold VvI pN at *
      rw [hv1 50 (by omega) (by omega)]; exact m10
    · unfold isN pN at *
      rw [hv 2 (by omega) (by omega)]; exact m11
  · exact h3.cg (fun k hk => hv k (by omega) (by omega)) (fun i hi => hv1 i (by omega) (by omega))
  · exact h4.cg (fun k hk => hv k (by omega) (by omega)) (fun i hi => hv1 i (by omega) (by omega))
  · rw [hq 302 (by omega) (by omega), hv 0 (by omega) (by omega)]; exact a1
  · exact a2.cg (hq _ (by omega) (by omega)) (fun p hp => hq _ (by omega) (by omega)) (hv1 _ (by omega) (by omega)) (hv1 _ (by omega) (by omega)) (fun i _ _ => by rw [hv 0 (by omega) (by omega)])
  · exact a3.cg (hq _ (by omega) (by omega)) (hq _ (by omega) (by omega)) (hq _ (by omega) (by omega)) (hq _ (by omega) (by omega)) (hv1 _ (by omega) (by omega)) (hv _ (by omega) (by omega)) (hv _ (by omega) (by omega)) (hv _ (by omega) (by omega))
  · exact a4.cg (hq _ (by omega) (by omega)) (hv _ (by omega) (by omega))
  · rw [hq7 7 (by decide), hv1 30 (by omega) (by omega)]; exact b1
  · intro z
    rw [hq7 7 (by decide)] at z
    obtain ⟨⟨d1, d2, d3, d4⟩, d5, d6⟩ := b2 z
    refine ⟨⟨?_, ?_, ?_, ?_⟩, ?_, ?_⟩
    · rw [hq 402 (by omega) (by omega), hv 0 (by omega) (by omega)]; exact d1
    · exact d2.cg (hq _ (by omega) (by omega)) (fun p hp => hq _ (by omega) (by omega)) (hv1 _ (by omega) (by omega)) (hv1 _ (by omega) (by omega)) (fun i _ _ => by rw [hv 0 (by omega) (by omega)])
    · exact d3.cg (hq _ (by omega) (by omega)) (hq _ (by omega) (by omega)) (hq _ (by omega) (by omega)) (hq _ (by omega) (by omega)) (hv1 _ (by omega) (by omega)) (hv _ (by omega) (by omega)) (hv _ (by omega) (by omega)) (hv _ (by omega) (by omega))
    · exact d4.cg (hq _ (by omega) (by omega)) (hv _ (by omega) (by omega))
    · unfold AcJ pN at *
      rw [hv1 27 (by omega) (by omega), hv1 28 (by omega) (by omega)]; exact d5
    · unfold pN at *
      rw [hq 410 (by omega) (by omega), hq 411 (by omega) (by omega), hq 412 (by omega) (by omega)]; exact d6
  · rw [q1, v1]
  · rw [hq7 2 (by decide), hv1 33 (by omega) (by omega)]; exact c2
theorem e_feed : E_feed RelW := by
  intro S P Y Z W a b c d e h
  have h0 := h.u0
  have ht := h0.2.2.2.2.2.1
  have hn := h.1.2.2.1
  unfold f_Bus_feed f_Mod_feed
  generalize u2 W 100 18 0 = V at *
  generalize hm : pN Z 507 1 = n at *
  by_cases q : n + 20 ≤ 900
  · rw [if_pos q, if_pos q]
    obtain ⟨r1, r2, r3, r4, r5, r6⟩ := fd_23 (n := n) (a := a) (b := b) (c := c) (d := d) (e := e) 21 0 V (by omega) (by omega)
    generalize f_Mod_feed_23 n a b c d e 21 V 0 = R at *
    refine ⟨r1.symm, ?_⟩
    obtain ⟨a1, a2, a3, a4, a5⟩ := pb_sp (P := P) (Z := Z) (n := n) (x := a)
    generalize f_Bus_putBytes P n a Z = Z1 at *
    obtain ⟨b1, b2, b3, b4, b5⟩ := pb_sp (P := P) (Z := Z1) (n := n + 4) (x := b)
    generalize f_Bus_putBytes P (n + 4) b Z1 = Z2 at *
    obtain ⟨c1, c2, c3, c4, c5⟩ := pb_sp (P := P) (Z := Z2) (n := n + 8) (x := c)
    generalize f_Bus_putBytes P (n + 8) c Z2 = Z3 at *
    obtain ⟨d1, d2, d3, d4, d5⟩ := pb_sp (P := P) (Z := Z3) (n := n + 12) (x := d)
    generalize f_Bus_putBytes P (n + 12) d Z3 = Z4 at *
    obtain ⟨e1, e2, e3, e4, e5⟩ := pb_sp (P := P) (Z := Z4) (n := n + 16) (x := e)
    generalize f_Bus_putBytes P (n + 16) e Z4 = Z5 at *
    have kk : ∀ k, k ≠ 506 → k ≠ 507 → Z5 k = Z k := fun k x y => by rw [e1 k x y, d1 k x y, c1 k x y, b1 k x y, a1 k x y]
    show RelW S P Y (ct Z5 Z) R.2
    rw [ct_id (fun k hk => kk k (by omega) (by omega))]
    refine h0.tp (m := n + 20) kk (fun i hi => by rw [e2 i hi, d2 i hi, c2 i hi, b2 i hi, a2 i hi]) r4 (fun i _ hi => r3 i hi) e3 r2 (by omega) (fun i hi => ?_)
    rw [pN_mk (by omega) e3] at hi
    by_cases l0 : i < n
    · rw [e4 i (by omega), d4 i (by omega), c4 i (by omega), b4 i (by omega), a4 i (by omega), r5 i (by omega)]
      exact ht.2.2 i (by omega)
    · obtain ⟨u, rfl⟩ : ∃ u, i = n + u := ⟨i - n, by omega⟩
      rw [r6 u (by omega) (by omega)]
      unfold ag
      by_cases l1 : u < 4
      · rw [if_neg (by omega), e4 _ (by omega), d4 _ (by omega), c4 _ (by omega), b4 _ (by omega), a5 u l1, show 24 - 8 * (u % 4) = 24 - 8 * u by omega]
        exact by_rel _ (by omega)
      · rw [if_pos (by omega)]
        by_cases l2 : u < 8
        · rw [if_neg (by omega), e4 _ (by omega), d4 _ (by omega), c4 _ (by omega), show n + u = n + 4 + (u - 4) by omega, b5 (u - 4) (by omega), show 24 - 8 * (u % 4) = 24 - 8 * (u - 4) by omega]
          exact by_rel _ (by omega)
        · rw [if_pos (by omega)]
          by_cases l3 : u < 12
          · rw [if_neg (by omega), e4 _ (by omega), d4 _ (by omega), show n + u = n + 8 + (u - 8) by omega, c5 (u - 8) (by omega), show 24 - 8 * (u % 4) = 24 - 8 * (u - 8) by omega]
            exact by_rel _ (by omega)
          · rw [if_pos (by omega)]
            by_cases l4 : u < 16
            · rw [if_neg (by omega), e4 _ (by omega), show n + u = n + 12 + (u - 12) by omega, d5 (u - 12) (by omega), show 24 - 8 * (u % 4) = 24 - 8 * (u - 12) by omega]
              exact by_rel _ (by omega)
            · rw [if_pos (by omega), show n + u = n + 16 + (u - 16) by omega, e5 (u - 16) (by omega), show 24 - 8 * (u % 4) = 24 - 8 * (u - 16) by omega]
              exact by_rel _ (by omega)
  · rw [if_neg q, if_neg q]
    exact ⟨rfl, by rw [ct_id (fun _ _ => rfl)]; exact h0⟩
