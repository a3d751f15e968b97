/-! the new plan, alike on both sides -/
def BE (U W : Zf) : Prop := (∀ j, j < 10 → W 1 j = U 53 j ∧ W 2 j = U 54 j ∧ W 3 j = U 55 j ∧ W 4 j = U 56 j ∧ W 5 j = U 57 j ∧ W 6 j = U 58 j ∧ W 7 j = U 59 j) ∧ (∀ l, l < 12 → W 8 l = U 60 l ∧ W 9 l = U 61 l ∧ W 10 l = U 62 l) ∧ (∀ s, s < 4 → W 11 s = U 63 s ∧ W 12 s = U 64 s ∧ W 13 s = U 65 s) ∧ (W 100 19 = U 100 66 ∧ W 100 20 = U 100 67 ∧ W 100 21 = U 100 68 ∧ W 100 22 = U 100 69 ∧ W 100 23 = U 100 70)
def PQ (Q P : Zf) : Prop := ∀ k, k ≤ 17 ∨ k = 30 ∨ k = 31 → P k = Q k
theorem be_BE {U : Zf} : BE U (becZ U) := by
  refine ⟨fun j hj => ?_, fun l hl => ?_, fun s hs => ?_, rfl, rfl, rfl, rfl, rfl⟩
  · rw [be_1, be_2, be_3, be_4, be_5, be_6, be_7]
    exact ⟨if_pos hj, if_pos hj, if_pos hj, if_pos hj, if_pos hj, if_pos hj, if_pos hj⟩
  · rw [be_8, be_9, be_10]
    exact ⟨if_pos hl, if_pos hl, if_pos hl⟩
  · rw [be_11, be_12, be_13]
    exact ⟨if_pos hs, if_pos hs, if_pos hs⟩
theorem BE.fr {U V W : Zf} (h : BE U V) (hk : ∀ k, 1 ≤ k → k ≤ 13 → W k = V k) (hi : ∀ i, 19 ≤ i → i ≤ 23 → W 100 i = V 100 i) : BE U W := by
  unfold BE at *
  rw [hk 1 (by decide) (by decide), hk 2 (by decide) (by decide), hk 3 (by decide) (by decide), hk 4 (by decide) (by decide), hk 5 (by decide) (by decide), hk 6 (by decide) (by decide), hk 7 (by decide) (by decide), hk 8 (by decide) (by decide), hk 9 (by decide) (by decide), hk 10 (by decide) (by decide), hk 11 (by decide) (by decide), hk 12 (by decide) (by decide), hk 13 (by decide) (by decide), hi 19 (by decide) (by decide), hi 20 (by decide) (by decide), hi 21 (by decide) (by decide), hi 22 (by decide) (by decide), hi 23 (by decide) (by decide)]
  exact h
theorem wq_new {c : Nat} {Q U P : Zf} (hp : PlR c Q U) (hR : RdM U) (hy : YQ Q) (hP : PQ Q P) : wfQ P := by
  obtain ⟨-, ⟨-, r7, r8⟩, -⟩ := hR
  obtain ⟨h0, h1, h12, h13, h14, h10, h11, -⟩ := hy
  obtain ⟨⟨⟨p3, p31⟩, pb, -⟩, -, ⟨⟨q0, -, -⟩, ⟨d, d1, d2⟩, -⟩, -⟩ := hp
  have e30 : P 30 = Q 30 := hP 30 (by omega)
  have e31 : P 31 = Q 31 := hP 31 (by omega)
  have n3 : pN P 30 3 = pN U 100 67 := by unfold pN; rw [e30, p3]
  have n31 : pN P 31 0 = pN U 100 68 := by unfold pN; rw [e31, p31]
  have n0' : P 30 0 = nI d := by rw [e30, q0, d2]
  refine ⟨h0.e (hP 0 (by omega)), h1.e (hP 1 (by omega)), h12.e (hP 12 (by omega)), h13.e (hP 13 (by omega)), h14.e (hP 14 (by omega)), ⟨?_, ?_⟩, ⟨?_, ?_⟩, ⟨?_, ?_⟩, h10.e (hP 10 (by omega)), h11.e (hP 11 (by omega)), fun i hi q => ?_⟩
  · rw [n3, e30, p3]; exact r7.1
  · rw [n3]; exact r7.2
  · rw [n31, e31, p31]; exact r8.1
  · rw [n31]; exact r8.2
  · rw [pN_mk (by omega) n0']; exact n0'
  · rw [pN_mk (by omega) n0']; omega
  · rw [n3] at hi
    have z : Q 0 i = 0 := by
      have : pN Q 0 i = 0 := by unfold pN at *; rw [← hP 0 (by omega)]; exact q
      rw [(h0 i).1, this]; rfl
    obtain ⟨-, p, p1, p2⟩ := (pb i hi).2.1 z
    have e : P 3 i = nI p := by rw [hP 3 (by omega)]; exact p2
    rw [pN_mk (by omega) e]; exact ⟨e, p1⟩
theorem nw_cnt {c : Nat} {Q U P W : Zf} (hp : PlR c Q U) (hP : PQ Q P) (hB : BE U W) : pN P 30 0 = pN W 100 19 ∧ pN P 30 3 = pN W 100 20 ∧ pN P 31 0 = pN W 100 21 := by
  obtain ⟨-, -, -, b1, b2, b3, -⟩ := hB
  unfold pN
  rw [hP 30 (by omega), hP 31 (by omega), b1, b2, b3, hp.1.1.1, hp.1.1.2, hp.2.2.1.1.1]
  exact ⟨rfl, rfl, rfl⟩
theorem nw_lk {c : Nat} {Q U P W : Zf} (hp : PlR c Q U) (hP : PQ Q P) (hB : BE U W) (hw : wfM W) : (∀ k w, k < pN P 30 3 → w < 3 → P 10 (k * 3 + w) = f_Mod_linkTo W k w) ∧ ∀ k, k < pN P 30 3 → P 11 k = f_Mod_setFrom W k := by
  obtain ⟨-, n3, n31⟩ := nw_cnt hp hP hB
  have e20 : pN W 100 20 = pN U 100 67 := by unfold pN; rw [hB.2.2.2.2.1]
  have e21 : pN W 100 21 = pN U 100 68 := by unfold pN; rw [hB.2.2.2.2.2.1]
  have l12 := hw.lnk.2
  have w8 : ∀ l, l < pN W 100 21 → pN W 8 l = pN U 60 l := fun l hl => by unfold pN; rw [(hB.2.1 l (by omega)).1]
  have w9 : ∀ l, l < pN W 100 21 → pN W 9 l = pN U 61 l := fun l hl => by unfold pN; rw [(hB.2.1 l (by omega)).2.1]
  have w10 : ∀ l, l < pN W 100 21 → pN W 10 l = pN U 62 l := fun l hl => by unfold pN; rw [(hB.2.1 l (by omega)).2.2]
  obtain ⟨⟨-, -, -, ⟨pi, ps'⟩, pu, -⟩, -⟩ := hp
  rw [n3, e20, hP 10 (by omega), hP 11 (by omega)]
  refine ⟨fun k w hk hw3 => ?_, fun k hk => ?_⟩
  · rcases pi k w hk hw3 with ⟨a1, a2⟩ | ⟨l, a1, a2, a3, a4⟩
    · rw [a1, ltm_no hw]
      intro m hm z
      rw [w9 m hm, w10 m hm] at z
      exact a2 m (by omega) z
    · rw [a2, ltm_of hw (l := l) (by omega) (by rw [w9 l (by omega)]; exact a3) (by rw [w10 l (by omega)]; exact a4)]
      intro m hm z1 z2
      rw [w9 m hm] at z1
      rw [w10 m hm] at z2
      exact (pu m l (by omega) a1).1 (by omega) (by omega)
  · rcases ps' k hk with ⟨a1, a2⟩ | ⟨l, a1, a2, a3, a4⟩
    · rw [a1, sfm_no hw]
      intro m hm z
      rw [w8 m hm, w10 m hm] at z
      exact a2 m (by omega) z
    · rw [a2, sfm_of hw (l := l) (by omega) (by rw [w8 l (by omega)]; exact a3) (by rw [w10 l (by omega)]; exact a4)]
      intro m hm z1 z2
      rw [w8 m hm] at z1
      rw [w10 m hm] at z2
      exact (pu m l (by omega) a1).2 (by omega) z2 a4
theorem pk_new {c : Nat} {Q U P W : Zf} (hp : PlR c Q U) (hy : YQ Q) (hP : PQ Q P) (hB : BE U W) (hwP : wfP P) (hw : wfM W) (hM : PlM W) (ho : ∀ k, k < pN P 30 3 → pN P 18 k = pN W 34 k) : PK P W := by
  have cn := nw_cnt hp hP hB
  have e20 : pN W 100 20 = pN U 100 67 := by unfold pN; rw [hB.2.2.2.2.1]
  have e21 : pN W 100 21 = pN U 100 68 := by unfold pN; rw [hB.2.2.2.2.2.1]
  have b10 : pN P 30 3 ≤ 10 := by have := hwP.1.2.2.2.2.2.1.2; omega
  have l12 : pN P 31 0 ≤ 12 := by have := hwP.1.2.2.2.2.2.2.1.2; omega
  have hp' := hp
  obtain ⟨⟨-, pb, pl, -, pu, -⟩, pp, -, -⟩ := hp'
  refine ⟨⟨hwP, hw, hM⟩, cn, fun k hk => ?_, fun l hl => ?_, nw_lk hp hP hB hw, fun l m hl hm z1 z2 => ?_, fun s hs => ?_⟩
  · have g := pb k (by omega)
    obtain ⟨v1, v2, v3, v4, v5, v6, v7⟩ := hB.1 k (by omega)
    have p0 : pN P 0 k = pN Q 0 k := by unfold pN; rw [hP 0 (by omega)]
    have q0 : ∀ m, pN P 0 k = m → Q 0 k = nI m := fun m z => by rw [p0] at z; rw [(hy.1 k).1, z]
    obtain ⟨⟨g1, g2, g3⟩, g4, g5, g6, g7⟩ := g
    refine ⟨⟨?_, ?_, ho k hk⟩, fun z => ?_, fun z => ?_, fun z => ?_, fun z => ?_⟩
    · unfold pN; rw [hP 0 (by omega), v3, g1]
    · unfold pN; rw [hP 1 (by omega), v1, g2]
    · rw [hP 3 (by omega), v4]; exact (g4 (q0 0 z)).1
    · have g := g5 (q0 1 z)
      rw [hP 5 (by omega), hP 7 (by omega), hP 8 (by omega), v5, v6, v7]
      exact ⟨g.1.2.1, g.1.2.2, g.2.1, g.2.2⟩
    · obtain ⟨g8, g9, r, r1, r2⟩ := g6 (q0 2 z)
      rw [hP 3 (by omega), hP 6 (by omega), v4, v5]
      refine ⟨g8, g9, ?_, ?_⟩
      · rw [r2, nI_toInt (by omega)]; omega
      · rw [r2, nI_toInt (by omega)]; omega
    · have g := g7 (q0 3 z)
      rw [hP 9 (by omega), g, ← v4]
      have i4 := hw.2.2.2.2.2.2.1 k
      have : W 4 k = 1 ↔ pN W 4 k = 1 := by
        refine ⟨fun y => by unfold pN; rw [y]; decide, fun y => by rw [i4.1, y]; decide⟩
      rw [this]
  · obtain ⟨v1, v2, v3⟩ := hB.2.1 l (by omega)
    obtain ⟨g1, g2, g3⟩ := pl l (by omega)
    unfold pN
    rw [hP 12 (by omega), hP 13 (by omega), hP 14 (by omega), v1, v2, v3, g1, g2, g3]
    exact ⟨rfl, rfl, rfl⟩
  · have a := hB.2.1 l (by omega)
    have b := hB.2.1 m (by omega)
    unfold pN at z1 z2
    rw [a.2.1, b.2.1] at z1
    rw [a.2.2, b.2.2] at z2
    exact (pu l m (by omega) (by omega)).1 z1 z2
  · obtain ⟨v1, v2, v3⟩ := hB.2.2.1 s hs
    obtain ⟨g1, g2⟩ := pp s hs
    rw [hP 15 (by omega), hP 16 (by omega), hP 17 (by omega), v1, v2, v3]
    refine ⟨g1, fun z => ?_⟩
    obtain ⟨g3, g4, g, g5, g6⟩ := g2 z
    exact ⟨g3, g4, by rw [g6, nI_toInt (by omega)]; omega⟩
