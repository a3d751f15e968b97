/-! the new plan's cycle; the object and the reference behind an accepted text -/
theorem p3k {P1 : Zf} {k : Nat} (h : k ∈ [32, 18, 19, 20, 21, 22, 23, 24]) : P3 P1 k = f_Layout_lay P1 (-1) 0 P1 k := mx_in h
theorem p3o {P1 : Zf} {k : Nat} (h : k ∉ [32, 18, 19, 20, 21, 22, 23, 24]) : P3 P1 k = P1 k := mix_o h
theorem ly_of {P1 V : Zf} (hq : wfQ P1) (h18 : isN P1 18 10) (hw : wfM V) (hm : PlM V) (hs : PSt (P3 P1) V) : LYR (P3 P1) (f_Mod_laysCycle V) ∧ isN (P3 P1) 18 10 ∧ ∀ k, k < pN (P3 P1) 30 3 → pN (P3 P1) 18 k < pN (P3 P1) 30 3 := by
  have o : ∀ k, k ∉ [32, 18, 19, 20, 21, 22, 23, 24] → P3 P1 k = P1 k := fun k hk => p3o hk
  have n3 : pN (P3 P1) 30 3 = pN P1 30 3 := by unfold pN; rw [o 30 (by decide)]
  have n31 : pN (P3 P1) 31 0 = pN P1 31 0 := by unfold pN; rw [o 31 (by decide)]
  have b10 : pN P1 30 3 ≤ 10 := by have := hq.2.2.2.2.2.1.2; omega
  have h4 : PS4 P1 V (-1) 0 := by
    obtain ⟨s1, s2, s3, s4⟩ := hs
    refine ⟨⟨by rw [← n3]; exact s1, by rw [← n31]; exact s2⟩, fun k hk => ?_, fun l hl => ?_⟩
    · have := s3 k (by rw [n3]; exact hk)
      rw [if_neg (m1_ne (by omega))]
      refine ⟨?_, ?_⟩
      · rw [← this.1]; unfold pN; rw [o 1 (by decide)]
      · rw [← this.2, o 2 (by decide)]
    · have := s4 l (by rw [n31]; exact hl)
      unfold pN at *
      rw [o 12 (by decide), o 13 (by decide), o 14 (by decide)] at this
      exact this
  obtain ⟨⟨l1, l2⟩, ⟨l3, l4⟩, l5, l6⟩ := lay_rel (F := True) (L := P1) hq hw hm h4 (fun _ => h18)
  have q18 : ∀ k, pN (P3 P1) 18 k = pN (f_Layout_lay P1 (-1) 0 P1) 18 k := fun k => by unfold pN; rw [p3k (by decide)]
  refine ⟨⟨⟨?_, ?_⟩, fun k hk => ?_, fun l hl => ?_⟩, (l3 trivial).e (p3k (by decide)), fun k hk => ?_⟩
  · rw [p3k (by decide)]; exact l1
  · rw [p3k (by decide)]; exact l2
  · rw [n3] at hk
    rw [q18, p3k (k := 20) (by decide), p3k (k := 21) (by decide), p3k (k := 19) (by decide)]
    exact l5 k hk
  · rw [n31] at hl
    have e14 : pN (P3 P1) 14 l = pN P1 14 l := by unfold pN; rw [o 14 (by decide)]
    rw [p3k (k := 22) (by decide), p3k (k := 23) (by decide), e14]
    exact l6 l hl
  · rw [n3] at hk ⊢
    rw [q18]; exact l4 k hk
theorem ps_new {c : Nat} {Q U P W : Zf} (hp : PlR c Q U) (hP : PQ Q P) (hB : BE U W) (hwQ : wfQ P) : PSt P W := by
  have cn := nw_cnt hp hP hB
  have e20 : pN W 100 20 = pN U 100 67 := by unfold pN; rw [hB.2.2.2.2.1]
  have e21 : pN W 100 21 = pN U 100 68 := by unfold pN; rw [hB.2.2.2.2.2.1]
  have b10 : pN P 30 3 ≤ 10 := by have := hwQ.2.2.2.2.2.1.2; omega
  have l12 : pN P 31 0 ≤ 12 := by have := hwQ.2.2.2.2.2.2.1.2; omega
  obtain ⟨⟨-, pb, pl, -⟩, -⟩ := hp
  refine ⟨cn.2.1, cn.2.2, fun k hk => ?_, fun l hl => ?_⟩
  · obtain ⟨v1, v2, -⟩ := hB.1 k (by omega)
    obtain ⟨⟨-, g2, g3⟩, -⟩ := pb k (by omega)
    unfold pN
    rw [hP 1 (by omega), hP 2 (by omega), v1, v2, g2, g3]
    exact ⟨rfl, rfl⟩
  · obtain ⟨v1, v2, v3⟩ := hB.2.1 l (by omega)
    obtain ⟨g1, g2, g3⟩ := pl l (by omega)
    unfold pN
    rw [hP 12 (by omega), hP 13 (by omega), hP 14 (by omega), v1, v2, v3, g1, g2, g3]
    exact ⟨rfl, rfl, rfl⟩
/-- the target of a new block -/
theorem tg_new {c : Nat} {Q U P W : Zf} (hp : PlR c Q U) (hy : YQ Q) (hP : PQ Q P) (hB : BE U W) (hw : wfM W) {k : Nat} (hk : k < pN P 30 3) : tgP P k = tgM W k ∧ (¬ P 10 (k * 3 + 2) = -1 → ¬ (pN P 0 k = 0 ∨ pN P 0 k = 3)) := by
  have cn := nw_cnt hp hP hB
  have e20 : pN W 100 20 = pN U 100 67 := by unfold pN; rw [hB.2.2.2.2.1]
  have lk := (nw_lk hp hP hB hw).1 k 2 hk (by omega)
  have hq := hp.1.2.2.2.1.1 k 2 (by omega) (by omega)
  rw [← hP 10 (by omega)] at hq
  have l12 : pN U 100 68 ≤ 12 := by
    have := hw.lnk.2
    have e21 : pN W 100 21 = pN U 100 68 := by unfold pN; rw [hB.2.2.2.2.2.1]
    omega
  unfold tgP tgM lkP
  rw [← lk]
  rcases hq with ⟨a1, -⟩ | ⟨l, a1, a2, a3, a4⟩
  · rw [a1, if_pos rfl, if_pos (by decide)]
    exact ⟨rfl, fun z => absurd rfl z⟩
  · have e : nI l + 1 = nI (l + 1) := nI_1 l
    have e2 : nI (l + 1) + -1 = nI l := by
      rw [show (-1 : Int32) = - nI 1 by decide, ← Int32.sub_eq_add_neg, sub_nI (by omega)]; rfl
    rw [a2, e, nI_clamp (by omega), e2, if_neg (m1_ne (by omega))]
    refine ⟨rfl, fun _ z => ?_⟩
    have g := (hp.1.2.2.2.2.2 l a1).2 a4
    rw [a3] at g
    have p0 : pN P 0 k = (U 55 k).toNatClampNeg := by unfold pN; rw [hP 0 (by omega), (hp.1.2.1 k (by omega)).1.1]
    rw [p0] at z
    rcases g with g | g
    · rw [g] at z; revert z; decide
    · rw [g] at z; revert z; decide
/-- the object behind an accepted text -/
theorem z99 {P Z : Zf} {x : Int32} : (∀ k, k ≠ 302 → k ≠ 303 → k ≠ 310 → k ≠ 507 → (f_Bus_bus_99 P x Z).2 k = Z k) ∧ (f_Bus_bus_99 P x Z).2 302 = f_State_startAnew P (Z 302) ∧ (f_Bus_bus_99 P x Z).2 303 = upd (Z 303) 0 0 ∧ (f_Bus_bus_99 P x Z).2 310 = upd (Z 310) 0 0 ∧ (f_Bus_bus_99 P x Z).2 507 = upd (Z 507) 7 0 := by
  have e : (f_Bus_bus_99 P x Z).2 = u2 (mixK [310, 311, 312, 313] (fun k => f_Noted_clear (fun k => (va_up (va_up Z 302 (f_State_startAnew P (Z 302))) 303 (upd ((va_up Z 302 (f_State_startAnew P (Z 302))) 303) 0 0)) (310 + k)) (k - 310)) (va_up (va_up Z 302 (f_State_startAnew P (Z 302))) 303 (upd ((va_up Z 302 (f_State_startAnew P (Z 302))) 303) 0 0))) 507 7 0 := rfl
  have xk : ∀ k, k ≠ 302 → k ≠ 303 → va_up (va_up Z 302 (f_State_startAnew P (Z 302))) 303 (upd ((va_up Z 302 (f_State_startAnew P (Z 302))) 303) 0 0) k = Z k := fun k h1 h2 => by rw [up_ne h2 rfl, up_ne h1 rfl]
  have x2 : va_up (va_up Z 302 (f_State_startAnew P (Z 302))) 303 (upd ((va_up Z 302 (f_State_startAnew P (Z 302))) 303) 0 0) 302 = f_State_startAnew P (Z 302) := by rw [up_ne (by decide) rfl, up_same]
  have x3 : va_up (va_up Z 302 (f_State_startAnew P (Z 302))) 303 (upd ((va_up Z 302 (f_State_startAnew P (Z 302))) 303) 0 0) 303 = upd (Z 303) 0 0 := by rw [up_same, up_ne (by decide) rfl]
  rw [e]
  generalize va_up (va_up Z 302 (f_State_startAnew P (Z 302))) 303 (upd ((va_up Z 302 (f_State_startAnew P (Z 302))) 303) 0 0) = X at xk x2 x3 ⊢
  refine ⟨fun k h1 h2 h3 h4 => ?_, ?_, ?_, ?_, ?_⟩
  · rw [u2_k h4]
    by_cases q : k ∈ [310, 311, 312, 313]
    · rw [mx_in q]
      simp only [List.mem_cons, List.not_mem_nil, or_false] at q
      unfold f_Noted_clear
      rw [u2_k (by omega)]
      show X (310 + (k - 310)) = Z k
      rw [show 310 + (k - 310) = k by omega]
      exact xk k h1 h2
    · rw [mix_o q]; exact xk k h1 h2
  · rw [u2_k (by decide), mx_nt (by omega)]; exact x2
  · rw [u2_k (by decide), mx_nt (by omega)]; exact x3
  · rw [u2_k (by decide), mx_in (by decide)]
    unfold f_Noted_clear
    show u2 (fun k => X (310 + k)) 0 0 0 0 = _
    rw [u2_e]
    show upd (X 310) 0 0 = _
    rw [xk 310 (by decide) (by decide)]
  · rw [u2_e, mx_nt (by omega), xk 507 (by decide) (by decide)]
theorem bec_eq {U : Zf} : f_Mod_becomes U = u2 (u2 (u2 (u2 (f_Mod_begins (f_Mod_laysCycle (becZ U))) 100 30 0) 100 26 0) 100 25 0) 100 24 0 := by
  rw [← s_laysCycle, ← s_begins]
  rfl
