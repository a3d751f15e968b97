/-! the whole object in the heap (written by wip/whole/gen_bus.py) -/
/-- where the histories' states lie: object and cells, by memory (0, 1) and place -/
abbrev SA : Type := Nat → Nat → Option (Nat × Nat)
def stA (g : GG) (S : Nat → Option (Nat × Nat)) : va_E := .inl (gc g 4, 40, .inr (.inr (.inr (.inr (fun k => (S k).map Prod.fst)))))
def bsL (g : GG) (A : Nat → Nat) (S : SA) (P Y : Nat → Nat → Int32) : GL := [(A 30, 30, fun _ => .inr (5, [.int (P 30 0), .int (P 30 1), .int (P 30 2), .int (P 30 3), .ref (A 0), .ref (A 1), .ref (A 2), .ref (A 3), .ref (A 4), .ref (A 5), .ref (A 6), .ref (A 7), .ref (A 8), .ref (A 9), .ref (A 10), .ref (A 11), .ref (A 25), .ref (A 26), .ref (A 27)])), (A 25, 31, fun _ => .inr (2, [.int (P 31 0), .ref (A 12), .ref (A 13), .ref (A 14)])), (A 26, 26, fun _ => .inr (6, [.ref (A 15), .ref (A 16), .ref (A 17)])), (A 27, 32, fun _ => .inr (1, [.int (P 32 0), .int (P 32 1), .int (P 32 2), .ref (A 18), .ref (A 19), .ref (A 20), .ref (A 21), .ref (A 22), .ref (A 23), .ref (A 24)])), (A 0, 0, fun _ => aI g 10 (P 0)), (A 1, 1, fun _ => aI g 10 (P 1)), (A 2, 2, fun _ => aI g 10 (P 2)), (A 3, 3, fun _ => aI g 10 (P 3)), (A 4, 4, fun _ => aI g 10 (P 4)), (A 5, 5, fun _ => aI g 10 (P 5)), (A 6, 6, fun _ => aI g 10 (P 6)), (A 7, 7, fun _ => aI g 10 (P 7)), (A 8, 8, fun _ => aZ g 10 (P 8)), (A 9, 9, fun _ => aZ g 10 (P 9)), (A 10, 10, fun _ => aI g 30 (P 10)), (A 11, 11, fun _ => aI g 10 (P 11)), (A 12, 12, fun _ => aI g 12 (P 12)), (A 13, 13, fun _ => aI g 12 (P 13)), (A 14, 14, fun _ => aI g 12 (P 14)), (A 15, 15, fun _ => aI g 4 (P 15)), (A 16, 16, fun _ => aI g 4 (P 16)), (A 17, 17, fun _ => aI g 4 (P 17)), (A 18, 18, fun _ => aI g 10 (P 18)), (A 19, 19, fun _ => aI g 10 (P 19)), (A 20, 20, fun _ => aI g 10 (P 20)), (A 21, 21, fun _ => aI g 10 (P 21)), (A 22, 22, fun _ => aI g 12 (P 22)), (A 23, 23, fun _ => aI g 12 (P 23)), (A 24, 24, fun _ => aI g 5 (P 24)), (A 507, 507, fun f => .inr (10, [.ref (A 506), .int (f 1), .int (f 2), .ref (A 30), .ref (A 140), .ref (A 300), .ref (A 400), .int (f 7), .ref (A 500), .ref (A 502), .ref (A 227), .ref (A 504), .ref (A 505)])), (A 506, 506, aB g 900), (A 300, 300, fun _ => .inr (3, [.ref (A 301), .ref (A 303), .ref (A 310), .ref (A 305)])), (A 301, 301, fun _ => .inr (8, [.ref (A 302)])), (A 302, 302, aI g 225), (A 303, 303, fun f => .inr (0, [.int (f 0), .int (f 1), .ref (A 304)])), (A 304, 304, fun _ => stA g (S 0)), (A 310, 310, fun f => .inr (4, [.int (f 0), .ref (A 311), .ref (A 312), .ref (A 313)])), (A 311, 311, aI g 6), (A 312, 312, aI g 6), (A 313, 313, aI g 6), (A 305, 305, aI g 3), (A 400, 400, fun _ => .inr (3, [.ref (A 401), .ref (A 403), .ref (A 410), .ref (A 405)])), (A 401, 401, fun _ => .inr (8, [.ref (A 402)])), (A 402, 402, aI g 225), (A 403, 403, fun f => .inr (0, [.int (f 0), .int (f 1), .ref (A 404)])), (A 404, 404, fun _ => stA g (S 1)), (A 410, 410, fun f => .inr (4, [.int (f 0), .ref (A 411), .ref (A 412), .ref (A 413)])), (A 411, 411, aI g 6), (A 412, 412, aI g 6), (A 413, 413, aI g 6), (A 405, 405, aI g 3), (A 500, 500, fun _ => .inr (8, [.ref (A 501)])), (A 501, 501, aI g 225), (A 502, 502, fun _ => .inr (8, [.ref (A 503)])), (A 503, 503, aI g 225), (A 227, 232, fun f => .inr (1, [.int (f 0), .int (f 1), .int (f 2), .ref (A 218), .ref (A 219), .ref (A 220), .ref (A 221), .ref (A 222), .ref (A 223), .ref (A 224)])), (A 218, 218, aI g 10), (A 219, 219, aI g 10), (A 220, 220, aI g 10), (A 221, 221, aI g 10), (A 222, 222, aI g 12), (A 223, 223, aI g 12), (A 224, 224, aI g 5), (A 504, 504, fun f => .inr (9, [.int (f 0), .int (f 1)])), (A 505, 505, aI g 10), (A 140, 140, fun _ => .inr (7, [.int (Y 40 0), .int (Y 40 1), .ref (A 141), .int (Y 40 3), .int (Y 40 4), .ref (A 130), .int (Y 40 6), .int (Y 40 7), .int (Y 40 8), .int (Y 40 9), .int (Y 40 10)])), (A 130, 130, fun _ => .inr (5, [.int (Y 30 0), .int (Y 30 1), .int (Y 30 2), .int (Y 30 3), .ref (A 100), .ref (A 101), .ref (A 102), .ref (A 103), .ref (A 104), .ref (A 105), .ref (A 106), .ref (A 107), .ref (A 108), .ref (A 109), .ref (A 110), .ref (A 111), .ref (A 125), .ref (A 126), .ref (A 127)])), (A 125, 131, fun _ => .inr (2, [.int (Y 31 0), .ref (A 112), .ref (A 113), .ref (A 114)])), (A 126, 126, fun _ => .inr (6, [.ref (A 115), .ref (A 116), .ref (A 117)])), (A 127, 132, fun _ => .inr (1, [.int (Y 32 0), .int (Y 32 1), .int (Y 32 2), .ref (A 118), .ref (A 119), .ref (A 120), .ref (A 121), .ref (A 122), .ref (A 123), .ref (A 124)])), (A 100, 100, fun _ => aI g 10 (Y 0)), (A 101, 101, fun _ => aI g 10 (Y 1)), (A 102, 102, fun _ => aI g 10 (Y 2)), (A 103, 103, fun _ => aI g 10 (Y 3)), (A 104, 104, fun _ => aI g 10 (Y 4)), (A 105, 105, fun _ => aI g 10 (Y 5)), (A 106, 106, fun _ => aI g 10 (Y 6)), (A 107, 107, fun _ => aI g 10 (Y 7)), (A 108, 108, fun _ => aZ g 10 (Y 8)), (A 109, 109, fun _ => aZ g 10 (Y 9)), (A 110, 110, fun _ => aI g 30 (Y 10)), (A 111, 111, fun _ => aI g 10 (Y 11)), (A 112, 112, fun _ => aI g 12 (Y 12)), (A 113, 113, fun _ => aI g 12 (Y 13)), (A 114, 114, fun _ => aI g 12 (Y 14)), (A 115, 115, fun _ => aI g 4 (Y 15)), (A 116, 116, fun _ => aI g 4 (Y 16)), (A 117, 117, fun _ => aI g 4 (Y 17)), (A 118, 118, fun _ => aI g 10 (Y 18)), (A 119, 119, fun _ => aI g 10 (Y 19)), (A 120, 120, fun _ => aI g 10 (Y 20)), (A 121, 121, fun _ => aI g 10 (Y 21)), (A 122, 122, fun _ => aI g 12 (Y 22)), (A 123, 123, fun _ => aI g 12 (Y 23)), (A 124, 124, fun _ => aI g 5 (Y 24))]
set_option maxRecDepth 4000 in
theorem bs_x (g : GG) (A : Nat → Nat) (S : SA) (P Y : Nat → Nat → Int32) : (gX (bsL g A S P Y)).Nodup := by show List.Nodup [30, 31, 26, 32, 0, 1, 2, 3, 4, 5, 6, 7, 8, 9, 10, 11, 12, 13, 14, 15, 16, 17, 18, 19, 20, 21, 22, 23, 24, 507, 506, 300, 301, 302, 303, 304, 310, 311, 312, 313, 305, 400, 401, 402, 403, 404, 410, 411, 412, 413, 405, 500, 501, 502, 503, 232, 218, 219, 220, 221, 222, 223, 224, 504, 505, 140, 130, 131, 126, 132, 100, 101, 102, 103, 104, 105, 106, 107, 108, 109, 110, 111, 112, 113, 114, 115, 116, 117, 118, 119, 120, 121, 122, 123, 124]; decide
def shG (b : Nat) (L : GL) : GL := L.map (fun q => (q.1, b + q.2.1, q.2.2))
theorem gO_sh (b : Nat) (L : GL) (F : Nat → Nat → Int32) : gO (shG b L) F = gO L (fun k => F (b + k)) := by
  unfold gO shG; rw [List.map_map]; rfl
theorem gK_sh (b : Nat) (L : GL) : gK (shG b L) = gK L := by unfold gK shG; rw [List.map_map]; rfl
theorem gO_sh2 (b : Nat) (L : GL) (F : Nat → Nat → Int32) : gO L F = gO (shG b L) (fun k => F (k - b)) := by
  rw [gO_sh]
  congr 1
  funext k
  rw [Nat.add_sub_cancel_left]
theorem gO_inS {h : Hp} {b : Nat} {L L' : GL} {Z : Nat → Nat → Int32} (hnd : (gK L).Nodup) (hs : ∀ q ∈ shG b L', q ∈ L) : ∀ q ∈ gO L' (fun k => Z (b + k)), ov h (gO L Z) q.1 = some q.2 := by
  intro q hq
  rw [← gO_sh] at hq
  exact gO_in hnd hs q hq
theorem gK_ne {L : GL} (hnd : (gK L).Nodup) {i j a k b k' : Nat} {mk mk' : (Nat → Int32) → va_E} (hi : L[i]? = some (a, k, mk)) (hj : L[j]? = some (b, k', mk')) (hij : i ≠ j) : a ≠ b := by
  have h1 : (gK L)[i]? = some a := by unfold gK; rw [List.getElem?_map, hi]; rfl
  have h2 : (gK L)[j]? = some b := by unfold gK; rw [List.getElem?_map, hj]; rfl
  have l1 := (List.getElem?_eq_some_iff.mp h1).1
  have l2 := (List.getElem?_eq_some_iff.mp h2).1
  intro e
  subst e
  exact hij ((List.getElem?_inj l1 hnd).mp (h1.trans h2.symm))
theorem bs_ne {h : Hp} {L : GL} {Z : Nat → Nat → Int32} (hnd : (gK L).Nodup) {i j a k b k' : Nat} {mk mk' : (Nat → Int32) → va_E} (hi : L[i]? = some (a, k, mk)) (hj : L[j]? = some (b, k', mk')) (hij : i ≠ j) : ∀ e, va_up (ov h (gO L Z)) b e a = some (mk (Z k)) :=
  fun e => up_ne (gK_ne hnd hi hj hij) (gO_get hnd hi)
section
variable {g : GG} {M : MI} {d kc ks : Nat} {Q : QT} {pc : Nat} {ls st : List Value} {h : Hp} {L L' : GL} {Z Z1 : Nat → Nat → Int32}
theorem pw_shG {b : Nat} (hnd : (gK L).Nodup) (hx : (gX L).Nodup) (hnd' : (gK L').Nodup) (hs : ∀ q ∈ shG b L', q ∈ L) (kk : PW g M d kc ks Q pc ls st (ov h (gO L (mixK (gX (shG b L')) (fun k => Z1 (k - b)) Z)))) : PW g M d kc ks Q pc ls st (ov (ov h (gO L Z)) (gO L' Z1)) := by
  rw [gO_sh2 b L' Z1]
  exact pw_subG hnd hx (by rw [gK_sh]; exact hnd') hs kk
theorem pw_putGi {idx ci kf a i k ps : Nat} {x : Int32} {ty : FieldType} {tm : (Nat → Int32) → List Value} (dc : decode M.2.1 pc = .ok (.putfield idx, 3)) (hl : FP M.1.cls idx ci kf ty false) (hnd : (gK L).Nodup) (hx : (gX L).Nodup) (hi : L[i]? = some (a, k, fun f => .inr (ci, tm f))) (hlen : kf < (tm (Z k)).length) (hn : narrow ty (.int x) = .int x) (hfit : fits ty (.int x) = true) (hs : ∀ (F : Nat → Int32) (y : Int32), (tm F).set kf (.int y) = tm (upd F ps y)) (kk : PW g M d kc ks Q (pc + 3) ls st (ov h (gO L (u2 Z k ps x)))) : PW g M d kc ks Q pc ls (.int x :: .ref a :: st) (ov h (gO L Z)) :=
  pw_putG dc hl hnd hx hi hlen hn hfit (hs _ _) kk
theorem pw_eqls {ls' : List Value} (e : ls = ls') (k : PW g M d kc ks Q pc ls' st h) : PW g M d kc ks Q pc ls st h := e ▸ k
theorem pw_eqst {st' : List Value} (e : st = st') (k : PW g M d kc ks Q pc ls st' h) : PW g M d kc ks Q pc ls st h := e ▸ k
end
/-- all of the plan's cells are others than that of place j -/
theorem plan_fr {g : GG} {p : Nat} {ad : Nat → Nat} {P : Nat → Nat → Int32} {h h' : Hp} (H : PlanAt g p ad P h) (e0 : h' p = h p) (e1 : ∀ k, k < 28 → h' (ad k) = h (ad k)) : PlanAt g p ad P h' := by
  unfold PlanAt at *
  simp only [e0, e1 0 (by decide), e1 1 (by decide), e1 2 (by decide), e1 3 (by decide), e1 4 (by decide), e1 5 (by decide), e1 6 (by decide), e1 7 (by decide), e1 8 (by decide), e1 9 (by decide), e1 10 (by decide), e1 11 (by decide), e1 12 (by decide), e1 13 (by decide), e1 14 (by decide), e1 15 (by decide), e1 16 (by decide), e1 17 (by decide), e1 18 (by decide), e1 19 (by decide), e1 20 (by decide), e1 21 (by decide), e1 22 (by decide), e1 23 (by decide), e1 24 (by decide), e1 25 (by decide), e1 26 (by decide), e1 27 (by decide)]
  exact H
section
variable {g : GG} {h : Hp} {A : Nat → Nat} {S : SA} {P Y : Nat → Nat → Int32} {Z : Nat → Nat → Int32}
set_option maxRecDepth 4000 in
theorem bs_pl (hnd : (gK (bsL g A S P Y)).Nodup) : PlanAt g (A 30) A P (ov h (gO (bsL g A S P Y) Z)) :=
  ⟨gO_get hnd (i := 0) rfl, gO_get hnd (i := 1) rfl, gO_get hnd (i := 2) rfl, gO_get hnd (i := 3) rfl, gO_get hnd (i := 4) rfl, gO_get hnd (i := 5) rfl, gO_get hnd (i := 6) rfl, gO_get hnd (i := 7) rfl, gO_get hnd (i := 8) rfl, gO_get hnd (i := 9) rfl, gO_get hnd (i := 10) rfl, gO_get hnd (i := 11) rfl, gO_get hnd (i := 12) rfl, gO_get hnd (i := 13) rfl, gO_get hnd (i := 14) rfl, gO_get hnd (i := 15) rfl, gO_get hnd (i := 16) rfl, gO_get hnd (i := 17) rfl, gO_get hnd (i := 18) rfl, gO_get hnd (i := 19) rfl, gO_get hnd (i := 20) rfl, gO_get hnd (i := 21) rfl, gO_get hnd (i := 22) rfl, gO_get hnd (i := 23) rfl, gO_get hnd (i := 24) rfl, gO_get hnd (i := 25) rfl, gO_get hnd (i := 26) rfl, gO_get hnd (i := 27) rfl, gO_get hnd (i := 28) rfl⟩
theorem bs_adr (k : Nat) (hk : k < 28) : ∃ i key mk, i < 29 ∧ (bsL g A S P Y)[i]? = some (A k, key, mk) := by
  rcases (by omega : k = 0 ∨ k = 1 ∨ k = 2 ∨ k = 3 ∨ k = 4 ∨ k = 5 ∨ k = 6 ∨ k = 7 ∨ k = 8 ∨ k = 9 ∨ k = 10 ∨ k = 11 ∨ k = 12 ∨ k = 13 ∨ k = 14 ∨ k = 15 ∨ k = 16 ∨ k = 17 ∨ k = 18 ∨ k = 19 ∨ k = 20 ∨ k = 21 ∨ k = 22 ∨ k = 23 ∨ k = 24 ∨ k = 25 ∨ k = 26 ∨ k = 27) with rfl | rfl | rfl | rfl | rfl | rfl | rfl | rfl | rfl | rfl | rfl | rfl | rfl | rfl | rfl | rfl | rfl | rfl | rfl | rfl | rfl | rfl | rfl | rfl | rfl | rfl | rfl | rfl
  all_goals first | exact ⟨4, _, _, by omega, rfl⟩ | exact ⟨5, _, _, by omega, rfl⟩ | exact ⟨6, _, _, by omega, rfl⟩ | exact ⟨7, _, _, by omega, rfl⟩ | exact ⟨8, _, _, by omega, rfl⟩ | exact ⟨9, _, _, by omega, rfl⟩ | exact ⟨10, _, _, by omega, rfl⟩ | exact ⟨11, _, _, by omega, rfl⟩ | exact ⟨12, _, _, by omega, rfl⟩ | exact ⟨13, _, _, by omega, rfl⟩ | exact ⟨14, _, _, by omega, rfl⟩ | exact ⟨15, _, _, by omega, rfl⟩ | exact ⟨16, _, _, by omega, rfl⟩ | exact ⟨17, _, _, by omega, rfl⟩ | exact ⟨18, _, _, by omega, rfl⟩ | exact ⟨19, _, _, by omega, rfl⟩ | exact ⟨20, _, _, by omega, rfl⟩ | exact ⟨21, _, _, by omega, rfl⟩ | exact ⟨22, _, _, by omega, rfl⟩ | exact ⟨23, _, _, by omega, rfl⟩ | exact ⟨24, _, _, by omega, rfl⟩ | exact ⟨25, _, _, by omega, rfl⟩ | exact ⟨26, _, _, by omega, rfl⟩ | exact ⟨27, _, _, by omega, rfl⟩ | exact ⟨28, _, _, by omega, rfl⟩ | exact ⟨1, _, _, by omega, rfl⟩ | exact ⟨2, _, _, by omega, rfl⟩ | exact ⟨3, _, _, by omega, rfl⟩
theorem bs_planU {j b key : Nat} {mk : (Nat → Int32) → va_E} (hnd : (gK (bsL g A S P Y)).Nodup) (hj : (bsL g A S P Y)[j]? = some (b, key, mk)) (hj29 : 29 ≤ j) : ∀ e, PlanAt g (A 30) A P (va_up (ov h (gO (bsL g A S P Y) Z)) b e) := by
  intro e
  refine plan_fr (bs_pl (h := h) (Z := Z) hnd) (up_ne (gK_ne hnd (i := 0) rfl hj (by omega)) rfl) (fun k hk => ?_)
  obtain ⟨i, key, mk, hi, hik⟩ := bs_adr (g := g) (A := A) (S := S) (P := P) (Y := Y) k hk
  exact up_ne (gK_ne hnd hik hj (by omega)) rfl
theorem pl0_of {h : Hp} {p : Nat} {ad : Nat → Nat} (H : PlanAt g p ad P h) : Pl0 g p ad P h :=
  ⟨H.1, H.2.1, H.2.2.1, H.2.2.2.2.1, H.2.2.2.2.2.1, H.2.2.2.2.2.2.1, H.2.2.2.2.2.2.2.1, H.2.2.2.2.2.2.2.2.1, H.2.2.2.2.2.2.2.2.2.1, H.2.2.2.2.2.2.2.2.2.2.1, H.2.2.2.2.2.2.2.2.2.2.2.1, H.2.2.2.2.2.2.2.2.2.2.2.2.1, H.2.2.2.2.2.2.2.2.2.2.2.2.2.1, H.2.2.2.2.2.2.2.2.2.2.2.2.2.2.1, H.2.2.2.2.2.2.2.2.2.2.2.2.2.2.2.1, H.2.2.2.2.2.2.2.2.2.2.2.2.2.2.2.2.1, H.2.2.2.2.2.2.2.2.2.2.2.2.2.2.2.2.2.1, H.2.2.2.2.2.2.2.2.2.2.2.2.2.2.2.2.2.2.1, H.2.2.2.2.2.2.2.2.2.2.2.2.2.2.2.2.2.2.2.1, H.2.2.2.2.2.2.2.2.2.2.2.2.2.2.2.2.2.2.2.2.1, H.2.2.2.2.2.2.2.2.2.2.2.2.2.2.2.2.2.2.2.2.2.1⟩
/-- the plan beside the cells of other places -/
theorem bs_planL {L' : GL} (hnd : (gK (bsL g A S P Y)).Nodup) (hs : ∀ a ∈ gK L', ∃ j key mk, 29 ≤ j ∧ (bsL g A S P Y)[j]? = some (a, key, mk)) {l : List (Nat × va_E)} (hl : l.map Prod.fst = gK L') : PlanAt g (A 30) A P (ov (ov h (gO (bsL g A S P Y) Z)) l) := by
  have key : ∀ i a k mk, i < 29 → (bsL g A S P Y)[i]? = some (a, k, mk) → ov (ov h (gO (bsL g A S P Y) Z)) l a = ov h (gO (bsL g A S P Y) Z) a := by
    intro i a k mk hi hik
    refine ov_none ?_
    rw [hl]
    intro hm
    obtain ⟨j, k', mk', hj, hjk⟩ := hs a hm
    exact gK_ne hnd hik hjk (by omega) rfl
  refine plan_fr (bs_pl (h := h) (Z := Z) hnd) (key 0 _ _ _ (by omega) rfl) (fun k hk => ?_)
  obtain ⟨i, ky, mk, hi, hik⟩ := bs_adr (g := g) (A := A) (S := S) (P := P) (Y := Y) k hk
  exact key i _ _ _ hi hik
end
theorem bs_nt_l (g : GG) (A : Nat → Nat) (S : SA) (P Y : Nat → Nat → Int32) : ∀ q ∈ shG 310 (ntL g (fun i => A (310 + i))), q ∈ bsL g A S P Y := in_ix [36, 37, 38, 39] rfl
theorem bs_nt_k (g : GG) (A : Nat → Nat) (S : SA) (P Y : Nat → Nat → Int32) : ∀ q ∈ shG 410 (ntL g (fun i => A (410 + i))), q ∈ bsL g A S P Y := in_ix [46, 47, 48, 49] rfl
theorem bs_ly (g : GG) (A : Nat → Nat) (S : SA) (P Y : Nat → Nat → Int32) : ∀ q ∈ shG 200 (lyL g (fun i => A (200 + i))), q ∈ bsL g A S P Y := in_ix [55, 56, 57, 58, 59, 60, 61, 62] rfl
theorem sub_nd {b : Nat} {L L' : GL} (is : List Nat) (his : is.Nodup) (hnd : (gK L).Nodup) (h : shG b L' = is.filterMap (fun i => L[i]?)) : (gK L').Nodup := by
  rw [← gK_sh b, h]
  unfold gK at hnd ⊢
  rw [List.map_filterMap]
  clear h
  induction is with
  | nil => exact List.nodup_nil
  | cons i r ih =>
    have h1 := List.nodup_cons.mp his
    rw [List.filterMap_cons]
    split
    · exact ih h1.2
    · rename_i a ha
      refine List.nodup_cons.mpr ⟨fun hm => ?_, ih h1.2⟩
      obtain ⟨j, hj, hja⟩ := List.mem_filterMap.mp hm
      have hne : i ≠ j := fun e => h1.1 (e ▸ hj)
      have e1 : (L.map Prod.fst)[i]? = some a := by
        rw [List.getElem?_map]; exact ha
      have e2 : (L.map Prod.fst)[j]? = some a := by
        rw [List.getElem?_map]; exact hja
      exact hne ((List.getElem?_inj (List.getElem?_eq_some_iff.mp e1).1 hnd).mp (e1.trans e2.symm))
theorem nd_nt_l {g : GG} {A : Nat → Nat} {S : SA} {P Y : Nat → Nat → Int32} (hnd : (gK (bsL g A S P Y)).Nodup) : (gK (ntL g (fun i => A (310 + i)))).Nodup := sub_nd (b := 310) [36, 37, 38, 39] (by decide) hnd rfl
theorem nd_nt_k {g : GG} {A : Nat → Nat} {S : SA} {P Y : Nat → Nat → Int32} (hnd : (gK (bsL g A S P Y)).Nodup) : (gK (ntL g (fun i => A (410 + i)))).Nodup := sub_nd (b := 410) [46, 47, 48, 49] (by decide) hnd rfl
theorem nd_ly {g : GG} {A : Nat → Nat} {S : SA} {P Y : Nat → Nat → Int32} (hnd : (gK (bsL g A S P Y)).Nodup) : (gK (lyL g (fun i => A (200 + i)))).Nodup := sub_nd (b := 200) [55, 56, 57, 58, 59, 60, 61, 62] (by decide) hnd rfl
theorem ly_out (g : GG) (A : Nat → Nat) (S : SA) (P Y : Nat → Nat → Int32) : ∀ a ∈ gK (lyL g (fun i => A (200 + i))), ∃ j key mk, 29 ≤ j ∧ (bsL g A S P Y)[j]? = some (a, key, mk) := by
  intro a ha
  simp only [lyL, gK, List.map_cons, List.map_nil, List.mem_cons, List.not_mem_nil, or_false] at ha
  rcases ha with rfl | rfl | rfl | rfl | rfl | rfl | rfl | rfl
  all_goals first | exact ⟨55, _, _, by omega, rfl⟩ | exact ⟨56, _, _, by omega, rfl⟩ | exact ⟨57, _, _, by omega, rfl⟩ | exact ⟨58, _, _, by omega, rfl⟩ | exact ⟨59, _, _, by omega, rfl⟩ | exact ⟨60, _, _, by omega, rfl⟩ | exact ⟨61, _, _, by omega, rfl⟩ | exact ⟨62, _, _, by omega, rfl⟩
/-- what a method answers or throws -/
def outX : Int32 ⊕ String → Option Value ⊕ String
  | .inl v => .inl (some (.int v))
  | .inr e => .inr e
def RetX (r : Int32 ⊕ String) (h1 : Hp) : QT := fun o h' => o = outX r ∧ h' = h1
/-- a method that changes nothing and throws E where c isn't so -/
def BrX (c : Prop) (E : String) (h1 : Hp) : QT := fun o h' => h' = h1 ∧ ((c ∧ o = .inl none) ∨ (¬ c ∧ o = .inr E))
section
variable {g : GG} {M : MI} {d kc ks : Nat} {Q : QT} {pc : Nat} {ls st : List Value} {h : Hp}
theorem pw_brV {idx b ci N n d' kc' ks' : Nat} {M' : MI} {T : u_T} {fs : List Value} {As : List Value} {c : Prop} {E : String} {st0 : List Value} (dc : decode M.2.1 pc = .ok (.invokevirtual idx, 3)) (hl : LV M.1.cls idx M' n) (hc : vcl[ci]? = some (M'.1.cls, T, N)) (hf : h b = some (.inr (ci, fs)))
    (hM : PM g M' d' kc' ks' (.ref b :: As) h (BrX c E h)) (hn : As.length = n) (hd : d' + 1 ≤ d) (hsum : (st.map fun v => v.category).sum ≤ 8) (hst : st0 = As.reverse ++ .ref b :: st) (hh : M.2.2.2.2 = []) (k1 : c → PW g M d kc ks Q (pc + 3) ls st h) (k2 : ¬ c → Q (.inr E) h) : PW g M d (kc + kc') (ks + ks') Q pc ls st0 h := by
  subst hst
  exact pw_callV dc hl hc hf hM hn hd hsum (fun E' h' q => by
    obtain ⟨rfl, ⟨-, q⟩ | ⟨q1, q⟩⟩ := q
    · cases q
    · cases q; exact ⟨hh, k2 q1⟩) (fun v h' q => by
    obtain ⟨rfl, ⟨q1, q⟩ | ⟨-, q⟩⟩ := q
    · cases q; exact k1 q1
    · cases q)
theorem pw_brS {idx n d' kc' ks' : Nat} {M' : MI} {As : List Value} {c : Prop} {E : String} {st0 : List Value} (dc : decode M.2.1 pc = .ok (.invokestatic idx, 3)) (hl : LSt M.1.cls idx M' n)
    (hM : PM g M' d' kc' ks' As h (BrX c E h)) (hn : As.length = n) (hd : d' + 1 ≤ d) (hsum : (st.map fun v => v.category).sum ≤ 8) (hst : st0 = As.reverse ++ st) (hh : M.2.2.2.2 = []) (k1 : c → PW g M d kc ks Q (pc + 3) ls st h) (k2 : ¬ c → Q (.inr E) h) : PW g M d (kc + kc') (ks + ks') Q pc ls st0 h := by
  subst hst
  exact pw_callS dc hl hM hn hd hsum (fun E' h' q => by
    obtain ⟨rfl, ⟨-, q⟩ | ⟨q1, q⟩⟩ := q
    · cases q
    · cases q; exact ⟨hh, k2 q1⟩) (fun v h' q => by
    obtain ⟨rfl, ⟨q1, q⟩ | ⟨-, q⟩⟩ := q
    · cases q; exact k1 q1
    · cases q)
theorem tb_out {x : Int32} {n : Nat} (hn : n < 2 ^ 31) (H : ∀ k : Nat, k < n → x ≠ nI k) : x.toInt < 0 ∨ (n : Int) - 1 < x.toInt := by
  by_cases h0 : x.toInt < 0
  · exact Or.inl h0
  · by_cases h1 : x.toInt < n
    · exfalso
      have e : x = nI x.toInt.toNat := by
        apply Int32.toInt_inj.mp
        rw [nI_toInt (by omega)]
        omega
      exact H x.toInt.toNat (by omega) e
    · right; omega
theorem toN {x : Int32} {n : Nat} (hn : n < 2 ^ 31) (h0 : ¬ x < 0) (h1 : x < nI n) : x = nI x.toNatClampNeg ∧ x.toNatClampNeg < n := by
  have z : (0 : Int32).toInt = 0 := by decide
  have a : ¬ x.toInt < 0 := fun q => h0 (i_lt.mpr (by rw [z]; exact q))
  have b := i_lt.mp h1
  rw [nI_toInt hn] at b
  have e : x = nI x.toInt.toNat := by
    apply Int32.toInt_inj.mp
    rw [nI_toInt (by omega)]
    omega
  have e2 : x.toNatClampNeg = x.toInt.toNat := rfl
  rw [e2]
  exact ⟨e, by omega⟩
end
theorem pos_of {n : Nat} (hn : n < 2 ^ 31) (H : ¬ nI n ≤ 0) : 0 < n := by
  rw [i_le, nI_toInt hn, show (0 : Int32).toInt = 0 by decide] at H
  omega
theorem and_nI (x : Int32) : ∃ m : Nat, m < 32768 ∧ x &&& 32767 = nI m := by
  refine ⟨(x &&& 32767).toBitVec.toNat, ?_, ?_⟩
  · have e : (x &&& 32767).toBitVec = x.toBitVec &&& 32767#32 := rfl
    rw [e, BitVec.toNat_and]
    exact Nat.lt_of_le_of_lt Nat.and_le_right (by decide)
  · apply Int32.toBitVec_inj.mp
    show (x &&& 32767).toBitVec = BitVec.ofNat 32 (x &&& 32767).toBitVec.toNat
    rw [BitVec.ofNat_toNat, BitVec.setWidth_eq]
theorem rem_nI {m n : Nat} (h0 : 0 < n) (hm : m < 32768) (hn : n < 32768) : nI m - nI m / nI n * nI n = nI (m % n) := by
  have h1 : m / n * n ≤ m := Nat.div_mul_le_self _ _
  rw [pk_div (by omega) h0 (by omega), pk_mul, pk_sub h1]
  congr 1
  have := Nat.div_add_mod' m n
  omega
section
variable {g : GG} {M : MI} {d kc ks : Nat} {Q : QT} {pc : Nat} {ls st : List Value} {h : Hp}
theorem pw_iremN {a b : Nat} (h0 : 0 < b) (ha : a < 32768) (hb : b < 32768) (dc : decode M.2.1 pc = .ok (.irem, 1)) (k : PW g M d kc ks Q (pc + 1) ls (.int (nI (a % b)) :: st) h) : PW g M d kc ks Q pc ls (.int (nI b) :: .int (nI a) :: st) h := by
  refine pw_irem dc ?_ ?_
  · intro q
    have := (nI_eq (a := b) (b := 0) (by omega) (by decide)).mp q
    omega
  · rw [rem_nI h0 ha hb]; exact k
end
theorem u2_s {L : Nat → Nat → Int32} {k i : Nat} {v : Int32} : u2 L k i v k i = v := by
  unfold u2; rw [up_same]; simp [upd]
theorem u2_o {L : Nat → Nat → Int32} {k i a j : Nat} {v w : Int32} (h : a ≠ k) (p : L a j = w) : u2 L k i v a j = w := by
  unfold u2; rw [up_ne h rfl]; exact p
theorem u2_i {L : Nat → Nat → Int32} {k i j : Nat} {v w : Int32} (h : j ≠ i) (p : L k j = w) : u2 L k i v k j = w := by
  unfold u2; rw [up_same]; simp [upd, h, p]
