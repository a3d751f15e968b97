/-! the start, alike on both sides -/
theorem p00n {k K : Nat} (hk : k ≠ 15) (hk2 : k ≠ 30) (hK : 0 < K) : isN P00 k K := by
  intro i
  have e : P00 k i = nI 0 := by unfold P00; rw [if_neg hk2, if_neg hk]; rfl
  rw [pN_mk (by decide) e]; exact ⟨e, hK⟩
theorem p00m {k K : Nat} (hk : k ≠ 15) (hk2 : k ≠ 30) (hK : 0 < K) : isM P00 k K := fun i => Or.inr (p00n hk hk2 hK i)
theorem p00_3 : pN P00 30 3 = 0 := by decide
theorem p00_31 : pN P00 31 0 = 0 := by decide
theorem p00_0 : pN P00 30 0 = 2 := by decide
theorem p00_wf : wfP P00 := by
  refine ⟨⟨p00n (by decide) (by decide) (by decide), p00n (by decide) (by decide) (by decide), p00n (by decide) (by decide) (by decide), p00n (by decide) (by decide) (by decide), p00n (by decide) (by decide) (by decide), by decide, by decide, by decide, p00m (by decide) (by decide) (by decide), p00m (by decide) (by decide) (by decide), fun i hi => ?_⟩, p00n (by decide) (by decide) (by decide), fun k hk => ?_⟩
  · rw [p00_3] at hi; omega
  · rw [p00_3] at hk; omega
theorem c0k {k i : Nat} (h : k ≠ 302) (h2 : k ≠ 507) : C0M k i = 0 := by
  unfold C0M f_Bus_init_124
  rw [up_ne h rfl]
  unfold C00
  rw [if_neg h2]
theorem c0p {k i : Nat} (h : k ≠ 302) (h2 : k ≠ 507) : pN C0M k i = 0 := by unfold pN; rw [c0k h h2]; decide
theorem rel_0 : RelW S00 P00 Y00 C0M Z0M := by
  obtain ⟨bw, bp⟩ := z01_wf
  obtain ⟨lw, lp, lt, lk, li⟩ := lay_all bw bp
  have e100 : ∀ i, Z01 100 i = zI i := fun i => by rw [z01.1 100 (by decide)]; rfl
  have v20 : pN Z01 100 20 = 0 := pN_mk (by decide) (by rw [e100]; rfl)
  have v21 : pN Z01 100 21 = 0 := pN_mk (by decide) (by rw [e100]; rfl)
  obtain ⟨y1, y2⟩ := ly_nil v20 v21
  have ez : Z0M = f_Mod_begins (f_Mod_laysCycle Z01) := by
    unfold Z0M f_Mod_init_361
    rw [s_begins, s_laysCycle]; rfl
  rw [ez]
  have zl : ∀ k i, k ≠ 11 → k ≠ 100 → lyK k → f_Mod_laysCycle Z01 k i = 0 := fun k i a b c => by
    rw [lk k c, z01.1 k a]; unfold Z00; rw [if_neg b]
  have l11 : ∀ s, s < 4 → f_Mod_laysCycle Z01 11 s = -1 := fun s hs => by
    rw [lk 11 (by unfold lyK tkK; decide), z01.2 s, if_pos hs]
  have lz : ∀ i, i ≠ 42 → i ≠ 43 → f_Mod_laysCycle Z01 100 i = zI i := fun i a b => (li i a b).trans (e100 i)
  have n2 : ∀ K, 0 < K → isN (f_Mod_laysCycle Z01) 2 K := fun K hK => (is00 (by decide) (by decide) hK).e (lk 2 (by unfold lyK tkK; decide))
  have rwi : RwI (f_Mod_laysCycle Z01) := by
    have q : ∀ k K, 53 ≤ k → k ≤ 62 → 0 < K → iNr (f_Mod_laysCycle Z01 k) K := fun k K a b hK i => by
      rw [zl k i (by omega) (by omega) (by unfold lyK tkK; omega)]
      exact ⟨by decide, by have : (0 : Int32).toNatClampNeg = 0 := by decide
                           omega⟩
    exact ⟨⟨q _ _ (by decide) (by decide) (by decide), q _ _ (by decide) (by decide) (by decide), q _ _ (by decide) (by decide) (by decide), q _ _ (by decide) (by decide) (by decide)⟩, q _ _ (by decide) (by decide) (by decide), q _ _ (by decide) (by decide) (by decide), q _ _ (by decide) (by decide) (by decide)⟩
  have z14 : ∀ i, f_Mod_laysCycle Z01 14 i = 0 := fun i => zl 14 i (by decide) (by decide) (by unfold lyK tkK; decide)
  have z17 : ∀ i, f_Mod_laysCycle Z01 17 i = 0 := fun i => zl 17 i (by decide) (by decide) (by unfold lyK tkK; decide)
  generalize f_Mod_laysCycle Z01 = L at lw lp lt y1 y2 l11 lz n2 rwi z14 z17 ⊢
  have c20 : pN L 100 20 = 0 := pN_mk (by decide) (by rw [lz 20 (by decide) (by decide)]; rfl)
  have c21 : pN L 100 21 = 0 := pN_mk (by decide) (by rw [lz 21 (by decide) (by decide)]; rfl)
  have c19 : pN L 100 19 = 2 := pN_mk (by decide) (by rw [lz 19 (by decide) (by decide)]; rfl)
  have st := st_new (P := P00) (V := L) (c := C00 302) (by rw [p00_3, c20]) (by rw [p00_3]; omega) (by rw [p00_31, c21]) (by rw [p00_31]; omega) (by rw [p00_0, c19]) (by rw [p00_0]; omega) (fun k hk => by rw [p00_3] at hk; omega) (fun k hk => by rw [p00_3] at hk; omega)
  have gw := z_begins lw
  have gk : ∀ k, k ≠ 0 → f_Mod_begins L k = L k := fun k hk => begins_keep hk
  have g206 : f_Mod_begins L 0 206 = 0 := by
    rw [bg_all (by omega) (by omega), if_neg (by decide), if_neg (by omega), if_neg (by omega), if_pos (by decide)]
  generalize f_Mod_begins L = G at st gw gk g206 ⊢
  have gz : ∀ i, i ≠ 42 → i ≠ 43 → G 100 i = zI i := fun i a b => by rw [gk 100 (by decide)]; exact lz i a b
  have ly : ∀ V : Zf, V 100 42 = 0 → V 100 43 = 0 → LYR P00 V := fun V a b => ⟨⟨by rw [a]; rfl, by rw [b]; rfl⟩, fun k hk => by rw [p00_3] at hk; omega, fun l hl => by rw [p00_31] at hl; omega⟩
  have pm : PlM G := by
    unfold PlM isN pN at *
    rw [gk 2 (by decide), gk 8 (by decide), gk 9 (by decide), gk 100 (by decide)]
    exact lp
  have g19 : pN G 100 19 = 2 := pN_mk (by decide) (by rw [gz 19 (by decide) (by decide)]; rfl)
  have g20 : pN G 100 20 = 0 := pN_mk (by decide) (by rw [gz 20 (by decide) (by decide)]; rfl)
  have g21 : pN G 100 21 = 0 := pN_mk (by decide) (by rw [gz 21 (by decide) (by decide)]; rfl)
  have q507 : ∀ i, C0M 507 i = if i = 2 then -1 else 0 := fun i => by
    unfold C0M f_Bus_init_124
    rw [up_ne (by decide) rfl]; rfl
  have p507 : pN C0M 507 1 = 0 := pN_mk (by decide) (by rw [q507]; rfl)
  have s302 : C0M 302 = f_State_startAnew P00 (C00 302) := by
    unfold C0M f_Bus_init_124
    rw [up_same]
  refine ⟨⟨⟨⟨?_, ?_⟩, fun i => ?_, fun i => ?_⟩, ⟨⟨?_, ?_⟩, ?_, ?_⟩, ⟨?_, ?_⟩, by rw [p00_0]; decide, fun k hk => ?_, Or.inl (by rw [q507]; rfl), fun z => absurd (by rw [q507]; rfl) z⟩, ⟨gw, ?_, ?_, ?_, pm, (n2 10 (by decide)).e (gk 2 (by decide)), Or.inr ⟨0, by decide, by rw [g206]; rfl⟩, by rw [g19]; decide, ?_, ?_, (n2 60 (by decide)).e (gk 2 (by decide)), ?_⟩, ⟨⟨⟨p00_wf, gw, pm⟩, ⟨by rw [p00_0, g19], by rw [p00_3, g20], by rw [p00_31, g21]⟩, fun k hk => ?_, fun l hl => ?_, ⟨fun k w hk => ?_, fun k hk => ?_⟩, fun l m hl => ?_, fun s hs => ⟨?_, fun z => ?_⟩⟩, ⟨?_, ?_, ?_, ?_⟩, fun k hk => ?_, ?_, fun V v1 v2 v3 => ?_⟩, ⟨?_, ⟨?_, fun k hk => ?_⟩, ⟨?_, fun k hk => ?_⟩, fun k hk => ?_⟩, ⟨?_, fun z => absurd (by rw [q507]; rfl) z⟩, ⟨?_, ?_, fun i hi => ?_⟩, ?_⟩
  · rw [c0p (by decide) (by decide), c0k (by decide) (by decide)]; rfl
  · rw [c0p (by decide) (by decide)]; decide
  · rw [c0p (by decide) (by decide), c0k (by decide) (by decide)]; exact ⟨rfl, by decide⟩
  · rw [c0p (by decide) (by decide), c0k (by decide) (by decide)]; exact ⟨rfl, by decide⟩
  · rw [c0p (by decide) (by decide), c0k (by decide) (by decide)]; rfl
  · rw [c0p (by decide) (by decide)]; decide
  · rw [c0p (by decide) (by decide), c0k (by decide) (by decide)]; rfl
  · rw [c0p (by decide) (by decide)]; decide
  · rw [p507, q507]; rfl
  · rw [p507]; decide
  · rw [c0p (by decide) (by decide)] at hk; omega
  · have a : pN G 100 24 = 0 := pN_mk (by decide) (by rw [gz 24 (by decide) (by decide)]; rfl)
    have b : pN G 100 25 = 0 := pN_mk (by decide) (by rw [gz 25 (by decide) (by decide)]; rfl)
    exact ⟨⟨by rw [a, gz 24 (by decide) (by decide)]; rfl, by omega⟩, by rw [b, gz 25 (by decide) (by decide)]; rfl, by omega⟩
  · intro b hb; rw [g20] at hb; omega
  · have a : pN G 100 26 = 0 := pN_mk (by decide) (by rw [gz 26 (by decide) (by decide)]; rfl)
    refine ⟨⟨by rw [a, gz 26 (by decide) (by decide)]; rfl, by omega⟩, fun i hi => ?_⟩
    unfold pN
    rw [gk 14 (by decide), z14]; decide
  · exact rwi.of (fun k a b => gk k (by omega))
  · unfold VvI pN
    rw [gz 50 (by decide) (by decide)]; decide
  · unfold pN
    rw [gz 32 (by decide) (by decide)]; decide
  · rw [p00_3] at hk; omega
  · rw [p00_31] at hl; omega
  · rw [p00_3] at hk; omega
  · rw [p00_3] at hk; omega
  · rw [p00_31] at hl; omega
  · rw [gk 11 (by decide), l11 s hs]
    have hc : s = 0 ∨ s = 1 ∨ s = 2 ∨ s = 3 := by omega
    rcases hc with rfl | rfl | rfl | rfl <;> decide
  · have : P00 15 s = -1 := by
      have hc : s = 0 ∨ s = 1 ∨ s = 2 ∨ s = 3 := by omega
      rcases hc with rfl | rfl | rfl | rfl <;> decide
    exact absurd this z
  · rw [gz 44 (by decide) (by decide)]; rfl
  · rw [gz 22 (by decide) (by decide)]; rfl
  · rw [gz 23 (by decide) (by decide)]; rfl
  · decide
  · rw [p00_3] at hk; omega
  · exact ly G (by rw [gk 100 (by decide)]; exact y1) (by rw [gk 100 (by decide)]; exact y2)
  · have w20 : pN V 100 20 = 0 := by rw [← v3.1, p00_3]
    have w21 : pN V 100 21 = 0 := by rw [← v3.2.1, p00_31]
    exact ly _ (ly_nil w20 w21).1 (ly_nil w20 w21).2
  · rw [s302]; exact st
  · rw [c0k (by decide) (by decide), gz 24 (by decide) (by decide)]; rfl
  · rw [c0p (by decide) (by decide)] at hk; omega
  · rw [c0k (by decide) (by decide), gz 26 (by decide) (by decide)]; rfl
  · rw [c0p (by decide) (by decide)] at hk; omega
  · rw [c0k (by decide) (by decide), gk 17 (by decide), z17]
  · rw [q507, gz 30 (by decide) (by decide)]; rfl
  · rw [q507, gz 32 (by decide) (by decide)]; rfl
  · rw [q507, gz 33 (by decide) (by decide)]; rfl
  · rw [p507] at hi; omega
  · have y : ∀ k, k ≠ 40 → Y00 k = P00 k := fun k hk => if_neg hk
    exact ⟨(p00n (by decide) (by decide) (by decide)).e (y 0 (by decide)), (p00n (by decide) (by decide) (by decide)).e (y 1 (by decide)), (p00n (by decide) (by decide) (by decide)).e (y 12 (by decide)), (p00n (by decide) (by decide) (by decide)).e (y 13 (by decide)), (p00n (by decide) (by decide) (by decide)).e (y 14 (by decide)), (p00m (by decide) (by decide) (by decide)).e (y 10 (by decide)), (p00m (by decide) (by decide) (by decide)).e (y 11 (by decide)), (p00n (by decide) (by decide) (by decide)).e (y 18 (by decide))⟩
theorem eq_all : EqAll RelW := ⟨eq_ok, e_feed, e_bus, e_fault, e_count, e_block, e_link, e_plant, e_target, e_hand, e_power, e_broken, e_cycles, e_undo, e_then, e_first, e_jump, e_lost, e_toRide, e_toTune, e_slack, e_note, e_fits, e_look, e_forget, e_years, e_image, e_restore⟩
