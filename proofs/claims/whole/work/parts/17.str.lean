/-! texts: what String.length, String.charAt answer (written by wip/whole/gen_str.py) -/
theorem fs_9 : Cond.fieldLink "java/lang/String" 9 "java/lang/String" "value" "[B" ∈ gw := gm8 (i := 69) (by decide +kernel) rfl
theorem fs_15 : Cond.fieldLink "java/lang/String" 15 "java/lang/String" "coder" "B" ∈ gw := gm8 (i := 70) (by decide +kernel) rfl
theorem fs_38 : Cond.fieldLink "java/lang/String" 38 "java/lang/String" "COMPACT_STRINGS" "Z" ∈ gw := gm4 (i := 57) (by decide +kernel) rfl
theorem fs_1053 : Cond.fieldLink "java/lang/String" 1053 "jdk/internal/util/Preconditions" "SIOOBE_FORMATTER" "Ljava/util/function/BiFunction;" ∈ gw := gm4 (i := 73) (by decide +kernel) rfl
theorem fs_276 : Cond.fieldLink "CascadeBusModel" 276 "CascadeBusModel" "KNOWN" "[B" ∈ gw := gm6 (i := 210) (by decide +kernel) rfl
section
variable {g : GG} {M : MI} {d kc ks : Nat} {Q : QT} {pc : Nat} {ls st : List Value} {h : Hp}
theorem pw_getS {idx q : Nat} {n ds : String} {v : Value} (dc : decode M.2.1 pc = .ok (.getfield idx, 3)) (hl : Cond.fieldLink M.1.cls idx "java/lang/String" n ds ∈ gw) (hE : ∀ s, OFh g s s.heap → va_OF "java/lang/String" n ds v q (A0 g) s s.heap) (k : PW g M d kc ks Q (pc + 3) ls (v :: st) h) : PW g M d kc ks Q pc ls (.ref q :: st) h := by
  intro p e R s m args below meth c H locs cells slots mc ms arr Z h1 h2 h3 h4 h5 h6 hR hS hL
  obtain ⟨hx, hb, hml, hown, hts, hr, hlocks, hnm, hof, hst, htab⟩ := id Z
  exact vk_getf hx hb (hE s hof.2.2.2.1) hS hown (hts _ hl) (fun x hx => hx) dc (k p e R s m args below meth c H locs cells slots mc ms arr Z h1 h2 h3 h4 h5 h6 hR hS hL)
theorem pw_gets {idx : Nat} {C n ds : String} {v : Value} (dc : decode M.2.1 pc = .ok (.getstatic idx, 3)) (hl : Cond.fieldLink M.1.cls idx C n ds ∈ gw) (hE : ∀ s, OFh g s s.heap → va_Z C n ds v (A0 g) s s.heap) (k : PW g M d kc ks Q (pc + 3) ls (v :: st) h) : PW g M d kc ks Q pc ls st h := by
  intro p e R s m args below meth c H locs cells slots mc ms arr Z h1 h2 h3 h4 h5 h6 hR hS hL
  obtain ⟨hx, hb, hml, hown, hts, hr, hlocks, hnm, hof, hst, htab⟩ := id Z
  exact va_gets hx hb (hE s hof.2.2.2.1) hS hown (hts _ hl) (fun x hx => hx) dc (k p e R s m args below meth c H locs cells slots mc ms arr Z h1 h2 h3 h4 h5 h6 hR hS hL)
theorem pw_getsq {idx : Nat} {C n ds : String} (dc : decode M.2.1 pc = .ok (.getstatic idx, 3)) (hl : Cond.fieldLink M.1.cls idx C n ds ∈ gw) (hE : ∀ s, OFh g s s.heap → va_Zq C n ds (A0 g) s s.heap) (k0 : PW g M d kc ks Q (pc + 3) ls (.null :: st) h) (k1 : ∀ t : Nat, PW g M d kc ks Q (pc + 3) ls (.ref t :: st) h) : PW g M d kc ks Q pc ls st h := by
  intro p e R s m args below meth c H locs cells slots mc ms arr Z h1 h2 h3 h4 h5 h6 hR hS hL
  obtain ⟨hx, hb, hml, hown, hts, hr, hlocks, hnm, hof, hst, htab⟩ := id Z
  rcases hE s hof.2.2.2.1 with q | ⟨t, q⟩
  · exact va_gets hx hb q hS hown (hts _ hl) (fun x hx => hx) dc (k0 p e R s m args below meth c H locs cells slots mc ms arr Z h1 h2 h3 h4 h5 h6 hR hS hL)
  · exact va_gets hx hb q hS hown (hts _ hl) (fun x hx => hx) dc (k1 t p e R s m args below meth c H locs cells slots mc ms arr Z h1 h2 h3 h4 h5 h6 hR hS hL)
theorem pw_tlen {t N : Nat} {f : Nat → Value} {v : Int32} (dc : decode M.2.1 pc = .ok (.arraylength, 1)) (hE : ∀ s, OFh g s s.heap → va_T .byte t N f (A0 g) s s.heap) (hv : Int32.ofNat N = v) (k : PW g M d kc ks Q (pc + 1) ls (.int v :: st) h) : PW g M d kc ks Q pc ls (.ref t :: st) h := by
  intro p e R s m args below meth c H locs cells slots mc ms arr Z h1 h2 h3 h4 h5 h6 hR hS hL
  exact va_tlen Z.1 Z.2.1 (hE s Z.2.2.2.2.2.2.2.2.1.2.2.2.1) hS hv dc (k p e R s m args below meth c H locs cells slots mc ms arr Z h1 h2 h3 h4 h5 h6 hR hS hL)
theorem pw_tb {t N k0 : Nat} {f : Nat → Value} {v : Value} (dc : decode M.2.1 pc = .ok (.baload, 1)) (hE : ∀ s, OFh g s s.heap → va_T .byte t N f (A0 g) s s.heap) (hk : k0 < N) (hN : N < 2 ^ 31) (hv : f k0 = v) (k : PW g M d kc ks Q (pc + 1) ls (v :: st) h) : PW g M d kc ks Q pc ls (.int (nI k0) :: .ref t :: st) h := by
  intro p e R s m args below meth c H locs cells slots mc ms arr Z h1 h2 h3 h4 h5 h6 hR hS hL
  exact va_tb Z.1 Z.2.1 (hE s Z.2.2.2.2.2.2.2.2.1.2.2.2.1) hS (vp_in_nI hk hN) (by rw [nI_clamp (by omega)]; exact hv) dc (k p e R s m args below meth c H locs cells slots mc ms arr Z h1 h2 h3 h4 h5 h6 hR hS hL)
theorem pw_ldcS {idx i : Nat} (dc : decode M.2.1 pc = .ok (.ldc idx, 2)) (hcl : M.1.cls = "CascadeBus$Reader") (hi : i < 19) (hix : strI.getD i 0 = idx) (k : PW g M d kc ks Q (pc + 2) ls (.ref (gk g i) :: st) h) : PW g M d kc ks Q pc ls st h := by
  subst hix
  intro p e R s m args below meth c H locs cells slots mc ms arr Z h1 h2 h3 h4 h5 h6 hR hS hL
  obtain ⟨hx, hb, hml, hown, hts, hr, hlocks, hnm, hof, hst, htab⟩ := id Z
  exact va_ldcS hx hb (by rw [← hcl]; exact hown) (hof.2.2.2.2.1 i hi) dc (k p e R s m args below meth c H locs cells slots mc ms arr Z h1 h2 h3 h4 h5 h6 hR hS hL)
theorem pw_ldcw {idx : Nat} {v : Int32} (dc : decode M.2.1 pc = .ok (.ldc_w idx, 3)) (hl : Cond.constant M.1.cls idx v ∈ gw) (k : PW g M d kc ks Q (pc + 3) ls (.int v :: st) h) : PW g M d kc ks Q pc ls st h := by
  intro p e R s m args below meth c H locs cells slots mc ms arr Z h1 h2 h3 h4 h5 h6 hR hS hL
  obtain ⟨hx, hb, hml, hown, hts, hr, hlocks, hnm, hof, hst, htab⟩ := id Z
  exact lv_ldcw hx hb hown (hts _ hl) dc (k p e R s m args below meth c H locs cells slots mc ms arr Z h1 h2 h3 h4 h5 h6 hR hS hL)
theorem pw_i2c {x : Int32} (dc : decode M.2.1 pc = .ok (.i2c, 1)) (k : PW g M d kc ks Q (pc + 1) ls (.int (x.toUInt32 % 65536).toInt32 :: st) h) : PW g M d kc ks Q pc ls (.int x :: st) h := PW.go (fun _ _ _ _ _ _ _ _ _ _ _ _ _ _ _ hx hb hL w => lv_i2c hx hb dc rfl w) k
theorem pw_abs {idx : Nat} {x : Int32} (dc : decode M.2.1 pc = .ok (.invokestatic idx, 3)) (hl : Cond.methodLink M.1.cls idx Lib.Math.abs.name ∈ gw ∧ Cond.static Lib.Math.abs.name ∈ gw ∧ Cond.initialized "java/lang/Math" ∈ gw ∧ Cond.code Lib.Math.abs.name Lib.Math.abs.code 1 (some .int) ∈ gw) (hd : 1 ≤ d) (hsum : (st.map fun v => v.category).sum ≤ 8) (k : PW g M d kc ks Q (pc + 3) ls (.int (if 0 ≤ x then x else 0 - x) :: st) h) : PW g M d kc ks Q pc ls (.int x :: st) h := by
  intro p e R s m args below meth c H locs cells slots mc ms arr Z h1 h2 h3 h4 h5 h6 hR hS hL
  obtain ⟨hx, hb, hml, hown, hts, hr, hlocks, hnm, hof, hst, htab⟩ := id Z
  exact va_mabs hx hb (hml.trans hL.1.symm) hown (hts _ hl.1) (hts _ hl.2.1) (hts _ hl.2.2.1) (hts _ hl.2.2.2) (by omega) (by omega) (by omega) (by omega) dc (k p e R s m args below meth c H locs cells slots mc ms arr Z h1 h2 h3 h4 h5 h6 hR hS hL)
/-- a call of a method of a text -/
theorem pw_detT {idx i n d' : Nat} {M' : MI} {As : List Value} {r : Option Value} {h1 : Hp} {st0 : List Value} (dc : decode M.2.1 pc = .ok (.invokevirtual idx, 3)) (hl : LV M.1.cls idx M' n) (hc : M'.1.cls = "java/lang/String") (hi : i < 19)
    (hM : PM g M' d' 0 0 (.ref (gk g i) :: As) h (RetV r h1)) (hn : As.length = n) (hd : d' + 1 ≤ d) (hsum : (st.map fun v => v.category).sum ≤ 8) (hst : st0 = As.reverse ++ .ref (gk g i) :: st) (k : PW g M d kc ks Q (pc + 3) ls (r.toList ++ st) h1) : PW g M d kc ks Q pc ls st0 h := by
  subst hst
  obtain ⟨⟨hmh, hml', hini, hcw⟩, hlk, hins, hsel⟩ := hl
  intro p e R s m args below meth c H locs cells slots mc ms arr Z h1 h2 h3 h4 h5 h6 hR hS hL
  obtain ⟨hx, hb, hml, hown, hts, hr, hlocks, hnm, hof, hst, htab⟩ := id Z
  refine pw_runX (kc := kc) (ks := ks) (mc' := 0) (ms' := 0) (M' := M') (vx_runV (As := As) (rest := st) (C := M'.1.cls) ⟨hx, hb, hml, hown, hts⟩ hM ⟨callB_of n hts (wsM_good hcw) rfl rfl rfl (hts _ hini) (hts _ hlk) hmh ⟨?_, ?_⟩, hts _ hins, hts _ hsel⟩ ⟨blind_PcM, by rw [hc]; exact vk_recv hof.2.2.2.1.2.2.2.2.1 hi hS, pre_of hof hR hS⟩ rfl hn hL.1 rfl (lv_room hsum) dc ⟨by omega, by omega⟩) Z h1 h2 h3 h4 h5 h6 hS hL (fun v h' q => by obtain ⟨q1, q2⟩ := q; cases q1; subst q2; exact k) (fun E h' q => by cases q.1)
  · show d' + 1 ≤ R.frames; omega
  · show 8 + (M'.2.2.1 + 11) + 40 * d' ≤ R.locals; omega
end
def strL (i : Nat) : Nat := strN.getD i 0
def strC (i k : Nat) : Int32 := (strB.getD i []).getD k 0
theorem strL_lt : ∀ i, i < 19 → strL i < 8 := by decide
theorem strC_ok : ∀ i, i < 19 → ∀ k, k < 8 → ((strC i k &&& 255).toUInt32 % 65536).toInt32 = strC i k ∧ narrow .char (.int (strC i k)) = .int (strC i k) := by decide +kernel
theorem q_coder {g : GG} {h : Hp} (hst : (gl g).stackTraces = false) (i : Nat) (hi : i < 19) : PM g M_JString_coder 0 0 0 [.ref (gk g i)] h (RetV (some (.int 0)) h) := by
  refine PM.of hst (by decide) rfl (fun v hv => ?_) (Nat.le_of_ble_eq_true rfl) ?_
  · simp only [List.mem_cons, List.not_mem_nil, or_false] at hv; subst hv; rfl
  · refine pw_gets e_JString_coder_0 fs_38 (fun s ho => ho.2.2.2.2.2.1) ?_
    refine pw_if_eq (tgt := 13) e_JString_coder_3 (by decide) (fun q => absurd q (by decide)) (fun _ => ?_)
    refine pw_aload_n e_JString_coder_6 rfl ?_
    refine pw_getS e_JString_coder_7 fs_15 (fun s ho => (ho.2.2.2.2.1.1 i hi).2.1) ?_
    refine pw_goto (tgt := 14) e_JString_coder_10 (by decide) ?_
    exact pw_iret e_JString_coder_14 rfl rfl ⟨rfl, rfl⟩
theorem q_isLatin1 {g : GG} {h : Hp} (hst : (gl g).stackTraces = false) (i : Nat) (hi : i < 19) : PM g M_JString_isLatin1 0 0 0 [.ref (gk g i)] h (RetV (some (.int (nI 1))) h) := by
  refine PM.of hst (by decide) rfl (fun v hv => ?_) (Nat.le_of_ble_eq_true rfl) ?_
  · simp only [List.mem_cons, List.not_mem_nil, or_false] at hv; subst hv; rfl
  · refine pw_gets e_JString_isLatin1_0 fs_38 (fun s ho => ho.2.2.2.2.2.1) ?_
    refine pw_if_eq (tgt := 17) e_JString_isLatin1_3 (by decide) (fun q => absurd q (by decide)) (fun _ => ?_)
    refine pw_aload_n e_JString_isLatin1_6 rfl ?_
    refine pw_getS e_JString_isLatin1_7 fs_15 (fun s ho => (ho.2.2.2.2.1.1 i hi).2.1) ?_
    refine pw_if_ne (tgt := 17) e_JString_isLatin1_10 (by decide) (fun q => absurd rfl q) (fun _ => ?_)
    refine pw_iconst (v := nI 1) e_JString_isLatin1_13 (by decide) ?_
    refine pw_goto (tgt := 18) e_JString_isLatin1_14 (by decide) ?_
    exact pw_iret e_JString_isLatin1_18 rfl (by decide) ⟨rfl, rfl⟩
theorem q_length {g : GG} {h : Hp} (hst : (gl g).stackTraces = false) (i : Nat) (hi : i < 19) : PM g M_JString_length 1 0 0 [.ref (gk g i)] h (RetV (some (.int (nI (strL i)))) h) := by
  refine PM.of hst (by decide) rfl (fun v hv => ?_) (Nat.le_of_ble_eq_true rfl) ?_
  · simp only [List.mem_cons, List.not_mem_nil, or_false] at hv; subst hv; rfl
  · refine pw_aload_n e_JString_length_0 rfl ?_
    refine pw_getS e_JString_length_1 fs_9 (fun s ho => (ho.2.2.2.2.1.1 i hi).2.2.1) ?_
    refine pw_tlen e_JString_length_4 (fun s ho => (ho.2.2.2.2.1.1 i hi).2.2.2) rfl ?_
    refine pw_aload_n e_JString_length_5 rfl ?_
    refine pw_detT (As := []) e_JString_length_6 li_JString_335 rfl hi (q_coder hst i hi) rfl (by decide) (Nat.le_of_ble_eq_true rfl) rfl ?_
    refine pw_ishr e_JString_length_9 ?_
    refine pw_iret e_JString_length_10 rfl rfl ?_
    rw [sb_shr0]
    exact ⟨rfl, rfl⟩
theorem q_checkIndex {g : GG} {h : Hp} (hst : (gl g).stackTraces = false) (k n : Nat) (hk : k < n) (hn : n < 2 ^ 31) (v : Value) (hv : v = .null ∨ ∃ t, v = .ref t) : PM g M_JPre_checkIndex 0 0 0 [.int (nI k), .int (nI n), v] h (RetV (some (.int (nI k))) h) := by
  refine PM.of hst (by decide) rfl (fun w hw => ?_) (Nat.le_of_ble_eq_true rfl) ?_
  · simp only [List.mem_cons, List.not_mem_nil, or_false] at hw; rcases hw with rfl | rfl | rfl
    · rfl
    · rfl
    · rcases hv with rfl | ⟨t, rfl⟩ <;> rfl
  · refine pw_iload_n e_JPre_checkIndex_0 rfl ?_
    refine pw_if_lt (tgt := 9) e_JPre_checkIndex_1 (by decide) (fun q => absurd q (nI_pos (by omega))) (fun _ => ?_)
    refine pw_iload_n e_JPre_checkIndex_4 rfl ?_
    refine pw_iload_n e_JPre_checkIndex_5 rfl ?_
    refine pw_icmp_ltN (tgt := 16) e_JPre_checkIndex_6 (by decide) (by omega) (by omega) (fun _ => ?_) (fun q => absurd q (by omega))
    refine pw_iload_n e_JPre_checkIndex_16 rfl ?_
    exact pw_iret e_JPre_checkIndex_17 rfl rfl ⟨rfl, rfl⟩
theorem q_sCheck {g : GG} {h : Hp} (hst : (gl g).stackTraces = false) (k n : Nat) (hk : k < n) (hn : n < 2 ^ 31) : PM g M_JString_checkIndex 1 0 0 [.int (nI k), .int (nI n)] h (RetV none h) := by
  refine PM.of hst (by decide) rfl (fun w hw => ?_) (Nat.le_of_ble_eq_true rfl) ?_
  · simp only [List.mem_cons, List.not_mem_nil, or_false] at hw; rcases hw with rfl | rfl <;> rfl
  · refine pw_iload_n e_JString_checkIndex_0 rfl ?_
    refine pw_iload_n e_JString_checkIndex_1 rfl ?_
    refine pw_getsq e_JString_checkIndex_2 fs_1053 (fun s ho => ho.2.2.2.2.2.2.1) ?_ (fun t => ?_)
    · refine pw_detS (As := [.int (nI k), .int (nI n), .null]) e_JString_checkIndex_5 li_JString_1059 (q_checkIndex hst k n hk hn _ (Or.inl rfl)) rfl (by decide) (Nat.le_of_ble_eq_true rfl) rfl ?_
      refine pw_pop e_JString_checkIndex_8 rfl ?_
      exact pw_vret e_JString_checkIndex_9 rfl ⟨rfl, rfl⟩
    · refine pw_detS (As := [.int (nI k), .int (nI n), .ref t]) e_JString_checkIndex_5 li_JString_1059 (q_checkIndex hst k n hk hn _ (Or.inr ⟨t, rfl⟩)) rfl (by decide) (Nat.le_of_ble_eq_true rfl) rfl ?_
      refine pw_pop e_JString_checkIndex_8 rfl ?_
      exact pw_vret e_JString_checkIndex_9 rfl ⟨rfl, rfl⟩
theorem q_latinAt {g : GG} {h : Hp} (hst : (gl g).stackTraces = false) (i k : Nat) (hi : i < 19) (hk : k < strL i) : PM g M_JLatin_charAt 2 0 0 [.ref (gv g i), .int (nI k)] h (RetV (some (.int (strC i k))) h) := by
  have hlt := strL_lt i hi
  have hc := strC_ok i hi k (by omega)
  refine PM.of hst (by decide) rfl (fun w hw => ?_) (Nat.le_of_ble_eq_true rfl) ?_
  · simp only [List.mem_cons, List.not_mem_nil, or_false] at hw; rcases hw with rfl | rfl <;> rfl
  · refine pw_iload_n e_JLatin_charAt_0 rfl ?_
    refine pw_aload_n e_JLatin_charAt_1 rfl ?_
    refine pw_tlen (v := nI (strL i)) e_JLatin_charAt_2 (fun s ho => (ho.2.2.2.2.1.1 i hi).2.2.2) rfl ?_
    refine pw_detS (As := [.int (nI k), .int (nI (strL i))]) e_JLatin_charAt_3 li_JLatin_9 (q_sCheck hst k _ hk (by omega)) rfl (by decide) (Nat.le_of_ble_eq_true rfl) rfl ?_
    refine pw_aload_n e_JLatin_charAt_6 rfl ?_
    refine pw_iload_n e_JLatin_charAt_7 rfl ?_
    refine pw_tb (v := .int (strC i k)) e_JLatin_charAt_8 (fun s ho => (ho.2.2.2.2.1.1 i hi).2.2.2) hk (by show strL i < _; omega) rfl ?_
    refine pw_sipush (v := 255) e_JLatin_charAt_9 (by decide) ?_
    refine pw_iand e_JLatin_charAt_12 ?_
    refine pw_i2c e_JLatin_charAt_13 ?_
    rw [hc.1]
    exact pw_iret e_JLatin_charAt_14 rfl hc.2 ⟨rfl, rfl⟩
theorem q_charAt {g : GG} {h : Hp} (hst : (gl g).stackTraces = false) (i k : Nat) (hi : i < 19) (hk : k < strL i) : PM g M_JString_charAt 3 0 0 [.ref (gk g i), .int (nI k)] h (RetV (some (.int (strC i k))) h) := by
  have hlt := strL_lt i hi
  have hc := strC_ok i hi k (by omega)
  refine PM.of hst (by decide) rfl (fun w hw => ?_) (Nat.le_of_ble_eq_true rfl) ?_
  · simp only [List.mem_cons, List.not_mem_nil, or_false] at hw; rcases hw with rfl | rfl <;> rfl
  · refine pw_aload_n e_JString_charAt_0 rfl ?_
    refine pw_detT (As := []) e_JString_charAt_1 li_JString_492 rfl hi (q_isLatin1 hst i hi) rfl (by decide) (Nat.le_of_ble_eq_true rfl) rfl ?_
    refine pw_if_eq (tgt := 16) e_JString_charAt_4 (by decide) (fun q => absurd q (by decide)) (fun _ => ?_)
    refine pw_aload_n e_JString_charAt_7 rfl ?_
    refine pw_getS e_JString_charAt_8 fs_9 (fun s ho => (ho.2.2.2.2.1.1 i hi).2.2.1) ?_
    refine pw_iload_n e_JString_charAt_11 rfl ?_
    refine pw_detS (As := [.ref (gv g i), .int (nI k)]) e_JString_charAt_12 li_JString_495 (q_latinAt hst i k hi hk) rfl (by decide) (Nat.le_of_ble_eq_true rfl) rfl ?_
    exact pw_iret e_JString_charAt_15 rfl hc.2 ⟨rfl, rfl⟩

