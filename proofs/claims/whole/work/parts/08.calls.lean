/-! rows of PW: calls, what is made, throws -/
theorem Met.of_vx {l : Launch} {y : MethodName} {ws : List Cond} {rm : Room} {Pc : Array Value → State → Prop} {Qc : Array Value → State → Outcome → State → Prop} {XC : String → State → State → Prop} {mc ms : Nat} {free : Addr → Prop}
    (h : vx_Met l y ws rm Pc Qc XC mc ms free) (hx : ∀ E st t, ¬ XC E st t) : Met l y ws rm Pc Qc mc ms free := by
  intro p e a b c s m args below h1 h2 h3 h4
  obtain ⟨n, o, q1, q2, q3, q4⟩ := h p e a b c s m args below h1 h2 h3 h4
  refine ⟨n, o, q1, q2, q3, ?_⟩
  rcases q4 with q4 | ⟨q, -, E, ce, L, q5, -⟩
  · exact q4
  · exact absurd q5 (hx _ _ _)
/-- it never throws -/
def NoX (Q : QT) : Prop := ∀ (E : String) (h : Hp), ¬ Q (.inr E) h
theorem PM.met {g : GG} {M : MI} {d kc ks : Nat} {As : List Value} {h : Hp} {Q : QT} (k : PM g M d kc ks As h Q) (hq : NoX Q) : Met (gl g) M.1 (wsM M) (rmM d kc ks) (PcM g As h) (Qc g Q) kc ks (A0 g) :=
  Met.of_vx k (fun E st t ⟨h', q, _⟩ => hq E h' q)
section
variable {g : GG} {M : MI} {d kc ks : Nat} {Q : QT} {pc : Nat} {ls st : List Value} {h : Hp}
variable {p : Program} {e : Env} {R : Room} {s : State} {m : MethodId} {args : Array Value} {below : List Frame} {meth : Method} {c : Code} {H : Heap} {locs : List Loc} {cells slots mc ms : Nat} {arr : Array Slot}
theorem S_trans {st0 t T' : State} {L : List Loc} (hS : va_S (A0 g) s.heap H locs) (h0 : st0.heap = H) (e1 : T'.heap = t.heap) (hL : ∀ q ∈ L, A0 g q.base) (hF : va_F (A0 g) st0 t) : va_S (A0 g) s.heap T'.heap (locs ++ L) := by
  obtain ⟨hz, hk⟩ := hF
  rw [h0] at hz hk
  refine ⟨Nat.le_trans hS.1 (by rw [e1]; exact hz), fun q h1 h2 => ?_, fun q hq => ?_⟩
  · rw [e1, hk q (Nat.lt_of_lt_of_le h1 hS.1) h2]; exact hS.2.1 q h1 h2
  · rcases List.mem_append.mp hq with h | h
    · exact hS.2.2 q h
    · exact hL q h
theorem pw_run {M' : MI} {Q' : QT} {a : Array Value} {mc' ms' : Nat} {st0 : List Value}
    (hr : va_Run p (gl g) e R s m args below meth c H locs cells slots mc' ms' (F0 m pc arr st0) st (Qc g Q' a) (A0 g))
    (Z : Cx g M p s m args meth c) (h1 : d ≤ R.frames) (h2 : 40 * d ≤ R.locals) (h3 : cells + (kc + mc') ≤ mc) (h4 : slots + (ks + ms') ≤ ms) (h5 : mc ≤ R.cells) (h6 : ms ≤ R.slots) (hS : va_S (A0 g) s.heap H locs) (hL : LH arr M.2.2.1 ls)
    (kn : ∀ (v : Option Value) (h' : Hp), Q' (.inl v) h' → PW g M d kc ks Q (pc + 3) ls (v.toList ++ st) h') :
    W p (gl g) e R s m args below meth c H locs cells slots (vx_MQ below (Qc g Q) (Xc g Q) args s mc ms (A0 g)) (F0 m pc arr st0) := by
  intro T hT X
  obtain ⟨v, st₀, t, T', L, h0, X', hLL, e1, e2, ⟨v', h', hv, hq, hR', hF⟩, go⟩ := hr T hT X
  cases hv
  obtain ⟨t2, a1, b1⟩ := kn v h' hq p e R s m args below meth c T'.heap (locs ++ L) (cells + mc') (slots + ms') mc ms arr Z h1 h2 (by omega) (by omega) h5 h6 (by rw [e1]; exact hR') (S_trans hS h0 e1 hLL hF) hL T' rfl X'
  exact ⟨t2, go t2 a1, b1⟩
theorem pw_runX {M' : MI} {Q' : QT} {a : Array Value} {mc' ms' : Nat} {st0 : List Value}
    (hr : vx_Run p (gl g) e R s m args below meth c H locs cells slots mc' ms' (F0 m pc arr st0) st (Qc g Q' a) (Xc g Q') (A0 g))
    (Z : Cx g M p s m args meth c) (h1 : d ≤ R.frames) (h2 : 40 * d ≤ R.locals) (h3 : cells + (kc + mc') ≤ mc) (h4 : slots + (ks + ms') ≤ ms) (h5 : mc ≤ R.cells) (h6 : ms ≤ R.slots) (hS : va_S (A0 g) s.heap H locs) (hL : LH arr M.2.2.1 ls)
    (kn : ∀ (v : Option Value) (h' : Hp), Q' (.inl v) h' → PW g M d kc ks Q (pc + 3) ls (v.toList ++ st) h') (kx : ∀ (E : String) (h' : Hp), Q' (.inr E) h' → M.2.2.2.2 = [] ∧ Q (.inr E) h') :
    W p (gl g) e R s m args below meth c H locs cells slots (vx_MQ below (Qc g Q) (Xc g Q) args s mc ms (A0 g)) (F0 m pc arr st0) := by
  intro T hT X
  rcases hr T hT X with ⟨v, st₀, t, T', L, h0, X', hLL, e1, e2, ⟨v', h', hv, hq, hR', hF⟩, go⟩ | ⟨q, st₀, t, T', L, E, ce, h0, X', hLL, e1, e2, ⟨h', hq, hR', hF⟩, hce, hcv, hcl, stp⟩
  · cases hv
    obtain ⟨t2, a1, b1⟩ := kn v h' hq p e R s m args below meth c T'.heap (locs ++ L) (cells + mc') (slots + ms') mc ms arr Z h1 h2 (by omega) (by omega) h5 h6 (by rw [e1]; exact hR') (S_trans hS h0 e1 hLL hF) hL T' rfl X'
    exact ⟨t2, go t2 a1, b1⟩
  · obtain ⟨hx, hb, hml, hown, hts, hr0, hlocks, hnm, hof, hst, htab⟩ := id Z
    obtain ⟨hh, hq2⟩ := kx E h' hq
    have hS2 := S_trans hS h0 e1 hLL hF
    have hout : ∀ x ∈ c.exceptionTable.toList, covers x pc = false := by
      rw [htab, hh]; intro x hx; cases hx
    obtain ⟨t2, a1, b1⟩ := vx_out (Qc := Qc g Q) (XC := Xc g Q) (free := A0 g) (pc := pc) (ls := arr) (rest := st) (mc := mc) (ms := ms) (p := p) (l := gl g) (e := e) (R := R) (below := below) (args := args) hout hlocks (H := T'.heap) (by rw [e1]; exact hce) hcv hcl
      (fun t3 ht3 _ => ⟨h', hq2, by rw [ht3, e1]; exact hR', hS2.F ht3⟩) hS2.2.2 (by omega) (by omega) T' rfl X'
    exact ⟨t2, stp.trans a1, b1⟩
theorem pre_of {As : List Value} (Z : OF g s) (hR : Rl g h H) (hS : va_S (A0 g) s.heap H locs) : ∀ U : State, U.heap = H → s.WarmedH U.vm → PcM g As h As.toArray U := fun U hU hW => ⟨rfl, by rw [hU]; exact hR, Z.at hW hS hU⟩
end
section
variable {g : GG} {M : MI} {d kc ks : Nat} {Q : QT} {pc : Nat} {ls st : List Value} {h : Hp}
/-- a call of a method of an object -/
theorem pw_callV {idx b ci N n d' kc' ks' : Nat} {M' : MI} {T : u_T} {fs : List Value} {As : List Value} {Q' : QT} (dc : decode M.2.1 pc = .ok (.invokevirtual idx, 3)) (hl : LV M.1.cls idx M' n) (hc : vcl[ci]? = some (M'.1.cls, T, N)) (hf : h b = some (.inr (ci, fs)))
    (hM : PM g M' d' kc' ks' (.ref b :: As) h Q') (hn : As.length = n) (hd : d' + 1 ≤ d) (hsum : (st.map fun v => v.category).sum ≤ 8)
    (kx : ∀ (E : String) (h' : Hp), Q' (.inr E) h' → M.2.2.2.2 = [] ∧ Q (.inr E) h') (kn : ∀ (v : Option Value) (h' : Hp), Q' (.inl v) h' → PW g M d kc ks Q (pc + 3) ls (v.toList ++ st) h') :
    PW g M d (kc + kc') (ks + ks') Q pc ls (As.reverse ++ .ref b :: st) h := by
  obtain ⟨⟨hmh, hml', hini, hcw⟩, hlk, hins, hsel⟩ := hl
  intro p e R s m args below meth c H locs cells slots mc ms arr Z h1 h2 h3 h4 h5 h6 hR hS hL
  obtain ⟨hx, hb, hml, hown, hts, hr, hlocks, hnm, hof, hst, htab⟩ := id Z
  refine pw_runX (M' := M') (vx_runV (As := As) (rest := st) (C := M'.1.cls) ⟨hx, hb, hml, hown, hts⟩ hM ⟨callB_of n hts (wsM_good hcw) rfl rfl rfl (hts _ hini) (hts _ hlk) hmh ⟨?_, ?_⟩, hts _ hins, hts _ hsel⟩ ⟨blind_PcM, va_recv hof.1 (hR.p1 hf) (q0 := 0) hc rfl, pre_of hof hR hS⟩ rfl hn hL.1 rfl (lv_room hsum) dc ⟨by omega, by omega⟩) Z h1 h2 h3 h4 h5 h6 hS hL kn kx
  · show d' + 1 ≤ R.frames; omega
  · show 8 + (M'.2.2.1 + 11) + 40 * d' ≤ R.locals; omega
theorem pw_callS {idx n d' kc' ks' : Nat} {M' : MI} {As : List Value} {Q' : QT} (dc : decode M.2.1 pc = .ok (.invokestatic idx, 3)) (hl : LSt M.1.cls idx M' n)
    (hM : PM g M' d' kc' ks' As h Q') (hn : As.length = n) (hd : d' + 1 ≤ d) (hsum : (st.map fun v => v.category).sum ≤ 8)
    (kx : ∀ (E : String) (h' : Hp), Q' (.inr E) h' → M.2.2.2.2 = [] ∧ Q (.inr E) h') (kn : ∀ (v : Option Value) (h' : Hp), Q' (.inl v) h' → PW g M d kc ks Q (pc + 3) ls (v.toList ++ st) h') :
    PW g M d (kc + kc') (ks + ks') Q pc ls (As.reverse ++ st) h := by
  obtain ⟨⟨hmh, hml', hini, hcw⟩, hlk, hstt⟩ := hl
  intro p e R s m args below meth c H locs cells slots mc ms arr Z h1 h2 h3 h4 h5 h6 hR hS hL
  obtain ⟨hx, hb, hml, hown, hts, hr, hlocks, hnm, hof, hst, htab⟩ := id Z
  refine pw_runX (M' := M') (vx_runS (As := As) (rest := st) ⟨hx, hb, hml, hown, hts⟩ hM ⟨callB_of n hts (wsM_good hcw) rfl rfl rfl (hts _ hini) (hts _ hlk) hmh ⟨?_, ?_⟩, hts _ hstt⟩ ⟨blind_PcM, pre_of hof hR hS⟩ rfl hn hL.1 rfl (lv_room hsum) dc ⟨by omega, by omega⟩) Z h1 h2 h3 h4 h5 h6 hS hL kn kx
  · show d' + 1 ≤ R.frames; omega
  · show 8 + (M'.2.2.1 + 11) + 40 * d' ≤ R.locals; omega
theorem pw_callI {idx b n d' kc' ks' : Nat} {M' : MI} {As : List Value} {Q' : QT} (dc : decode M.2.1 pc = .ok (.invokespecial idx, 3)) (hl : LI M.1.cls idx M' n)
    (hM : PM g M' d' kc' ks' (.ref b :: As) h Q') (hn : As.length = n) (hd : d' + 1 ≤ d) (hsum : (st.map fun v => v.category).sum ≤ 8)
    (kx : NoX Q') (kn : ∀ (v : Option Value) (h' : Hp), Q' (.inl v) h' → PW g M d kc ks Q (pc + 3) ls (v.toList ++ st) h') :
    PW g M d (kc + kc') (ks + ks') Q pc ls (As.reverse ++ .ref b :: st) h := by
  obtain ⟨⟨hmh, hml', hini, hcw⟩, hlk, hins, hin, hret⟩ := hl
  intro p e R s m args below meth c H locs cells slots mc ms arr Z h1 h2 h3 h4 h5 h6 hR hS hL
  obtain ⟨hx, hb, hml, hown, hts, hr, hlocks, hnm, hof, hst, htab⟩ := id Z
  refine pw_run (M' := M') (va_runI (As := As) (rest := st) ⟨hx, hb, hml, hown, hts⟩ (hM.met kx) ⟨callB_of (bytes := M'.2.1) (maxL := M'.2.2.1) (ret := none) n hts (wsM_good hcw) (by rw [← hret]; rfl) rfl rfl (hts _ hini) (hts _ hlk) hmh ⟨?_, ?_⟩, hin, hts _ hins⟩ ⟨blind_PcM, pre_of hof hR hS⟩ rfl hn hL.1 rfl (lv_room hsum) dc ⟨by omega, by omega⟩) Z h1 h2 h3 h4 h5 h6 hS hL kn
  · show d' + 1 ≤ R.frames; omega
  · show 8 + (M'.2.2.1 + 11) + 40 * d' ≤ R.locals; omega
theorem pw_callVN {idx b ci N n d' kc' ks' : Nat} {M' : MI} {T : u_T} {fs : List Value} {As : List Value} {Q' : QT} (dc : decode M.2.1 pc = .ok (.invokevirtual idx, 3)) (hl : LVN M.1.cls idx M' n) (hc : vcl[ci]? = some (M'.1.cls, T, N)) (hf : h b = some (.inr (ci, fs)))
    (hM : PM g M' d' kc' ks' (.ref b :: As) h Q') (hn : As.length = n) (hd : d' + 1 ≤ d) (hsum : (st.map fun v => v.category).sum ≤ 8)
    (kx : NoX Q') (kn : ∀ (v : Option Value) (h' : Hp), Q' (.inl v) h' → PW g M d kc ks Q (pc + 3) ls (v.toList ++ st) h') :
    PW g M d (kc + kc') (ks + ks') Q pc ls (As.reverse ++ .ref b :: st) h := by
  obtain ⟨⟨hmh, hml', hini, hcw⟩, ⟨host, hlk⟩, hins, hsel⟩ := hl
  intro p e R s m args below meth c H locs cells slots mc ms arr Z h1 h2 h3 h4 h5 h6 hR hS hL
  obtain ⟨hx, hb, hml, hown, hts, hr, hlocks, hnm, hof, hst, htab⟩ := id Z
  refine pw_run (M' := M') (va_runVN (As := As) (rest := st) (C := M'.1.cls) ⟨hx, hb, hml, hown, hts⟩ (hM.met kx) ⟨va_cnB n hts (wsM_good hcw) rfl rfl rfl (hof.2.1 _ hlk) (hts _ hini) hmh ⟨?_, ?_⟩, hts _ hins, hts _ hsel⟩ ⟨blind_PcM, va_recv hof.1 (hR.p1 hf) (q0 := 0) hc rfl, pre_of hof hR hS⟩ rfl hn hL.1 rfl (lv_room hsum) dc ⟨by omega, by omega⟩) Z h1 h2 h3 h4 h5 h6 hS hL kn
  · show d' + 1 ≤ R.frames; omega
  · show 8 + (M'.2.2.1 + 11) + 40 * d' ≤ R.locals; omega
theorem pw_callSN {idx n d' kc' ks' : Nat} {M' : MI} {As : List Value} {Q' : QT} (dc : decode M.2.1 pc = .ok (.invokestatic idx, 3)) (hl : LSN M.1.cls idx M' n)
    (hM : PM g M' d' kc' ks' As h Q') (hn : As.length = n) (hd : d' + 1 ≤ d) (hsum : (st.map fun v => v.category).sum ≤ 8)
    (kx : NoX Q') (kn : ∀ (v : Option Value) (h' : Hp), Q' (.inl v) h' → PW g M d kc ks Q (pc + 3) ls (v.toList ++ st) h') :
    PW g M d (kc + kc') (ks + ks') Q pc ls (As.reverse ++ st) h := by
  obtain ⟨⟨hmh, hml', hini, hcw⟩, ⟨host, hlk⟩, hstt⟩ := hl
  intro p e R s m args below meth c H locs cells slots mc ms arr Z h1 h2 h3 h4 h5 h6 hR hS hL
  obtain ⟨hx, hb, hml, hown, hts, hr, hlocks, hnm, hof, hst, htab⟩ := id Z
  refine pw_run (M' := M') (va_runSN (As := As) (rest := st) ⟨hx, hb, hml, hown, hts⟩ (hM.met kx) ⟨va_cnB n hts (wsM_good hcw) rfl rfl rfl (hof.2.1 _ hlk) (hts _ hini) hmh ⟨?_, ?_⟩, hts _ hstt, trivial⟩ ⟨blind_PcM, pre_of hof hR hS⟩ rfl hn hL.1 rfl (lv_room hsum) dc ⟨by omega, by omega⟩) Z h1 h2 h3 h4 h5 h6 hS hL kn
  · show d' + 1 ≤ R.frames; omega
  · show 8 + (M'.2.2.1 + 11) + 40 * d' ≤ R.locals; omega
theorem pw_callIN {idx b n d' kc' ks' : Nat} {M' : MI} {As : List Value} {Q' : QT} (dc : decode M.2.1 pc = .ok (.invokespecial idx, 3)) (hl : LIN M.1.cls idx M' n)
    (hM : PM g M' d' kc' ks' (.ref b :: As) h Q') (hn : As.length = n) (hd : d' + 1 ≤ d) (hsum : (st.map fun v => v.category).sum ≤ 8)
    (kx : NoX Q') (kn : ∀ (v : Option Value) (h' : Hp), Q' (.inl v) h' → PW g M d kc ks Q (pc + 3) ls (v.toList ++ st) h') :
    PW g M d (kc + kc') (ks + ks') Q pc ls (As.reverse ++ .ref b :: st) h := by
  obtain ⟨⟨hmh, hml', hini, hcw⟩, ⟨host, hlk⟩, hins, hin, hret⟩ := hl
  intro p e R s m args below meth c H locs cells slots mc ms arr Z h1 h2 h3 h4 h5 h6 hR hS hL
  obtain ⟨hx, hb, hml, hown, hts, hr, hlocks, hnm, hof, hst, htab⟩ := id Z
  refine pw_run (M' := M') (va_runIN (As := As) (rest := st) ⟨hx, hb, hml, hown, hts⟩ (hM.met kx) ⟨va_cnB (bytes := M'.2.1) (maxL := M'.2.2.1) (ret := none) n hts (wsM_good hcw) (by rw [← hret]; rfl) rfl rfl (hof.2.1 _ hlk) (hts _ hini) hmh ⟨?_, ?_⟩, hin, hts _ hins⟩ ⟨blind_PcM, pre_of hof hR hS⟩ rfl hn hL.1 rfl (lv_room hsum) dc ⟨by omega, by omega⟩) Z h1 h2 h3 h4 h5 h6 hS hL kn
  · show d' + 1 ≤ R.frames; omega
  · show 8 + (M'.2.2.1 + 11) + 40 * d' ≤ R.locals; omega
end
