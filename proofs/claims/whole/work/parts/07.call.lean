/-! rows of PW: making, ending, throwing, calling -/
theorem va_ofRA {U : State} {c1 c2 : ClassId} {ty : FieldType} (h1 : va_RA U c1 ty) (h2 : va_RA U c2 ty) : c1 = c2 := by
  cases ty with
  | object C =>
    obtain ⟨_, _, -, -, -, a⟩ := h1
    obtain ⟨_, _, -, -, -, b⟩ := h2
    exact Option.some.inj (a.symm.trans b)
  | _ => exact Option.some.inj (Eq.trans (Eq.symm h1) h2)

def wsM (M : MI) : List Cond := Cond.code M.1 M.2.1 M.2.2.1 M.2.2.2.1 :: gw
def rmM (d kc ks : Nat) : Room := { frames := d, cells := kc, slots := ks, locals := 40 * d }
def PcM (g : GG) (As : List Value) (h : Hp) : Array Value → State → Prop := fun v U => v = As.toArray ∧ Rl g h U.heap ∧ OF g U
def PM (g : GG) (M : MI) (d kc ks : Nat) (As : List Value) (h : Hp) (Q : QT) : Prop :=
  vx_Met (gl g) M.1 (wsM M) (rmM d kc ks) (PcM g As h) (Qc g Q) (Xc g Q) kc ks (A0 g)
theorem gw_good : ∀ w ∈ gw, (w.onTables && w.keeps) = true ∨ ∃ ty, w = .arrayClass ty := fun w h => good_of_word (List.mem_filter.mp h).2
theorem wsM_good {M : MI} (hc : Cond.code M.1 M.2.1 M.2.2.1 M.2.2.2.1 ∈ gw) : GoodIn gw (wsM M) := by
  intro w hw
  rcases List.mem_cons.mp hw with rfl | hw
  · exact ⟨hc, gw_good _ hc⟩
  · exact ⟨hw, gw_good w hw⟩
theorem OFh.moved {g : GG} {u U : State} {H : Heap} (hvm : u.vm.Alike U.vm) (h : OFh g u H) : OFh g U H := ⟨h.1.moved hvm, h.2.1.moved hvm, h.2.2.1.moved hvm, ⟨h.2.2.2.1.1.moved hvm, h.2.2.2.1.2⟩, h.2.2.2.2.1.moved hvm, h.2.2.2.2.2.1.moved hvm, h.2.2.2.2.2.2.1.moved hvm, h.2.2.2.2.2.2.2.1.moved hvm, h.2.2.2.2.2.2.2.2.moved hvm⟩
theorem OFh.kept {g : GG} {U : State} {H H1 : Heap} (h : OFh g U H) (hq : ∀ a : Nat, a < H.size → ¬ A0 g a → H1[a]? = H[a]?) : OFh g U H1 := by
  refine ⟨h.1.kept hq, h.2.1.kept hq, h.2.2.1, ⟨h.2.2.2.1.1.kept ?_, h.2.2.2.1.2⟩, h.2.2.2.2.1.kept hq, h.2.2.2.2.2.1.kept hq, h.2.2.2.2.2.2.1.kept hq, h.2.2.2.2.2.2.2.1.kept hq, h.2.2.2.2.2.2.2.2.kept hq⟩
  obtain ⟨scr, h1, -⟩ := h.2.2.2.1.1
  exact hq _ (Array.getElem?_eq_some_iff.mp h1).1 (fun q => Nat.not_le.mpr h.2.2.2.1.2 q)
theorem va_castM {a b : String} {s U : State} (hW : s.WarmedH U.vm) (hZ : va_Nw (.castable a b) s) : va_Nw (.castable a b) U := by
  have hal := hW.alike
  unfold va_Nw at *
  simp only [Cond.before, Cond.holds, Cond.value, hal.findClass, hal.assignable] at hZ ⊢
  exact hZ
theorem nws_form {w : Cond} (h : w ∈ nws) : (∃ a i x b, w = .methodLinkNest a i x b) ∨ (∃ x, w = .declares x) ∨ ∃ a b, w = .castable a b := by
  have h2 := (List.mem_filter.mp h).2
  cases w <;> first | exact Or.inl ⟨_, _, _, _, rfl⟩ | exact Or.inr (Or.inl ⟨_, rfl⟩) | exact Or.inr (Or.inr ⟨_, _, rfl⟩) | (simp [isNest] at h2)
theorem nws_tab {w : Cond} (h : w ∈ nws) : w.onTables = true := by
  rcases nws_form h with ⟨a, i, x, b, rfl⟩ | ⟨x, rfl⟩ | ⟨a, b, rfl⟩ <;> rfl
theorem OF.at {g : GG} {s U : State} {H : Heap} {locs : List Loc} (h : OF g s) (hW : s.WarmedH U.vm) (hS : va_S (A0 g) s.heap H locs) (hU : U.heap = H) : OF g U := by
  obtain ⟨hK, hN, hb, ho, hr⟩ := h
  refine ⟨hK.moved hW.alike, fun w hw => ?_, ?_, ?_, fun i hi => (hr.1 i hi).warm hW, hr.2.moved hW.alike⟩
  · rcases nws_form hw with ⟨a, i, x, b, rfl⟩ | ⟨x, rfl⟩ | ⟨a, b, rfl⟩
    · exact va_Nw.warmM hW (hN _ hw)
    · exact va_Nw.warmD hW (hN _ hw)
    · exact va_castM hW (hN _ hw)
  · rw [hU]; exact Nat.le_trans hb hS.1
  · rw [hU]
    exact (ho.kept hS.2.1).moved hW.alike
theorem blind_PcM {g : GG} {As : List Value} {h : Hp} : FrameBlind (PcM g As h) := by
  intro a U f mk ⟨h1, h2, h3⟩
  refine ⟨h1, h2, ?_⟩
  obtain ⟨hK, hN, hb, ho, hr⟩ := h3
  exact ⟨va_K.moved (u := U) (Vm.Alike.refl U.vm) hK, fun w hw => va_Nw.same (u := U) (nws_tab hw) rfl (hN _ hw), hb, OFh.moved (u := U) (Vm.Alike.refl U.vm) ho, fun i hi => vk_R.same (u := U) rfl (hr.1 i hi), va_Nc.moved (u := U) (Vm.Alike.refl U.vm) hr.2⟩
theorem args_in : ∀ (As : List Value) (k : Nat), (∀ v ∈ As, v.category = 1) → ∀ (i : Nat) (v : Value), As[i]? = some v → (k + i, v) ∈ lv_args k As
  | [], k, _, i, v, h => by simp at h
  | a :: As, k, hc, 0, v, h => by
    simp at h
    subst h
    exact List.mem_cons_self
  | a :: As, k, hc, i + 1, v, h => by
    have ha : ¬ a.category = 2 := by rw [hc a List.mem_cons_self]; decide
    have h2 := args_in As (k + 1) (fun w hw => hc w (List.mem_cons_of_mem _ hw)) i v (by simpa using h)
    show _ ∈ (k, a) :: lv_args (if a.category = 2 then k + 2 else k + 1) As
    rw [if_neg ha, show k + (i + 1) = k + 1 + i by omega]
    exact List.mem_cons_of_mem _ h2
theorem sl_len : ∀ (As : List Value), (∀ v ∈ As, v.category = 1) → (lg_sl As).length = As.length
  | [], _ => rfl
  | a :: As, hc => by
    have ha : ¬ a.category = 2 := by rw [hc a List.mem_cons_self]; decide
    have := sl_len As (fun w hw => hc w (List.mem_cons_of_mem _ hw))
    simp [lg_sl, ha] at this ⊢
    omega
theorem LH.entry {As : List Value} {n : Nat} (hc : ∀ v ∈ As, v.category = 1) (hn : As.length ≤ n) : LH ((lg_sl As ++ List.replicate (n - (lg_sl As).length) Slot.unset).toArray) n (As ++ List.replicate (n - As.length) (.retAddr 0)) := by
  have h1 := lv_entry As (n := n) (by rw [sl_len As hc]; exact hn)
  refine ⟨h1.1, h1.2.1, fun v hv => ?_, fun i v hv => ?_⟩
  · rcases List.mem_append.mp hv with q | q
    · exact hc v q
    · rw [(List.mem_replicate.mp q).2]; rfl
  · by_cases hi : i < As.length
    · rw [List.getElem?_append_left hi] at hv
      have := h1.2.2 _ (args_in As 0 hc i v hv)
      rw [Nat.zero_add] at this
      exact Or.inr this
    · rw [List.getElem?_append_right (by omega)] at hv
      exact Or.inl (List.mem_replicate.mp (List.mem_of_getElem? hv)).2
theorem Cx.of {g : GG} {M : MI} {d kc ks : Nat} {p : Program} {e : Env} {s s₁ : State} {m : MethodId} {args : Array Value} {below : List Frame} {meth : Method} {c : Code} (hst : (gl g).stackTraces = false) (hof : OF g s)
    (B : BodyLoose p (gl g) M.1 (headSpec (wsM M) (rmM d kc ks)) M.2.1 M.2.2.1 M.2.2.2.1 e s m args below meth c s₁) (hml : c.maxLocals = M.2.2.1) (ht : c.exceptionTable.toList = tableOf M.2.2.2.2) : Cx g M p s m args meth c :=
  ⟨B.exec, B.bytes, hml, findClass_of_methodNamed B.named, fun w hw => atoms_spec (ws := wsM M) B.pre w (List.mem_cons_of_mem _ hw), B.returns, B.notSynchronized, (name_of_methodNamed B.named B.method).1, hof, hst, ht⟩
/-- a method's contract out of a walk of its body -/
theorem PM.of {g : GG} {M : MI} {d kc ks : Nat} {As : List Value} {h : Hp} {Q : QT} (hst : (gl g).stackTraces = false) (hy : plainName M.1.cls = true) (hh : M.2.2.2.2 = []) (hcat : ∀ v ∈ As, v.category = 1) (hlen : As.length ≤ M.2.2.1)
    (k : PW g M d kc ks Q 0 (As ++ List.replicate (M.2.2.1 - As.length) (.retAddr 0)) [] h) : PM g M d kc ks As h Q := by
  refine vx_ofW (cc := M.2.1) (maxL := M.2.2.1) (ret := M.2.2.2.1) hy rfl ?_
  intro p e s m args below meth c s₁ B hml htb ⟨hv, hR, hof⟩
  subst hv
  have ht : c.exceptionTable.toList = tableOf M.2.2.2.2 := by
    rw [hh]
    show _ = []
    exact List.eq_nil_iff_forall_not_mem.mpr htb
  rw [lg_entry_eq]
  exact k p e _ s m _ below meth c s.heap [] 0 0 kc ks _ (Cx.of hst hof B hml ht) (Nat.le_refl _) (Nat.le_refl _) (by omega) (by omega) (Nat.le_refl _) (Nat.le_refl _) hR va_S.rf (LH.entry hcat hlen)
section
variable {g : GG} {M : MI} {d kc ks : Nat} {Q : QT} {pc : Nat} {ls st : List Value} {h : Hp}
/-- a number is answered -/
theorem pw_iret {x : Int32} {ty : FieldType} (dc : decode M.2.1 pc = .ok (.ireturn, 1)) (hr : M.2.2.2.1 = some ty) (hn : narrow ty (.int x) = .int x) (k : Q (.inl (some (.int x))) h) : PW g M d kc ks Q pc ls [.int x] h := by
  intro p e R s m args below meth c H locs cells slots mc ms arr Z h1 h2 h3 h4 h5 h6 hR hS hL
  obtain ⟨hx, hb, hml, hown, hts, hr0, hlocks, hnm, hof, hst, htab⟩ := id Z
  refine W.widen (k := mc) (n := ms) (by omega) (by omega) ?_
  refine vx_ret (W.zret hx hb (hr0.trans hr) hn (fun t ht hW => ⟨_, h, rfl, k, by rw [ht]; exact hR, hS.F ht⟩) hS.2.2 dc hlocks)
theorem pw_vret (dc : decode M.2.1 pc = .ok (.return_, 1)) (hr : M.2.2.2.1 = none) (k : Q (.inl none) h) : PW g M d kc ks Q pc ls [] h := by
  intro p e R s m args below meth c H locs cells slots mc ms arr Z h1 h2 h3 h4 h5 h6 hR hS hL
  obtain ⟨hx, hb, hml, hown, hts, hr0, hlocks, hnm, hof, hst, htab⟩ := id Z
  refine W.widen (k := mc) (n := ms) (by omega) (by omega) ?_
  refine vx_ret (W.vret hx hb (hr0.trans hr) (fun t ht hW => ⟨_, h, rfl, k, by rw [ht]; exact hR, hS.F ht⟩) hS.2.2 dc hlocks)
theorem pw_aret {a : Nat} {n : String} (dc : decode M.2.1 pc = .ok (.areturn, 1)) (hr : M.2.2.2.1 = some (.object n)) (k : Q (.inl (some (.ref a))) h) : PW g M d kc ks Q pc ls [.ref a] h := by
  intro p e R s m args below meth c H locs cells slots mc ms arr Z h1 h2 h3 h4 h5 h6 hR hS hL
  obtain ⟨hx, hb, hml, hown, hts, hr0, hlocks, hnm, hof, hst, htab⟩ := id Z
  refine W.widen (k := mc) (n := ms) (by omega) (by omega) ?_
  refine vx_ret (W.aret hx hb (hr0.trans hr) (Or.inl ⟨n, rfl⟩) (Or.inr ⟨a, rfl⟩) (fun t ht hW => ⟨_, h, rfl, k, by rw [ht]; exact hR, hS.F ht⟩) hS.2.2 dc hlocks)
end
