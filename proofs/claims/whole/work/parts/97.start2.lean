/-! the law in the machine (written by wip/whole/c_start2.py) -/
theorem law_whole {Rel : RT} (E : EqAll Rel) (hR : Rel S00 P00 Y00 C0M Z0M) {p : Program} {e : Env} {s : State} {m : MethodId} {below : List Frame} {meth : Method} {c : Code} (l : Launch) (hflags : l.flags = flags0) {b L : Nat} {xs : Nat → Int32} (hL : L ≤ 3072) (hx : p.tables.exec = Jvm.exec) (hb : c.code = code) (hr : meth.sig.returnType = ret) (hml : c.maxLocals = 7) (hown : s.vm.findClass "CascadeBusLaw" = some m.cls) (hts : ∀ w ∈ lw_tbl, w.before #[Value.ref b] s = true) (hX : va_X b L xs s s.heap) (hbl : b < s.heap.size) (hlocks : meth.locks = false) (hgv : (Jvm.Cond.and given_1 narrow_1).before #[Value.ref b] s = true) (hnm : meth.name = "law") (htab : c.exceptionTable.toList = []) :
    W p l e room_1 s m #[Value.ref b] below meth c s.heap [] 0 0 (fun t => ∃ o, t.status = .running ∧ Ended t below o ∧ o = .returned (some (.int 1)) ∧ Framed s o t [] 601024 7293033) (entryFrame m ([Value.ref b] : List Value).toArray 7) := by
  obtain ⟨g, rfl, eb, rfl, rfl, rfl, hof⟩ := st_OF l hts hX hbl hgv
  have hst : (gl g).stackTraces = false := by
    unfold Launch.stackTraces; rw [hflags]; decide
  have hRl : Rl g (fun _ => none) s.heap := ⟨[], (fun k q h => (by cases h)), ⟨(fun i j p q h => (by cases h)), (fun k q h => (by cases h))⟩, (fun a e h => (by cases h))⟩
  rw [lg_entry_eq]
  have K := law_0 (g := g) (Q := fun r _ => r = .inl (some (.int 1))) hst E hR hL (fun _ => rfl) p e room_1 s m #[Value.ref (gsa g)] below meth c s.heap [] 0 0 601024 7293033 _ ⟨hx, hb, hml, hown, fun w hw => hts w (gw_tb w hw), hr, hlocks, hnm, hof, hst, htab⟩ (by decide) (by decide) (by omega) (by omega) (Nat.le_refl _) (Nat.le_refl _) hRl va_S.rf (LH.entry (As := [Value.ref (gsa g)]) (n := 7) (fun v hv => by rw [List.mem_singleton.mp hv]; rfl) (Nat.le_of_ble_eq_true rfl))
  intro T hT X
  obtain ⟨t, a1, o, b1, b2, b3⟩ := K T hT X
  refine ⟨t, a1, o, b1, b2, ?_⟩
  rcases b3 with ⟨⟨v, h', e1, e2, -⟩, Lc, ⟨f1, f2, f3⟩, f4⟩ | ⟨q, e1, E', ce, Lc, ⟨h', e2, -⟩, -⟩
  · cases e2
    exact ⟨e1, f1, f2, f3.weaken (fun x hx hlt => absurd hlt (Nat.not_lt.mpr (by have z := f4 x hx; unfold A0 at z; rw [eb] at z; exact z))) (Nat.le_refl _) (Nat.le_refl _)⟩
  · cases e2
