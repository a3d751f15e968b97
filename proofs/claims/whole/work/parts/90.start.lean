/-! the law's entry: what was there before (written by wip/whole/c_start.py) -/
theorem gw_tb : ∀ w ∈ gw, w ∈ lw_tbl := fun w h => (List.mem_filter.mp h).1
theorem nws_tb : ∀ w ∈ nws, w ∈ lw_tbl := fun w h => (List.mem_filter.mp h).1
theorem nws_on : ∀ w ∈ nws, w.onTables = true := by
  intro w h
  have q := (List.mem_filter.mp h).2
  cases w <;> first | rfl | cases q
section
variable {b : Nat} {s : State}
theorem st_cls (hts : ∀ w ∈ gw, w.before #[Value.ref b] s = true) : ∃ D : va_G, ∀ (c : Nat) (q : vw_C), vcl[c]? = some q → u_Kn s q.1 q.2.1 q.2.2 (D.1 c) (D.2 c) := by
  have key : ∀ c : Nat, ∃ z : ClassId × (Nat → Nat), ∀ q : vw_C, vcl[c]? = some q → u_Kn s q.1 q.2.1 q.2.2 z.1 z.2 := by
    intro c
    by_cases hc : c < 12
    · rcases (by omega : c = 0 ∨ c = 1 ∨ c = 2 ∨ c = 3 ∨ c = 4 ∨ c = 5 ∨ c = 6 ∨ c = 7 ∨ c = 8 ∨ c = 9 ∨ c = 10 ∨ c = 11) with rfl | rfl | rfl | rfl | rfl | rfl | rfl | rfl | rfl | rfl | rfl | rfl
      · obtain ⟨cC, iS, hK⟩ := u_known hts i_History (hts _ in_History)
        exact ⟨(cC, iS), fun q hq => by cases hq; exact hK⟩
      · obtain ⟨cC, iS, hK⟩ := u_known hts i_Layout (hts _ in_Layout)
        exact ⟨(cC, iS), fun q hq => by cases hq; exact hK⟩
      · obtain ⟨cC, iS, hK⟩ := u_known hts i_Links (hts _ in_Links)
        exact ⟨(cC, iS), fun q hq => by cases hq; exact hK⟩
      · obtain ⟨cC, iS, hK⟩ := u_known hts i_Memory (hts _ in_Memory)
        exact ⟨(cC, iS), fun q hq => by cases hq; exact hK⟩
      · obtain ⟨cC, iS, hK⟩ := u_known hts i_Noted (hts _ in_Noted)
        exact ⟨(cC, iS), fun q hq => by cases hq; exact hK⟩
      · obtain ⟨cC, iS, hK⟩ := u_known hts i_Plan (hts _ in_Plan)
        exact ⟨(cC, iS), fun q hq => by cases hq; exact hK⟩
      · obtain ⟨cC, iS, hK⟩ := u_known hts i_Plants (hts _ in_Plants)
        exact ⟨(cC, iS), fun q hq => by cases hq; exact hK⟩
      · obtain ⟨cC, iS, hK⟩ := u_known hts i_Reader (hts _ in_Reader)
        exact ⟨(cC, iS), fun q hq => by cases hq; exact hK⟩
      · obtain ⟨cC, iS, hK⟩ := u_known hts i_State (hts _ in_State)
        exact ⟨(cC, iS), fun q hq => by cases hq; exact hK⟩
      · obtain ⟨cC, iS, hK⟩ := u_known hts i_Years (hts _ in_Years)
        exact ⟨(cC, iS), fun q hq => by cases hq; exact hK⟩
      · obtain ⟨cC, iS, hK⟩ := u_known hts i_Bus (hts _ in_Bus)
        exact ⟨(cC, iS), fun q hq => by cases hq; exact hK⟩
      · obtain ⟨cC, iS, hK⟩ := u_known hts i_Mod (hts _ in_Mod)
        exact ⟨(cC, iS), fun q hq => by cases hq; exact hK⟩
    · exact ⟨(0, fun _ => 0), fun q hq => absurd (List.getElem?_eq_some_iff.mp hq).1 (by simp only [List.length_cons, List.length_nil]; omega)⟩
  exact ⟨(fun c => (key c).choose.1, fun c => (key c).choose.2), fun c q hq => (key c).choose_spec q hq⟩
theorem st_arr {ty : FieldType} (hno : ∀ C, ty ≠ .object C) (h : (Cond.arrayClass ty).before #[Value.ref b] s = true) : ∃ cA : ClassId, ArrOfT s cA ty ∧ va_RA s cA ty := by
  obtain ⟨cA, kA, comp, h1, h2, h3⟩ := Cond.arrayClass_spec h
  refine ⟨cA, fun n z => ⟨fun k h => (by cases h), kA, h2, comp, h3⟩, ?_⟩
  cases ty with
  | object C => exact absurd rfl (hno C)
  | _ => exact h1
theorem st_arO {C : String} (h : (Cond.arrayOver (.object C)).before #[Value.ref b] s = true) : ∃ cA : ClassId, ArrOfT s cA (.object C) ∧ va_RA s cA (.object C) := by
  obtain ⟨comp, cA, kA, h1, -, h2, h3, h4⟩ := Cond.arrayOver_spec h
  exact ⟨cA, fun n z => ⟨fun k h => (by cases h), kA, h2, comp, h3⟩, kA, comp, h2, h3, h1, h4⟩
def tmS (i : Nat) : Term := .string "CascadeBus$Reader" (strI.getD i 0)
theorem lw_ao : Cond.arrayOver (.object "CascadeBus$State") ∈ lw_tbl := in_tb (by decide +kernel)
set_option maxRecDepth 20000 in
theorem st_str (h : (Jvm.Cond.and given_1 narrow_1).before #[Value.ref b] s = true) {A : Nat → Prop} (hA : ∀ a : Nat, a < s.heap.size → ¬ A a) : ∃ adK adV : Nat → Nat, vk_S 19 strN strB adK adV A s s.heap ∧ ∀ i : Nat, i < 19 → (tmS i).eval #[Value.ref b] s none [] s = some (.ref (adK i)) := by
  have hs := flat_of_before _ h
  refine vk_Sof (tm := tmS) (by decide) (fun i hi => hs _ ?_) (fun i hi => hs _ ?_) (fun i hi => hs _ ?_) (fun i hi => hs _ ?_) (fun i hi j hj => hs _ ?_) (fun i j hi hj hne => ?_) hA
  · revert i; decide +kernel
  · revert i; decide +kernel
  · revert i; decide +kernel
  · revert i; decide +kernel
  · revert j; revert i; decide +kernel
  · have z : Cond.not (Cond.eq (tmS i) (tmS j)) ∈ flatC (Jvm.Cond.and given_1 narrow_1) ∨ Cond.not (Cond.eq (tmS j) (tmS i)) ∈ flatC (Jvm.Cond.and given_1 narrow_1) := by
      revert j; revert i; decide +kernel
    exact z.imp (hs _) (hs _)
end
