/-! rows of PW for numbers that are natural ones, and for methods whose answer and world are known -/
def RetV (r : Option Value) (h1 : Hp) : QT := fun o h' => o = .inl r ∧ h' = h1
theorem nox_RetV {r : Option Value} {h1 : Hp} : NoX (RetV r h1) := fun E h' q => by cases q.1
abbrev aI (g : GG) (n : Nat) (f : Nat → Int32) : va_E := .inl (gc g 0, n, .inl f)
abbrev aB (g : GG) (n : Nat) (f : Nat → Int32) : va_E := .inl (gc g 1, n, .inl f)
abbrev aZ (g : GG) (n : Nat) (f : Nat → Int32) : va_E := .inl (gc g 2, n, .inl f)
theorem up_same {α : Type} {f : Nat → α} {a : Nat} {v : α} : va_up f a v a = v := by simp [va_up]
theorem up_ne {α : Type} {f : Nat → α} {a b : Nat} {v x : α} (hne : b ≠ a) (hb : f b = x) : va_up f a v b = x := by simp [va_up, hne, hb]
theorem up_up {α : Type} (f : Nat → α) (a : Nat) (v w : α) : va_up (va_up f a v) a w = va_up f a w := by
  funext x
  by_cases hx : x = a <;> simp [va_up, hx]
theorem up_self {α : Type} {f : Nat → α} {a : Nat} {v : α} (h : f a = v) : va_up f a v = f := by
  funext x
  by_cases hx : x = a
  · subst hx; simp [va_up, h]
  · simp [va_up, hx]
theorem up_comm {α : Type} (f : Nat → α) {a b : Nat} (v w : α) (h : a ≠ b) : va_up (va_up f a v) b w = va_up (va_up f b w) a v := by
  funext x
  by_cases hx : x = a
  · subst hx; simp [va_up, h]
  · by_cases hy : x = b
    · subst hy; simp [va_up, hx]
    · simp [va_up, hx, hy]
section
variable {g : GG} {M : MI} {d kc ks : Nat} {Q : QT} {pc : Nat} {ls st : List Value} {h : Hp}
theorem pw_iaddN {a b : Nat} (dc : decode M.2.1 pc = .ok (.iadd, 1)) (k : PW g M d kc ks Q (pc + 1) ls (.int (nI (a + b)) :: st) h) : PW g M d kc ks Q pc ls (.int (nI b) :: .int (nI a) :: st) h := pw_iadd dc (by rw [nI_add]; exact k)
theorem pw_imulN {a b : Nat} (dc : decode M.2.1 pc = .ok (.imul, 1)) (k : PW g M d kc ks Q (pc + 1) ls (.int (nI (a * b)) :: st) h) : PW g M d kc ks Q pc ls (.int (nI b) :: .int (nI a) :: st) h := pw_imul dc (by rw [pk_mul]; exact k)
theorem pw_isubN {a b : Nat} (hle : b ≤ a) (dc : decode M.2.1 pc = .ok (.isub, 1)) (k : PW g M d kc ks Q (pc + 1) ls (.int (nI (a - b)) :: st) h) : PW g M d kc ks Q pc ls (.int (nI b) :: .int (nI a) :: st) h := pw_isub dc (by rw [pk_sub hle]; exact k)
theorem pw_iincN {i a : Nat} {ls2 : List Value} (dc : decode M.2.1 pc = .ok (.iinc i 1, 3)) (hl : ls[i]? = some (.int (nI a))) (hi : i < M.2.2.1) (hls : ls.set i (.int (nI (a + 1))) = ls2) (k : PW g M d kc ks Q (pc + 3) ls2 st h) : PW g M d kc ks Q pc ls st h := pw_iinc dc hl (by rw [nI_succ]; rfl) hi hls k
theorem pw_ialdN {a n k0 : Nat} {f : Nat → Int32} (dc : decode M.2.1 pc = .ok (.iaload, 1)) (hf : h a = some (aI g n f)) (hk : k0 < n) (hn : n < 2 ^ 31) (k : PW g M d kc ks Q (pc + 1) ls (.int (f k0) :: st) h) : PW g M d kc ks Q pc ls (.int (nI k0) :: .ref a :: st) h := pw_iald dc hf (vp_in_nI hk hn) (by rw [nI_clamp (by omega)]; exact k)
theorem pw_baldN {a n k0 : Nat} {f : Nat → Int32} (dc : decode M.2.1 pc = .ok (.baload, 1)) (hf : h a = some (aB g n f)) (hk : k0 < n) (hn : n < 2 ^ 31) (k : PW g M d kc ks Q (pc + 1) ls (.int (f k0) :: st) h) : PW g M d kc ks Q pc ls (.int (nI k0) :: .ref a :: st) h := pw_bald dc hf (vp_in_nI hk hn) (by rw [nI_clamp (by omega)]; exact k)
theorem pw_zaldN {a n k0 : Nat} {f : Nat → Int32} (dc : decode M.2.1 pc = .ok (.baload, 1)) (hf : h a = some (aZ g n f)) (hk : k0 < n) (hn : n < 2 ^ 31) (k : PW g M d kc ks Q (pc + 1) ls (.int (f k0) :: st) h) : PW g M d kc ks Q pc ls (.int (nI k0) :: .ref a :: st) h := pw_zald dc hf (vp_in_nI hk hn) (by rw [nI_clamp (by omega)]; exact k)
theorem pw_iastN {a n k0 : Nat} {f : Nat → Int32} {x : Int32} (dc : decode M.2.1 pc = .ok (.iastore, 1)) (hf : h a = some (aI g n f)) (hk : k0 < n) (hn : n < 2 ^ 31) (k : PW g M d kc ks Q (pc + 1) ls st (va_up h a (some (aI g n (upd f k0 x))))) : PW g M d kc ks Q pc ls (.int x :: .int (nI k0) :: .ref a :: st) h := pw_iast dc hf (vp_in_nI hk hn) (by rw [nI_clamp (by omega)]; exact k)
/-- a store into the row that was written last -/
theorem pw_iastU {a n k0 : Nat} {f : Nat → Int32} {x : Int32} (dc : decode M.2.1 pc = .ok (.iastore, 1)) (hk : k0 < n) (hn : n < 2 ^ 31) (k : PW g M d kc ks Q (pc + 1) ls st (va_up h a (some (aI g n (upd f k0 x))))) : PW g M d kc ks Q pc ls (.int x :: .int (nI k0) :: .ref a :: st) (va_up h a (some (aI g n f))) := pw_iastN dc up_same hk hn (by rw [up_up]; exact k)
theorem pw_zastN {a n k0 : Nat} {f : Nat → Int32} {x : Int32} (dc : decode M.2.1 pc = .ok (.bastore, 1)) (hf : h a = some (aZ g n f)) (hk : k0 < n) (hn : n < 2 ^ 31) (hx : vp_nar .boolean x = x) (k : PW g M d kc ks Q (pc + 1) ls st (va_up h a (some (aZ g n (upd f k0 x))))) : PW g M d kc ks Q pc ls (.int x :: .int (nI k0) :: .ref a :: st) h := pw_zast dc hf (vp_in_nI hk hn) (by rw [nI_clamp (by omega), hx]; exact k)
theorem pw_bastN {a n k0 : Nat} {f : Nat → Int32} {x : Int32} (dc : decode M.2.1 pc = .ok (.bastore, 1)) (hf : h a = some (aB g n f)) (hk : k0 < n) (hn : n < 2 ^ 31) (k : PW g M d kc ks Q (pc + 1) ls st (va_up h a (some (aB g n (upd f k0 (vp_nar .byte x)))))) : PW g M d kc ks Q pc ls (.int x :: .int (nI k0) :: .ref a :: st) h := pw_bast dc hf (vp_in_nI hk hn) (by rw [nI_clamp (by omega)]; exact k)
theorem pw_icmp_eqN {a b : Nat} {off : Int} {tgt : Nat} (dc : decode M.2.1 pc = .ok (.if_icmp .eq off, 3)) (ht : (pc : Int) + off = (tgt : Int)) (ha : a < 2 ^ 31) (hb : b < 2 ^ 31) (k1 : a = b → PW g M d kc ks Q tgt ls st h) (k2 : ¬ a = b → PW g M d kc ks Q (pc + 3) ls st h) : PW g M d kc ks Q pc ls (.int (nI b) :: .int (nI a) :: st) h := pw_icmp_eq dc ht (fun q => k1 ((nI_eq ha hb).mp q)) (fun q => k2 (fun z => q ((nI_eq ha hb).mpr z)))
theorem pw_icmp_neN {a b : Nat} {off : Int} {tgt : Nat} (dc : decode M.2.1 pc = .ok (.if_icmp .ne off, 3)) (ht : (pc : Int) + off = (tgt : Int)) (ha : a < 2 ^ 31) (hb : b < 2 ^ 31) (k1 : ¬ a = b → PW g M d kc ks Q tgt ls st h) (k2 : a = b → PW g M d kc ks Q (pc + 3) ls st h) : PW g M d kc ks Q pc ls (.int (nI b) :: .int (nI a) :: st) h := pw_icmp_ne dc ht (fun q => k1 (fun z => q ((nI_eq ha hb).mpr z))) (fun q => k2 ((nI_eq ha hb).mp q))
theorem pw_icmp_ltN {a b : Nat} {off : Int} {tgt : Nat} (dc : decode M.2.1 pc = .ok (.if_icmp .lt off, 3)) (ht : (pc : Int) + off = (tgt : Int)) (ha : a < 2 ^ 31) (hb : b < 2 ^ 31) (k1 : a < b → PW g M d kc ks Q tgt ls st h) (k2 : b ≤ a → PW g M d kc ks Q (pc + 3) ls st h) : PW g M d kc ks Q pc ls (.int (nI b) :: .int (nI a) :: st) h := pw_icmp_lt dc ht (fun q => k1 ((nI_ltI ha hb).mp q)) (fun q => k2 (Nat.not_lt.mp (fun z => q ((nI_ltI ha hb).mpr z))))
theorem pw_icmp_geN {a b : Nat} {off : Int} {tgt : Nat} (dc : decode M.2.1 pc = .ok (.if_icmp .ge off, 3)) (ht : (pc : Int) + off = (tgt : Int)) (ha : a < 2 ^ 31) (hb : b < 2 ^ 31) (k1 : b ≤ a → PW g M d kc ks Q tgt ls st h) (k2 : a < b → PW g M d kc ks Q (pc + 3) ls st h) : PW g M d kc ks Q pc ls (.int (nI b) :: .int (nI a) :: st) h := pw_icmp_ge dc ht (fun q => k1 ((nI_leI hb ha).mp q)) (fun q => k2 (Nat.not_le.mp (fun z => q ((nI_leI hb ha).mpr z))))
theorem pw_icmp_gtN {a b : Nat} {off : Int} {tgt : Nat} (dc : decode M.2.1 pc = .ok (.if_icmp .gt off, 3)) (ht : (pc : Int) + off = (tgt : Int)) (ha : a < 2 ^ 31) (hb : b < 2 ^ 31) (k1 : b < a → PW g M d kc ks Q tgt ls st h) (k2 : a ≤ b → PW g M d kc ks Q (pc + 3) ls st h) : PW g M d kc ks Q pc ls (.int (nI b) :: .int (nI a) :: st) h := pw_icmp_gt dc ht (fun q => k1 ((nI_ltI hb ha).mp q)) (fun q => k2 (Nat.not_lt.mp (fun z => q ((nI_ltI hb ha).mpr z))))
theorem pw_icmp_leN {a b : Nat} {off : Int} {tgt : Nat} (dc : decode M.2.1 pc = .ok (.if_icmp .le off, 3)) (ht : (pc : Int) + off = (tgt : Int)) (ha : a < 2 ^ 31) (hb : b < 2 ^ 31) (k1 : a ≤ b → PW g M d kc ks Q tgt ls st h) (k2 : b < a → PW g M d kc ks Q (pc + 3) ls st h) : PW g M d kc ks Q pc ls (.int (nI b) :: .int (nI a) :: st) h := pw_icmp_le dc ht (fun q => k1 ((nI_leI ha hb).mp q)) (fun q => k2 (Nat.not_le.mp (fun z => q ((nI_leI ha hb).mpr z))))
/-- calls of methods whose answer and world are known -/
theorem pw_detV {idx b ci N n d' : Nat} {M' : MI} {T : u_T} {fs : List Value} {As : List Value} {r : Option Value} {h1 : Hp} {st0 : List Value} (dc : decode M.2.1 pc = .ok (.invokevirtual idx, 3)) (hl : LV M.1.cls idx M' n) (hc : vcl[ci]? = some (M'.1.cls, T, N)) (hf : h b = some (.inr (ci, fs)))
    (hM : PM g M' d' 0 0 (.ref b :: As) h (RetV r h1)) (hn : As.length = n) (hd : d' + 1 ≤ d) (hsum : (st.map fun v => v.category).sum ≤ 8) (hst : st0 = As.reverse ++ .ref b :: st) (k : PW g M d kc ks Q (pc + 3) ls (r.toList ++ st) h1) : PW g M d kc ks Q pc ls st0 h := by
  subst hst
  exact pw_callV (kc' := 0) (ks' := 0) dc hl hc hf hM hn hd hsum (fun E h' q => by cases q.1) (fun v h' q => by obtain ⟨q1, q2⟩ := q; cases q1; subst q2; exact k)
theorem pw_detVN {idx b ci N n d' : Nat} {M' : MI} {T : u_T} {fs : List Value} {As : List Value} {r : Option Value} {h1 : Hp} {st0 : List Value} (dc : decode M.2.1 pc = .ok (.invokevirtual idx, 3)) (hl : LVN M.1.cls idx M' n) (hc : vcl[ci]? = some (M'.1.cls, T, N)) (hf : h b = some (.inr (ci, fs)))
    (hM : PM g M' d' 0 0 (.ref b :: As) h (RetV r h1)) (hn : As.length = n) (hd : d' + 1 ≤ d) (hsum : (st.map fun v => v.category).sum ≤ 8) (hst : st0 = As.reverse ++ .ref b :: st) (k : PW g M d kc ks Q (pc + 3) ls (r.toList ++ st) h1) : PW g M d kc ks Q pc ls st0 h := by
  subst hst
  exact pw_callVN (kc' := 0) (ks' := 0) dc hl hc hf hM hn hd hsum nox_RetV (fun v h' q => by obtain ⟨q1, q2⟩ := q; cases q1; subst q2; exact k)
theorem pw_detS {idx n d' : Nat} {M' : MI} {As : List Value} {r : Option Value} {h1 : Hp} {st0 : List Value} (dc : decode M.2.1 pc = .ok (.invokestatic idx, 3)) (hl : LSt M.1.cls idx M' n)
    (hM : PM g M' d' 0 0 As h (RetV r h1)) (hn : As.length = n) (hd : d' + 1 ≤ d) (hsum : (st.map fun v => v.category).sum ≤ 8) (hst : st0 = As.reverse ++ st) (k : PW g M d kc ks Q (pc + 3) ls (r.toList ++ st) h1) : PW g M d kc ks Q pc ls st0 h := by
  subst hst
  exact pw_callS (kc' := 0) (ks' := 0) dc hl hM hn hd hsum (fun E h' q => by cases q.1) (fun v h' q => by obtain ⟨q1, q2⟩ := q; cases q1; subst q2; exact k)
theorem pw_detSN {idx n d' : Nat} {M' : MI} {As : List Value} {r : Option Value} {h1 : Hp} {st0 : List Value} (dc : decode M.2.1 pc = .ok (.invokestatic idx, 3)) (hl : LSN M.1.cls idx M' n)
    (hM : PM g M' d' 0 0 As h (RetV r h1)) (hn : As.length = n) (hd : d' + 1 ≤ d) (hsum : (st.map fun v => v.category).sum ≤ 8) (hst : st0 = As.reverse ++ st) (k : PW g M d kc ks Q (pc + 3) ls (r.toList ++ st) h1) : PW g M d kc ks Q pc ls st0 h := by
  subst hst
  exact pw_callSN (kc' := 0) (ks' := 0) dc hl hM hn hd hsum nox_RetV (fun v h' q => by obtain ⟨q1, q2⟩ := q; cases q1; subst q2; exact k)
end
