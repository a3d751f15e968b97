/-! rows of PW: what is made, throws, the JDK's own -/
section
variable {g : GG} {M : MI} {d kc ks : Nat} {Q : QT} {pc : Nat} {ls st : List Value} {h : Hp}
theorem pw_new {idx ci N : Nat} {C : String} {T : u_T} {ty : Nat → FieldType} {fs : List Value} (dc : decode M.2.1 pc = .ok (.new idx, 3)) (hc : vcl[ci]? = some (C, T, N)) (hin : ∀ w ∈ u_ws C T N, w ∈ gw) (hty : ∀ k, k < N → parseFieldDescriptor (T k).2.2.1 = some (ty k))
    (hcl : Cond.classLink M.1.cls idx C ∈ gw) (hins : Cond.instantiable C N ∈ gw) (hini : Cond.initialized C ∈ gw) (hfs : ∀ j, j < N → defaultValue (ty j) = vp_V fs j)
    (k : ∀ q : Nat, (∀ e, h q ≠ some e) → PW g M d kc ks Q (pc + 3) ls (.ref q :: st) (va_up h q (some (.inr (ci, fs))))) : PW g M d (kc + 1) (ks + N) Q pc ls st h := by
  intro p e R s m args below meth c H locs cells slots mc ms arr Z h1 h2 h3 h4 h5 h6 hR hS hL
  obtain ⟨hx, hb, hml, hown, hts, hr, hlocks, hnm, hof, hst, htab⟩ := id Z
  obtain ⟨ws, hP, hD, hw⟩ := hR
  refine va_new hx hb hts hin ty hty hown (hts _ hcl) (hts _ hins) (hts _ hini) hof.1 hP hD hS (fun q hq => Nat.le_trans hof.2.2.1 hq) hc hfs (by omega) (by omega) dc (fun q H1 hP1 hD1 hS1 => ?_)
  obtain ⟨hfr, hR1⟩ := Rl.push hw hP1 hD1
  exact k q hfr p e R s m args below meth c H1 locs (cells + 1) (slots + N) mc ms arr Z h1 h2 (by omega) (by omega) h5 h6 hR1 hS1 hL
theorem pw_newa {atype : ArrayType} {ty : FieldType} {t0 N' : Nat} {a0 : vp_A} {cA : ClassId} {n : Int32} (dc : decode M.2.1 pc = .ok (.newarray atype, 2)) (hty : newarray.typeOf atype = ty) (ht : (tys g)[t0]? = some (cA, ty)) (hw0 : Cond.arrayClass ty ∈ gw) (ha : ∀ cA : ClassId, vp_cell cA a0 = arrV cA N' (fun _ => defaultValue ty)) (hn : ¬ n < 0) (hN : n.toNatClampNeg = N') (hby : N' * componentBytes ty ≤ 536870912)
    (k : ∀ q : Nat, (∀ e, h q ≠ some e) → PW g M d kc ks Q (pc + 2) ls (.ref q :: st) (va_up h q (some (.inl (cA, a0))))) : PW g M d (kc + 1) (ks + N') Q pc ls (.int n :: st) h := by
  intro p e R s m args below meth c H locs cells slots mc ms arr Z h1 h2 h3 h4 h5 h6 hR hS hL
  obtain ⟨hx, hb, hml, hown, hts, hr, hlocks, hnm, hof, hst, htab⟩ := id Z
  obtain ⟨ws, hP, hD, hw⟩ := hR
  refine va_newa (atype := atype) hx hb (by rw [hty]; exact hts _ hw0) hty hof.1 hP hD hS (fun q hq => Nat.le_trans hof.2.2.1 hq) ha hn hN hby (by omega) (by omega) dc (fun q cA' H1 hK1 hP1 hD1 hS1 => ?_)
  have e1 : cA' = cA := va_ofRA (hK1.2 (tys g).length (cA', ty) (by simp)).2 (hof.1.2 t0 _ ht).2
  subst e1
  obtain ⟨hfr, hR1⟩ := Rl.push hw hP1 hD1
  exact k q hfr p e R s m args below meth c H1 locs (cells + 1) (slots + N') mc ms arr Z h1 h2 (by omega) (by omega) h5 h6 hR1 hS1 hL
theorem pw_anew {idx N' : Nat} {n : Int32} (dc : decode M.2.1 pc = .ok (.anewarray idx, 3)) (hcl : Cond.classLink M.1.cls idx "CascadeBus$State" ∈ gw) (hn : ¬ n < 0) (hN : n.toNatClampNeg = N') (hby : N' * 4 ≤ 536870912)
    (k : ∀ q : Nat, (∀ e, h q ≠ some e) → PW g M d kc ks Q (pc + 3) ls (.ref q :: st) (va_up h q (some (.inl (gc g 4, N', .inr (.inr (.inr (.inr (fun _ => none))))))))) : PW g M d (kc + 1) (ks + N') Q pc ls (.int n :: st) h := by
  intro p e R s m args below meth c H locs cells slots mc ms arr Z h1 h2 h3 h4 h5 h6 hR hS hL
  obtain ⟨hx, hb, hml, hown, hts, hr, hlocks, hnm, hof, hst, htab⟩ := id Z
  obtain ⟨ws, hP, hD, hw⟩ := hR
  refine va_newq hx hb hown (hts _ hcl) hof.2.2.2.1.2.2.1 hof.1 hP hD hS (fun q hq => Nat.le_trans hof.2.2.1 hq) hn hN hby (by omega) (by omega) dc (fun q cA' H1 hK1 hP1 hD1 hS1 => ?_)
  have e1 : cA' = gc g 4 := va_ofRA (hK1.2 (tys g).length (cA', .object "CascadeBus$State") (by simp)).2 (hof.1.2 4 _ rfl).2
  subst e1
  obtain ⟨hfr, hR1⟩ := Rl.push hw hP1 hD1
  exact k q hfr p e R s m args below meth c H1 locs (cells + 1) (slots + N') mc ms arr Z h1 h2 (by omega) (by omega) h5 h6 hR1 hS1 hL
theorem pw_objInit {idx a : Nat} (dc : decode M.2.1 pc = .ok (.invokespecial idx, 3)) (hl : Cond.methodLink M.1.cls idx Lib.objectInit ∈ gw ∧ Cond.instanceMethod Lib.objectInit ∈ gw ∧ Cond.code Lib.objectInit ⟨#[0xb1]⟩ 1 none ∈ gw) (hd : 1 ≤ d) (hsum : (st.map fun v => v.category).sum ≤ 8) (k : PW g M d kc ks Q (pc + 3) ls st h) : PW g M d kc ks Q pc ls (.ref a :: st) h := by
  intro p e R s m args below meth c H locs cells slots mc ms arr Z h1 h2 h3 h4 h5 h6 hR hS hL
  obtain ⟨hx, hb, hml, hown, hts, hr, hlocks, hnm, hof, hst, htab⟩ := id Z
  refine W.objInit hx hb hown (hts _ hl.1) (hts _ hl.2.1) (hts _ hl.2.2) rfl (hL.1.trans hml.symm) rfl dc (by omega) ?_ (k p e R s m args below meth c H locs cells slots mc ms arr Z h1 h2 h3 h4 h5 h6 hR hS hL)
  have := lv_room (m := m) (pc := pc) (ls := arr) (rest := .ref a :: st) hsum
  omega
theorem pw_ldc {idx : Nat} {v : Int32} (dc : decode M.2.1 pc = .ok (.ldc idx, 2)) (hl : Cond.constant M.1.cls idx v ∈ gw) (k : PW g M d kc ks Q (pc + 2) ls (.int v :: st) h) : PW g M d kc ks Q pc ls st h := by
  intro p e R s m args below meth c H locs cells slots mc ms arr Z h1 h2 h3 h4 h5 h6 hR hS hL
  obtain ⟨hx, hb, hml, hown, hts, hr, hlocks, hnm, hof, hst, htab⟩ := id Z
  exact lv_ldc hx hb hown (hts _ hl) dc (k p e R s m args below meth c H locs cells slots mc ms arr Z h1 h2 h3 h4 h5 h6 hR hS hL)
theorem pw_max {idx : Nat} {x y : Int32} (dc : decode M.2.1 pc = .ok (.invokestatic idx, 3)) (hl : Cond.methodLink M.1.cls idx Lib.Math.max.name ∈ gw ∧ Cond.static Lib.Math.max.name ∈ gw ∧ Cond.initialized "java/lang/Math" ∈ gw ∧ Cond.code Lib.Math.max.name Lib.Math.max.code 2 (some .int) ∈ gw) (hd : 1 ≤ d) (hsum : (st.map fun v => v.category).sum ≤ 8) (k : PW g M d kc ks Q (pc + 3) ls (.int (if x < y then y else x) :: st) h) : PW g M d kc ks Q pc ls (.int y :: .int x :: st) h := by
  intro p e R s m args below meth c H locs cells slots mc ms arr Z h1 h2 h3 h4 h5 h6 hR hS hL
  obtain ⟨hx, hb, hml, hown, hts, hr, hlocks, hnm, hof, hst, htab⟩ := id Z
  exact va_mmax hx hb (hml.trans hL.1.symm) hown (hts _ hl.1) (hts _ hl.2.1) (hts _ hl.2.2.1) (hts _ hl.2.2.2) (by omega) (by omega) (by omega) (by omega) dc (k p e R s m args below meth c H locs cells slots mc ms arr Z h1 h2 h3 h4 h5 h6 hR hS hL)
theorem pw_min {idx : Nat} {x y : Int32} (dc : decode M.2.1 pc = .ok (.invokestatic idx, 3)) (hl : Cond.methodLink M.1.cls idx Lib.Math.min.name ∈ gw ∧ Cond.static Lib.Math.min.name ∈ gw ∧ Cond.initialized "java/lang/Math" ∈ gw ∧ Cond.code Lib.Math.min.name Lib.Math.min.code 2 (some .int) ∈ gw) (hd : 1 ≤ d) (hsum : (st.map fun v => v.category).sum ≤ 8) (k : PW g M d kc ks Q (pc + 3) ls (.int (if y < x then y else x) :: st) h) : PW g M d kc ks Q pc ls (.int y :: .int x :: st) h := by
  intro p e R s m args below meth c H locs cells slots mc ms arr Z h1 h2 h3 h4 h5 h6 hR hS hL
  obtain ⟨hx, hb, hml, hown, hts, hr, hlocks, hnm, hof, hst, htab⟩ := id Z
  exact va_mmin hx hb (hml.trans hL.1.symm) hown (hts _ hl.1) (hts _ hl.2.1) (hts _ hl.2.2.1) (hts _ hl.2.2.2) (by omega) (by omega) (by omega) (by omega) dc (k p e R s m args below meth c H locs cells slots mc ms arr Z h1 h2 h3 h4 h5 h6 hR hS hL)
/-- 'System.arraycopy' of one row of numbers into another one, whole -/
theorem pw_copy {idx a0 a1 n0 n1 : Nat} {f0 f1 : Nat → Int32} {sp dp n : Int32} (dc : decode M.2.1 pc = .ok (.invokestatic idx, 3)) (hl : Cond.methodLink M.1.cls idx arraycopyName ∈ gw ∧ Cond.native arraycopyName ∈ gw ∧ Cond.static arraycopyName ∈ gw ∧ Cond.initialized "java/lang/System" ∈ gw)
    (hf0 : h a0 = some (.inl (gc g 0, n0, .inl f0))) (hf1 : h a1 = some (.inl (gc g 0, n1, .inl f1))) (b1 : ¬ sp < 0) (b2 : ¬ dp < 0) (b3 : ¬ n < 0) (b4 : sp.toNatClampNeg + n.toNatClampNeg ≤ n0) (b5 : dp.toNatClampNeg + n.toNatClampNeg ≤ n1) (hd : 1 ≤ d) (hsum : (st.map fun v => v.category).sum ≤ 8)
    (k : PW g M d kc ks Q (pc + 3) ls st (va_up h a1 (some (.inl (gc g 0, n1, .inl (va_cpy f0 f1 sp.toNatClampNeg dp.toNatClampNeg n.toNatClampNeg)))))) : PW g M d kc ks Q pc ls (.int n :: .int dp :: .ref a1 :: .int sp :: .ref a0 :: st) h := by
  intro p e R s m args below meth c H locs cells slots mc ms arr Z h1 h2 h3 h4 h5 h6 hR hS hL
  obtain ⟨hx, hb, hml, hown, hts, hr, hlocks, hnm, hof, hst, htab⟩ := id Z
  obtain ⟨ws, hP, hD, hw⟩ := hR
  obtain ⟨q0, hq0⟩ := hw a0 _ hf0
  obtain ⟨q1, hq1⟩ := hw a1 _ hf1
  refine va_copyi hx hb (hml.trans hL.1.symm) hown (hts _ hl.1) (hts _ hl.2.1) (hts _ hl.2.2.1) (hts _ hl.2.2.2) hof.1 hP hD hS q0 q1 0 0 hq0 hq1 rfl rfl rfl b1 b2 b3 b4 b5 (fun _ _ => rfl) (by omega) ?_ dc (fun H1 locs1 hP1 hD1 hS1 => k p e R s m args below meth c H1 locs1 cells slots mc ms arr Z h1 h2 h3 h4 h5 h6 (Rl.set hD hw hq1 hP1 hD1) hS1 hL)
  have e9 : nativeFrameWords "java/lang/System" "arraycopy" 5 + 11 ≤ 32 := by decide
  omega
/-- 'throw new E()' -/
theorem pw_throw {ik ic : Nat} {cls : String} {names : List String} (hl : Cond.classLink M.1.cls ik cls ∈ gw ∧ Cond.initialized cls ∈ gw ∧ (∀ w ∈ vx_at0 M.1.cls ic cls names, w ∈ gw ∨ w ∈ nws)) (hcls : Bundle.fit cls = true) (hnames : ∀ n ∈ names, Bundle.fit n = true) (hgood : ∀ w ∈ Cond.classLink M.1.cls ik cls :: Cond.initialized cls :: vx_at0 M.1.cls ic cls names, vx_ot w = true)
    (d0 : decode M.2.1 pc = .ok (.new ik, 3)) (d3 : decode M.2.1 (pc + 3) = .ok (.dup, 1)) (d4 : decode M.2.1 (pc + 4) = .ok (.invokespecial ic, 3)) (d7 : decode M.2.1 (pc + 7) = .ok (.athrow, 1)) (hh : M.2.2.2.2 = []) (hd : names.length + 4 ≤ d) (hsum : (st.map fun v => v.category).sum ≤ 8) (k : Q (.inr cls) h) : PW g M d (kc + 1) (ks + 6) Q pc ls st h := by
  intro p e R s m args below meth c H locs cells slots mc ms arr Z h1 h2 h3 h4 h5 h6 hR hS hL
  obtain ⟨hx, hb, hml, hown, hts, hr, hlocks, hnm, hof, hst, htab⟩ := id Z
  refine vx_throw0 hx hb hst hown hcls hnames (hts _ hl.1) (hts _ hl.2.1) (fun w hw => (hl.2.2 w hw).elim (hts _) (fun q => va_Nw.use (nws_tab q) (hof.2.1 _ q))) hgood hof.2.2.2.1.1 hof.2.2.2.1.2.1 hS (hL.1.trans hml.symm) d0 d3 d4 d7 (by rw [htab, hh]; intro x hx; cases hx) (by omega) (by omega) (by omega) (by omega) hlocks (fun t ha hz ho => ⟨h, k, ?_, ?_⟩) hS.2.2 (by omega) (by omega)
  · obtain ⟨ws, hP, hD, hw⟩ := hR
    exact ⟨ws, hP.kept (fun k x hx => ho x.1 (hP k x hx).lt), hD, hw⟩
  · exact ⟨Nat.le_trans hS.1 hz, fun q h1 h2 => (ho q (Nat.lt_of_lt_of_le h1 hS.1)).trans (hS.2.1 q h1 h2)⟩
/-- the script -/
theorem pw_sld {i : Int32} (dc : decode M.2.1 pc = .ok (.iaload, 1)) (hi : vp_in i (gsl g)) (k : PW g M d kc ks Q (pc + 1) ls (.int (gsx g i.toNatClampNeg) :: st) h) : PW g M d kc ks Q pc ls (.int i :: .ref (gsa g) :: st) h := by
  intro p e R s m args below meth c H locs cells slots mc ms arr Z h1 h2 h3 h4 h5 h6 hR hS hL
  obtain ⟨hx, hb, hml, hown, hts, hr, hlocks, hnm, hof, hst, htab⟩ := id Z
  have hX := hof.2.2.2.1.2.2.2.1
  exact va_sld hx hb hX.1 (Nat.lt_of_lt_of_le hX.2 hof.2.2.1) (fun q => Nat.not_le.mpr hX.2 q) hS hi dc (k p e R s m args below meth c H locs cells slots mc ms arr Z h1 h2 h3 h4 h5 h6 hR hS hL)
theorem pw_slen (dc : decode M.2.1 pc = .ok (.arraylength, 1)) (k : PW g M d kc ks Q (pc + 1) ls (.int (Int32.ofNat (gsl g)) :: st) h) : PW g M d kc ks Q pc ls (.ref (gsa g) :: st) h := by
  intro p e R s m args below meth c H locs cells slots mc ms arr Z h1 h2 h3 h4 h5 h6 hR hS hL
  obtain ⟨hx, hb, hml, hown, hts, hr, hlocks, hnm, hof, hst, htab⟩ := id Z
  have hX := hof.2.2.2.1.2.2.2.1
  exact va_slen hx hb hX.1 (Nat.lt_of_lt_of_le hX.2 hof.2.2.1) (fun q => Nat.not_le.mpr hX.2 q) hS dc (k p e R s m args below meth c H locs cells slots mc ms arr Z h1 h2 h3 h4 h5 h6 hR hS hL)
theorem PW.more {kc' ks' : Nat} (h1 : kc' ≤ kc) (h2 : ks' ≤ ks) (k : PW g M d kc' ks' Q pc ls st h) : PW g M d kc ks Q pc ls st h := by
  intro p e R s m args below meth c H locs cells slots mc ms arr Z a1 a2 a3 a4 a5 a6 hR hS hL
  exact k p e R s m args below meth c H locs cells slots mc ms arr Z a1 a2 (by omega) (by omega) a5 a6 hR hS hL
end
theorem thOf {l : List Cond} (is : List Nat) (h : l = is.filterMap (fun i => lw_tbl[i]?)) (h2 : l.all (fun w => goodWord w || isNest w) = true) : ∀ w ∈ l, w ∈ gw ∨ w ∈ nws := by
  intro w hw
  have h3 := List.all_eq_true.mp h2 w hw
  rw [h] at hw
  obtain ⟨i, -, hi⟩ := List.mem_filterMap.mp hw
  have hm : w ∈ lw_tbl := List.mem_of_getElem? hi
  rw [Bool.or_eq_true] at h3
  rcases h3 with q | q
  · exact Or.inl (List.mem_filter.mpr ⟨hm, q⟩)
  · exact Or.inr (List.mem_filter.mpr ⟨hm, q⟩)
theorem gwOf {w : Cond} (i : Nat) (h : lw_tbl[i]? = some w) (h2 : goodWord w = true) : w ∈ gw := List.mem_filter.mpr ⟨List.mem_of_getElem? h, h2⟩
theorem th_Nse : ∀ w ∈ vx_at0 "CascadeBus" 155 "java/util/NoSuchElementException" ["java/lang/RuntimeException", "java/lang/Exception"], w ∈ gw ∨ w ∈ nws := thOf [112, 798, 807, 810, 813, 815, 799, 800, 131, 132, 801, 806, 811, 827, 788, 828, 790, 829, 792, 802, 804, 794, 1065, 1066, 1067, 820, 779, 820, 821, 822, 823, 781, 823, 824, 825, 799, 783, 1064, 1056, 1057, 1058, 809, 1059, 1060, 1061, 1062, 797, 796, 1063] (by decide +kernel) (by decide +kernel)
theorem tg_Nse : ∀ w ∈ Cond.classLink "CascadeBus" 153 "java/util/NoSuchElementException" :: Cond.initialized "java/util/NoSuchElementException" :: vx_at0 "CascadeBus" 155 "java/util/NoSuchElementException" ["java/lang/RuntimeException", "java/lang/Exception"], vx_ot w = true := List.all_eq_true.mp (by decide +kernel)
theorem th_Iae : ∀ w ∈ vx_at0 "CascadeBus" 89 "java/lang/IllegalArgumentException" ["java/lang/RuntimeException", "java/lang/Exception"], w ∈ gw ∨ w ∈ nws := thOf [112, 798, 807, 810, 813, 815, 799, 800, 131, 132, 801, 806, 811, 827, 788, 828, 790, 829, 792, 802, 804, 794, 817, 818, 819, 820, 779, 820, 821, 822, 823, 781, 823, 824, 825, 799, 783, 816, 777, 778, 785, 786, 787, 789, 791, 793, 797, 796, 795] (by decide +kernel) (by decide +kernel)
theorem tg_Iae : ∀ w ∈ Cond.classLink "CascadeBus" 87 "java/lang/IllegalArgumentException" :: Cond.initialized "java/lang/IllegalArgumentException" :: vx_at0 "CascadeBus" 89 "java/lang/IllegalArgumentException" ["java/lang/RuntimeException", "java/lang/Exception"], vx_ot w = true := List.all_eq_true.mp (by decide +kernel)
section
variable {g : GG} {M : MI} {d kc ks : Nat} {Q : QT} {pc : Nat} {ls st : List Value} {h : Hp}
theorem pw_nse (hm : M.1.cls = "CascadeBus") (d0 : decode M.2.1 pc = .ok (.new 153, 3)) (d3 : decode M.2.1 (pc + 3) = .ok (.dup, 1)) (d4 : decode M.2.1 (pc + 4) = .ok (.invokespecial 155, 3)) (d7 : decode M.2.1 (pc + 7) = .ok (.athrow, 1)) (hh : M.2.2.2.2 = []) (hd : 6 ≤ d) (hsum : (st.map fun v => v.category).sum ≤ 8) (k : Q (.inr "java/util/NoSuchElementException") h) : PW g M d (kc + 1) (ks + 6) Q pc ls st h :=
  pw_throw (names := ["java/lang/RuntimeException", "java/lang/Exception"]) (by rw [hm]; exact ⟨gwOf 1055 (by decide +kernel) (by decide +kernel), gwOf 121 (by decide +kernel) (by decide +kernel), th_Nse⟩) (by decide +kernel) (by decide +kernel) (by rw [hm]; exact tg_Nse) d0 d3 d4 d7 hh hd hsum k
theorem pw_iae (hm : M.1.cls = "CascadeBus") (d0 : decode M.2.1 pc = .ok (.new 87, 3)) (d3 : decode M.2.1 (pc + 3) = .ok (.dup, 1)) (d4 : decode M.2.1 (pc + 4) = .ok (.invokespecial 89, 3)) (d7 : decode M.2.1 (pc + 7) = .ok (.athrow, 1)) (hh : M.2.2.2.2 = []) (hd : 6 ≤ d) (hsum : (st.map fun v => v.category).sum ≤ 8) (k : Q (.inr "java/lang/IllegalArgumentException") h) : PW g M d (kc + 1) (ks + 6) Q pc ls st h :=
  pw_throw (names := ["java/lang/RuntimeException", "java/lang/Exception"]) (by rw [hm]; exact ⟨gwOf 776 (by decide +kernel) (by decide +kernel), gwOf 115 (by decide +kernel) (by decide +kernel), th_Iae⟩) (by decide +kernel) (by decide +kernel) (by rw [hm]; exact tg_Iae) d0 d3 d4 d7 hh hd hsum k
end
