/-! rows of PW: fields, arrays, what is made, the end of a method -/
theorem Rl.at {g : GG} {h : Hp} {H : Heap} (hR : Rl g h H) {a : Nat} {e : va_E} (ha : h a = some e) : va_at (gD g) vcl (a, e) H := by
  obtain ⟨ws, hP, -, hw⟩ := hR
  obtain ⟨k, hk⟩ := hw a e ha
  exact hP k _ hk
theorem Rl.p1 {g : GG} {h : Hp} {H : Heap} (hR : Rl g h H) {a : Nat} {e : va_E} (ha : h a = some e) : va_P (gD g) vcl [(a, e)] H := by
  intro k q hk
  have h1 := hR.at ha
  match k, hk with
  | 0, hk => cases hk; exact h1
  | k + 1, hk => simp at hk
theorem Rl.set {g : GG} {h : Hp} {ws : va_W} {H1 : Heap} {q0 a : Nat} {e0 e1 : va_E} (hD : va_D (A0 g) ws) (hw : ∀ (a : Nat) (e : va_E), h a = some e → ∃ k : Nat, ws[k]? = some (a, e)) (hq : ws[q0]? = some (a, e0))
    (hP1 : va_P (gD g) vcl (ws.set q0 (a, e1)) H1) (hD1 : va_D (A0 g) (ws.set q0 (a, e1))) : Rl g (va_up h a (some e1)) H1 := by
  refine ⟨_, hP1, hD1, fun x e hx => ?_⟩
  have hlt : q0 < ws.length := (List.getElem?_eq_some_iff.mp hq).1
  by_cases hxa : x = a
  · subst hxa
    simp only [va_up, if_true] at hx
    cases hx
    exact ⟨q0, by rw [List.getElem?_set_self hlt]⟩
  · simp only [va_up, hxa, if_false] at hx
    obtain ⟨k, hk⟩ := hw x e hx
    refine ⟨k, ?_⟩
    rw [List.getElem?_set_ne, hk]
    intro e2
    subst e2
    rw [hq] at hk
    cases hk
    exact hxa rfl
theorem Rl.push {g : GG} {h : Hp} {ws : va_W} {H1 : Heap} {q : Nat} {e1 : va_E} (hw : ∀ (a : Nat) (e : va_E), h a = some e → ∃ k : Nat, ws[k]? = some (a, e))
    (hP1 : va_P (gD g) vcl (ws ++ [(q, e1)]) H1) (hD1 : va_D (A0 g) (ws ++ [(q, e1)])) : (∀ e, h q ≠ some e) ∧ Rl g (va_up h q (some e1)) H1 := by
  have hfr : ∀ e, h q ≠ some e := by
    intro e he
    obtain ⟨k, hk⟩ := hw q e he
    have hlt : k < ws.length := (List.getElem?_eq_some_iff.mp hk).1
    have h2 := hD1.1 k ws.length (q, e) (q, e1) (by rw [List.getElem?_append_left hlt]; exact hk) (by simp) rfl
    omega
  refine ⟨hfr, _, hP1, hD1, fun x e hx => ?_⟩
  by_cases hxa : x = q
  · subst hxa
    simp only [va_up, if_true] at hx
    cases hx
    exact ⟨ws.length, by simp⟩
  · simp only [va_up, hxa, if_false] at hx
    obtain ⟨k, hk⟩ := hw x e hx
    have hlt : k < ws.length := (List.getElem?_eq_some_iff.mp hk).1
    exact ⟨k, by rw [List.getElem?_append_left hlt]; exact hk⟩
section
variable {g : GG} {M : MI} {d kc ks : Nat} {Q : QT} {pc : Nat} {ls st : List Value} {h : Hp}
theorem pw_getf {idx ci kf a : Nat} {fs : List Value} {v : Value} (dc : decode M.2.1 pc = .ok (.getfield idx, 3)) (hl : FL M.1.cls idx ci kf) (hf : h a = some (.inr (ci, fs))) (hv : fs[kf]? = some v) (k : PW g M d kc ks Q (pc + 3) ls (v :: st) h) : PW g M d kc ks Q pc ls (.ref a :: st) h := by
  obtain ⟨C, T, N, hc, hin, hk, hlk⟩ := hl
  intro p e R s m args below meth c H locs cells slots mc ms arr Z h1 h2 h3 h4 h5 h6 hR hS hL
  obtain ⟨hx, hb, hml, hown, hts, hr, hlocks, hnm, hof, hst, htab⟩ := id Z
  exact va_get hx hb hts hin hown hof.1 (hR.p1 hf) 0 rfl hc kf hk (hts _ hlk) (fun x hx => hx) hv dc (k p e R s m args below meth c H locs cells slots mc ms arr Z h1 h2 h3 h4 h5 h6 hR hS hL)
theorem pw_putf {idx ci kf a : Nat} {fs : List Value} {v : Value} {ty : FieldType} (dc : decode M.2.1 pc = .ok (.putfield idx, 3)) (hl : FP M.1.cls idx ci kf ty false) (hf : h a = some (.inr (ci, fs))) (hlen : kf < fs.length) (hn : narrow ty v = v) (hfit : fits ty v = true) (k : PW g M d kc ks Q (pc + 3) ls st (va_up h a (some (.inr (ci, fs.set kf v))))) : PW g M d kc ks Q pc ls (v :: .ref a :: st) h := by
  obtain ⟨C, T, N, ty0, hc, hin, hk, hlk, hty, hnms, hd, hfin, -⟩ := hl
  intro p e R s m args below meth c H locs cells slots mc ms arr Z h1 h2 h3 h4 h5 h6 hR hS hL
  obtain ⟨hx, hb, hml, hown, hts, hr, hlocks, hnm, hof, hst, htab⟩ := id Z
  obtain ⟨ws, hP, hD, hw⟩ := hR
  obtain ⟨q0, hq⟩ := hw a _ hf
  exact va_put hx hb hts hin ty0 hty hnms hown hof.1 hP hD hS q0 hq hc kf hk (hts _ hlk) (fun x hx => hx) hfin hd hn hfit hlen dc (fun H1 locs1 hP1 hD1 hS1 => k p e R s m args below meth c H1 locs1 cells slots mc ms arr Z h1 h2 h3 h4 h5 h6 (Rl.set hD hw hq hP1 hD1) hS1 hL)
theorem pw_putfF {idx ci kf a : Nat} {fs : List Value} {v : Value} {ty : FieldType} (dc : decode M.2.1 pc = .ok (.putfield idx, 3)) (hl : FP M.1.cls idx ci kf ty true) (hi : M.1.name = "<init>") (hf : h a = some (.inr (ci, fs))) (hlen : kf < fs.length) (hn : narrow ty v = v) (hfit : fits ty v = true) (k : PW g M d kc ks Q (pc + 3) ls st (va_up h a (some (.inr (ci, fs.set kf v))))) : PW g M d kc ks Q pc ls (v :: .ref a :: st) h := by
  obtain ⟨C, T, N, ty0, hc, hin, hk, hlk, hty, hnms, hd, hfin, hdecl⟩ := hl
  intro p e R s m args below meth c H locs cells slots mc ms arr Z h1 h2 h3 h4 h5 h6 hR hS hL
  obtain ⟨hx, hb, hml, hown, hts, hr, hlocks, hnm, hof, hst, htab⟩ := id Z
  obtain ⟨ws, hP, hD, hw⟩ := hR
  obtain ⟨q0, hq⟩ := hw a _ hf
  exact va_putF hx hb hts hin ty0 hty hnms hown hof.1 hP hD hS q0 hq hc kf hk (hts _ hlk) (fun x hx => hx) hfin (hnm.trans hi) (hdecl rfl) hd hn hfit hlen dc (fun H1 locs1 hP1 hD1 hS1 => k p e R s m args below meth c H1 locs1 cells slots mc ms arr Z h1 h2 h3 h4 h5 h6 (Rl.set hD hw hq hP1 hD1) hS1 hL)
theorem pw_iald {a n : Nat} {f : Nat → Int32} {i : Int32} (dc : decode M.2.1 pc = .ok (.iaload, 1)) (hf : h a = some (.inl (gc g 0, n, .inl f))) (hi : vp_in i n) (k : PW g M d kc ks Q (pc + 1) ls (.int (f i.toNatClampNeg) :: st) h) : PW g M d kc ks Q pc ls (.int i :: .ref a :: st) h := by
  intro p e R s m args below meth c H locs cells slots mc ms arr Z h1 h2 h3 h4 h5 h6 hR hS hL
  exact va_iald Z.1 Z.2.1 Z.2.2.2.2.2.2.2.2.1.1 (hR.p1 hf) 0 0 rfl rfl hi dc (k p e R s m args below meth c H locs cells slots mc ms arr Z h1 h2 h3 h4 h5 h6 hR hS hL)
theorem pw_bald {a n : Nat} {f : Nat → Int32} {i : Int32} (dc : decode M.2.1 pc = .ok (.baload, 1)) (hf : h a = some (.inl (gc g 1, n, .inl f))) (hi : vp_in i n) (k : PW g M d kc ks Q (pc + 1) ls (.int (f i.toNatClampNeg) :: st) h) : PW g M d kc ks Q pc ls (.int i :: .ref a :: st) h := by
  intro p e R s m args below meth c H locs cells slots mc ms arr Z h1 h2 h3 h4 h5 h6 hR hS hL
  exact va_bald Z.1 Z.2.1 Z.2.2.2.2.2.2.2.2.1.1 (hR.p1 hf) 0 1 rfl rfl hi dc (k p e R s m args below meth c H locs cells slots mc ms arr Z h1 h2 h3 h4 h5 h6 hR hS hL)
theorem pw_zald {a n : Nat} {f : Nat → Int32} {i : Int32} (dc : decode M.2.1 pc = .ok (.baload, 1)) (hf : h a = some (.inl (gc g 2, n, .inl f))) (hi : vp_in i n) (k : PW g M d kc ks Q (pc + 1) ls (.int (f i.toNatClampNeg) :: st) h) : PW g M d kc ks Q pc ls (.int i :: .ref a :: st) h := by
  intro p e R s m args below meth c H locs cells slots mc ms arr Z h1 h2 h3 h4 h5 h6 hR hS hL
  exact va_zald Z.1 Z.2.1 Z.2.2.2.2.2.2.2.2.1.1 (hR.p1 hf) 0 2 rfl rfl hi dc (k p e R s m args below meth c H locs cells slots mc ms arr Z h1 h2 h3 h4 h5 h6 hR hS hL)
theorem pw_lald {a n : Nat} {f : Nat → Int64} {i : Int32} (dc : decode M.2.1 pc = .ok (.laload, 1)) (hf : h a = some (.inl (gc g 3, n, .inr (.inl f)))) (hi : vp_in i n) (k : PW g M d kc ks Q (pc + 1) ls (.long (f i.toNatClampNeg) :: st) h) : PW g M d kc ks Q pc ls (.int i :: .ref a :: st) h := by
  intro p e R s m args below meth c H locs cells slots mc ms arr Z h1 h2 h3 h4 h5 h6 hR hS hL
  exact va_lald Z.1 Z.2.1 Z.2.2.2.2.2.2.2.2.1.1 (hR.p1 hf) 0 3 rfl rfl hi dc (k p e R s m args below meth c H locs cells slots mc ms arr Z h1 h2 h3 h4 h5 h6 hR hS hL)
theorem pw_aald {a n : Nat} {f : Nat → Option Nat} {i : Int32} (dc : decode M.2.1 pc = .ok (.aaload, 1)) (hf : h a = some (.inl (gc g 4, n, .inr (.inr (.inr (.inr f)))))) (hi : vp_in i n) (k : PW g M d kc ks Q (pc + 1) ls (va_rf (f i.toNatClampNeg) :: st) h) : PW g M d kc ks Q pc ls (.int i :: .ref a :: st) h := by
  intro p e R s m args below meth c H locs cells slots mc ms arr Z h1 h2 h3 h4 h5 h6 hR hS hL
  exact va_aldq Z.1 Z.2.1 Z.2.2.2.2.2.2.2.2.1.1 (hR.p1 hf) 0 4 rfl rfl hi dc (k p e R s m args below meth c H locs cells slots mc ms arr Z h1 h2 h3 h4 h5 h6 hR hS hL)
theorem pw_alen {a t0 : Nat} {x : vp_A} {v : Int32} {ty : FieldType} {cA : ClassId} (dc : decode M.2.1 pc = .ok (.arraylength, 1)) (hf : h a = some (.inl (cA, x))) (ht : (tys g)[t0]? = some (cA, ty)) (hv : Int32.ofNat x.1 = v) (k : PW g M d kc ks Q (pc + 1) ls (.int v :: st) h) : PW g M d kc ks Q pc ls (.ref a :: st) h := by
  intro p e R s m args below meth c H locs cells slots mc ms arr Z h1 h2 h3 h4 h5 h6 hR hS hL
  exact va_alen Z.1 Z.2.1 Z.2.2.2.2.2.2.2.2.1.1 (hR.p1 hf) 0 t0 rfl ht hv dc (k p e R s m args below meth c H locs cells slots mc ms arr Z h1 h2 h3 h4 h5 h6 hR hS hL)
theorem pw_iast {a n : Nat} {f : Nat → Int32} {i x : Int32} (dc : decode M.2.1 pc = .ok (.iastore, 1)) (hf : h a = some (.inl (gc g 0, n, .inl f))) (hi : vp_in i n) (k : PW g M d kc ks Q (pc + 1) ls st (va_up h a (some (.inl (gc g 0, n, .inl (upd f i.toNatClampNeg x)))))) : PW g M d kc ks Q pc ls (.int x :: .int i :: .ref a :: st) h := by
  intro p e R s m args below meth c H locs cells slots mc ms arr Z h1 h2 h3 h4 h5 h6 hR hS hL
  obtain ⟨ws, hP, hD, hw⟩ := hR
  obtain ⟨q0, hq⟩ := hw a _ hf
  exact va_iast Z.1 Z.2.1 Z.2.2.2.2.2.2.2.2.1.1 hP hD hS q0 0 hq rfl hi dc (fun H1 locs1 hP1 hD1 hS1 => k p e R s m args below meth c H1 locs1 cells slots mc ms arr Z h1 h2 h3 h4 h5 h6 (Rl.set hD hw hq hP1 hD1) hS1 hL)
theorem pw_bast {a n : Nat} {f : Nat → Int32} {i x : Int32} (dc : decode M.2.1 pc = .ok (.bastore, 1)) (hf : h a = some (.inl (gc g 1, n, .inl f))) (hi : vp_in i n) (k : PW g M d kc ks Q (pc + 1) ls st (va_up h a (some (.inl (gc g 1, n, .inl (upd f i.toNatClampNeg (vp_nar .byte x))))))) : PW g M d kc ks Q pc ls (.int x :: .int i :: .ref a :: st) h := by
  intro p e R s m args below meth c H locs cells slots mc ms arr Z h1 h2 h3 h4 h5 h6 hR hS hL
  obtain ⟨ws, hP, hD, hw⟩ := hR
  obtain ⟨q0, hq⟩ := hw a _ hf
  exact va_bast Z.1 Z.2.1 Z.2.2.2.2.2.2.2.2.1.1 hP hD hS q0 1 hq rfl hi dc (fun H1 locs1 hP1 hD1 hS1 => k p e R s m args below meth c H1 locs1 cells slots mc ms arr Z h1 h2 h3 h4 h5 h6 (Rl.set hD hw hq hP1 hD1) hS1 hL)
theorem pw_zast {a n : Nat} {f : Nat → Int32} {i x : Int32} (dc : decode M.2.1 pc = .ok (.bastore, 1)) (hf : h a = some (.inl (gc g 2, n, .inl f))) (hi : vp_in i n) (k : PW g M d kc ks Q (pc + 1) ls st (va_up h a (some (.inl (gc g 2, n, .inl (upd f i.toNatClampNeg (vp_nar .boolean x))))))) : PW g M d kc ks Q pc ls (.int x :: .int i :: .ref a :: st) h := by
  intro p e R s m args below meth c H locs cells slots mc ms arr Z h1 h2 h3 h4 h5 h6 hR hS hL
  obtain ⟨ws, hP, hD, hw⟩ := hR
  obtain ⟨q0, hq⟩ := hw a _ hf
  exact va_zast Z.1 Z.2.1 Z.2.2.2.2.2.2.2.2.1.1 hP hD hS q0 2 hq rfl hi dc (fun H1 locs1 hP1 hD1 hS1 => k p e R s m args below meth c H1 locs1 cells slots mc ms arr Z h1 h2 h3 h4 h5 h6 (Rl.set hD hw hq hP1 hD1) hS1 hL)
theorem pw_last {a n : Nat} {f : Nat → Int64} {i : Int32} {x : Int64} (dc : decode M.2.1 pc = .ok (.lastore, 1)) (hf : h a = some (.inl (gc g 3, n, .inr (.inl f)))) (hi : vp_in i n) (k : PW g M d kc ks Q (pc + 1) ls st (va_up h a (some (.inl (gc g 3, n, .inr (.inl (vp_updL f i.toNatClampNeg x))))))) : PW g M d kc ks Q pc ls (.long x :: .int i :: .ref a :: st) h := by
  intro p e R s m args below meth c H locs cells slots mc ms arr Z h1 h2 h3 h4 h5 h6 hR hS hL
  obtain ⟨ws, hP, hD, hw⟩ := hR
  obtain ⟨q0, hq⟩ := hw a _ hf
  exact va_last Z.1 Z.2.1 Z.2.2.2.2.2.2.2.2.1.1 hP hD hS q0 3 hq rfl hi dc (fun H1 locs1 hP1 hD1 hS1 => k p e R s m args below meth c H1 locs1 cells slots mc ms arr Z h1 h2 h3 h4 h5 h6 (Rl.set hD hw hq hP1 hD1) hS1 hL)
theorem pw_aast {a n v : Nat} {f : Nat → Option Nat} {i : Int32} {vs : List Value} (dc : decode M.2.1 pc = .ok (.aastore, 1)) (hf : h a = some (.inl (gc g 4, n, .inr (.inr (.inr (.inr f)))))) (hv : h v = some (.inr (8, vs))) (hi : vp_in i n) (k : PW g M d kc ks Q (pc + 1) ls st (va_up h a (some (.inl (gc g 4, n, .inr (.inr (.inr (.inr (va_up f i.toNatClampNeg (some v)))))))))) : PW g M d kc ks Q pc ls (.ref v :: .int i :: .ref a :: st) h := by
  intro p e R s m args below meth c H locs cells slots mc ms arr Z h1 h2 h3 h4 h5 h6 hR hS hL
  obtain ⟨ws, hP, hD, hw⟩ := hR
  obtain ⟨q0, hq⟩ := hw a _ hf
  obtain ⟨q1, hq1⟩ := hw v _ hv
  exact va_astq (r := ("CascadeBus$State", F_State, 1)) Z.1 Z.2.1 Z.2.2.2.2.2.2.2.2.1.1 hP hD hS q0 4 q1 8 hq rfl hq1 rfl hi dc (fun H1 locs1 hP1 hD1 hS1 => k p e R s m args below meth c H1 locs1 cells slots mc ms arr Z h1 h2 h3 h4 h5 h6 (Rl.set hD hw hq hP1 hD1) hS1 hL)
end
