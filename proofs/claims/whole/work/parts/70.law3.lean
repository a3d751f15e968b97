/-! the law: what each call owes, its walk (written by wip/whole/c_law3.py) -/
abbrev RT : Type := SA → Zf → Zf → Zf → Zf → Prop
/-- what stands of the object between two calls -/
def RelC (S : SA) (P Y Z : Zf) : Prop := wfP P ∧ NtI Z ∧ HiI Z 303 ∧ (Z 507 1 = nI (pN Z 507 1) ∧ pN Z 507 1 ≤ 900) ∧ 0 < pN P 30 0 ∧ HiL Z S ∧ (Z 507 7 = 0 ∨ Z 507 7 = 1) ∧ (¬ Z 507 7 = 0 → HiI Z 403 ∧ (∀ k, k < pN Z 403 0 → S 1 ((pN Z 403 1 + k) % 40) ≠ none) ∧ Z 410 0 = nI (pN Z 410 0) ∧ pN Z 410 0 < 7) ∧ ∀ n, n ≤ 900 → nI n ≤ Z 507 1 → (bsF Z Y n).1 = 0 → wfQ (Y1 (bsF Z Y n).2 Y) ∧ wfP (bsP Z Y n)
/-- what stands of the reference between two calls -/
def RelM (W : Zf) : Prop := wfM W ∧ AcI W ∧ TkI W ∧ NtM W ∧ PlM W ∧ isN W 2 10 ∧ (W 0 206 = -1 ∨ ∃ j, j < 5 ∧ W 0 206 = nI j) ∧ 0 < pN W 100 19 ∧ RwI W ∧ VvI W ∧ isN W 2 60 ∧ W 100 32 = nI (pN W 100 32) ∧ pN W 100 32 ≤ 900
def EqOk (Rel : RT) : Prop := ∀ {S : SA} {P Y Z W : Zf}, Rel S P Y Z W → RelC S P Y Z ∧ RelM W ∧ pN W 100 32 = pN Z 507 1
/-- the same answer, or the same exception -/
def sameX (ci cn : Int32) (r : Int32 ⊕ String) (G : Int32 × Zf) : Prop := (∃ v, r = .inl v ∧ f_Mod_thrown G.2 = 0 ∧ G.1 = v) ∨ (r = .inr "java/lang/IllegalArgumentException" ∧ ¬ ci = 0 ∧ f_Mod_thrown G.2 = ci) ∨ (r = .inr "java/util/NoSuchElementException" ∧ ¬ cn = 0 ∧ f_Mod_thrown G.2 = cn)
def EqX0 (Rel : RT) (ci cn : Int32) (F : Zf → Zf → Int32 ⊕ String) (G : Zf → Int32 × Zf) : Prop := ∀ {S : SA} {P Y Z W : Zf}, Rel S P Y Z W → sameX ci cn (F P Z) (G W) ∧ Rel S P Y Z (G W).2
def EqX (Rel : RT) (ci cn : Int32) (F : Zf → Zf → (Int32 ⊕ String) × Zf) (G : Zf → Int32 × Zf) : Prop := ∀ {S : SA} {P Y Z W : Zf}, Rel S P Y Z W → sameX ci cn (F P Z).1 (G W) ∧ Rel S P Y (ct (F P Z).2 Z) (G W).2
def EqV0 (Rel : RT) (F : Zf → Zf → Int32) (G : Zf → Int32 × Zf) : Prop := ∀ {S : SA} {P Y Z W : Zf}, Rel S P Y Z W → F P Z = (G W).1 ∧ Rel S P Y Z (G W).2
def EqV (Rel : RT) (F : Zf → Zf → Int32 × Zf) (G : Zf → Int32 × Zf) : Prop := ∀ {S : SA} {P Y Z W : Zf}, Rel S P Y Z W → (F P Z).1 = (G W).1 ∧ Rel S P Y (ct (F P Z).2 Z) (G W).2
def EqN (Rel : RT) (F : Zf → Zf → Zf) (G : Zf → Zf) : Prop := ∀ {S : SA} {P Y Z W : Zf}, Rel S P Y Z W → Rel S P Y (ct (F P Z) Z) (G W)
def EqA (Rel : RT) (F : Zf → Zf → Int32 × Zf) (G : Zf → Int32 × Zf) : Prop := ∀ {S S' : SA} {P Y Z W : Zf}, Rel S P Y Z W → (HiL Z S → HiL (F P Z).2 S') → S' 1 = S 1 → (F P Z).1 = (G W).1 ∧ Rel S' P Y (F P Z).2 (G W).2
def EqI (Rel : RT) : Prop := ∀ {S : SA} {P Y Z W : Zf} (s : Nat → Option (Nat × Nat)), Rel S P Y Z W → (∀ j, j < pN Z 303 0 → s j ≠ none) → Rel (sS1 S s) P Y (f_Bus_image P Z) (f_Mod_image W)
def EqB (Rel : RT) (x : Int32) : Prop := ∀ {S : SA} {P Y Z W : Zf}, Rel S P Y Z W → (x < 0 ∨ ¬ x ≤ Z 507 1 → f_Mod_thrown (f_Mod_bus x W).2 = 1 ∧ Rel S P Y Z (f_Mod_bus x W).2) ∧ ∀ n, x = nI n → n ≤ 900 → x ≤ Z 507 1 → (¬ (bsF Z Y n).1 = 0 → f_Mod_thrown (f_Mod_bus x W).2 = 0 ∧ (f_Mod_bus x W).1 = (bsF Z Y n).1 ∧ Rel S P (Y1 (bsF Z Y n).2 Y) (bsN Z Y n) (f_Mod_bus x W).2) ∧ ((bsF Z Y n).1 = 0 → f_Mod_thrown (f_Mod_bus x W).2 = 0 ∧ (f_Mod_bus x W).1 = 0 ∧ Rel S (bsP Z Y n) (Y2 (bsF Z Y n).2 Y P) (f_Bus_bus_99 (bsP Z Y n) (nI n) (bsZ Z Y n)).2 (f_Mod_bus x W).2)
/-- the law's world between two calls -/
def LwI (Rel : RT) (g : GG) (a b o : Nat) (h : Hp) : Prop := ∃ (A B : Nat → Nat) (f : Nat → Int64) (S : SA) (P Y Z W : Zf), A 507 = a ∧ B 100 = b ∧ LWd g A B o f S P Y Z W h ∧ Rel S P Y Z W
section
variable {g : GG} {A B : Nat → Nat} {o : Nat} {f f' : Nat → Int64} {S : SA} {P Y Z W : Zf} {h1 h2 : Hp} {v : Option Value}
theorem LWd.wr (L : LWd g A B o f S P Y Z W h2) (q : (h1 = h2 ∧ f' = f) ∨ h1 = va_up h2 o (some (aL g f'))) : LWd g A B o f' S P Y Z W h1 := by
  rcases q with ⟨rfl, rfl⟩ | rfl
  · exact L
  · exact L.out f'
theorem wr_X {ci cn : Int32} {r : Int32 ⊕ String} {G : Int32 × Zf} (hs : sameX ci cn r G) (q : WrQ g o f ci cn (RetX r h2) (.inl v) h1) : ∃ (kk : Int32) (f' : Nat → Int64), v = some (.int kk) ∧ ((h1 = h2 ∧ f' = f) ∨ h1 = va_up h2 o (some (aL g f'))) ∧ f_Mod_thrown G.2 = kk ∧ (kk = 0 → f' 0 = G.1.toInt64) := by
  rcases q with ⟨x, h', ⟨q1, q2⟩, q3, q4⟩ | ⟨⟨q1, q2⟩, q3⟩ | ⟨⟨q1, q2⟩, q3⟩
  · rcases hs with ⟨v', rfl, t, e⟩ | ⟨rfl, -⟩ | ⟨rfl, -⟩
    · cases q1
      exact ⟨0, vp_updL f 0 x.toInt64, Sum.inl.inj q3, Or.inr (by rw [q4, q2]), t, fun _ => by rw [e]; exact if_pos rfl⟩
    · cases q1
    · cases q1
  · rcases hs with ⟨v', rfl, t, e⟩ | ⟨rfl, n, t⟩ | ⟨rfl, n, t⟩
    · cases q1
    · exact ⟨ci, f, Sum.inl.inj q3, Or.inl ⟨q2, rfl⟩, t, fun z => absurd z n⟩
    · exact absurd (Sum.inr.inj q1) (by decide)
  · rcases hs with ⟨v', rfl, t, e⟩ | ⟨rfl, n, t⟩ | ⟨rfl, n, t⟩
    · cases q1
    · exact absurd (Sum.inr.inj q1) (by decide)
    · exact ⟨cn, f, Sum.inl.inj q3, Or.inl ⟨q2, rfl⟩, t, fun z => absurd z n⟩
theorem wr_no {ci cn : Int32} {Q' : QT} {E : String} (q : WrQ g o f ci cn Q' (.inr E) h1) : False := by
  rcases q with ⟨_, _, _, q, _⟩ | ⟨_, q⟩ | ⟨_, q⟩ <;> cases q
theorem rx_v {r : Int32 ⊕ String} (q : RetX r h2 (.inl v) h1) : ∃ x : Int32, v = some (.int x) := by
  obtain ⟨q1, -⟩ := q
  rcases r with x | e
  · exact ⟨x, Sum.inl.inj q1⟩
  · cases q1
theorem rx_e {ci cn : Int32} {r : Int32 ⊕ String} {G : Int32 × Zf} {E : String} (hs : sameX ci cn r G) (q : RetX r h2 (.inr E) h1) : (E = "java/lang/IllegalArgumentException" ∧ ¬ ci = 0) ∨ (E = "java/util/NoSuchElementException" ∧ ¬ cn = 0) := by
  obtain ⟨q1, -⟩ := q
  rcases hs with ⟨v', rfl, t, e⟩ | ⟨rfl, n, t⟩ | ⟨rfl, n, t⟩
  · cases q1
  · exact Or.inl ⟨Sum.inr.inj q1, n⟩
  · exact Or.inr ⟨Sum.inr.inj q1, n⟩
end
def E_feed (Rel : RT) : Prop := ∀ {S : SA} {P Y Z W : Zf} (x0 x1 x2 x3 x4 : Int32), Rel S P Y Z W → (f_Bus_feed P (pN Z 507 1) x0 x1 x2 x3 x4 Z).1 = (f_Mod_feed (pN Z 507 1) x0 x1 x2 x3 x4 W).1 ∧ Rel S P Y (ct (f_Bus_feed P (pN Z 507 1) x0 x1 x2 x3 x4 Z).2 Z) (f_Mod_feed (pN Z 507 1) x0 x1 x2 x3 x4 W).2
def E_bus (Rel : RT) : Prop := ∀ x0 : Int32, EqB Rel x0
def E_fault (Rel : RT) : Prop := EqV0 Rel (fun P Z => f_Bus_fault P Z) (fun W => f_Mod_fault W)
def E_count (Rel : RT) : Prop := ∀ x0 : Int32, EqX0 Rel 0 1 (fun P Z => f_Bus_count P x0 Z) (fun W => f_Mod_count x0 W)
def E_block (Rel : RT) : Prop := ∀ x0 x1 : Int32, EqX0 Rel 0 1 (fun P Z => f_Bus_block P x0 x1 Z) (fun W => f_Mod_block x0 x1 W)
def E_link (Rel : RT) : Prop := ∀ x0 x1 : Int32, EqX0 Rel 0 1 (fun P Z => f_Bus_link P x0 x1 Z) (fun W => f_Mod_link x0 x1 W)
def E_plant (Rel : RT) : Prop := ∀ x0 x1 : Int32, EqX0 Rel 0 1 (fun P Z => f_Bus_plant P x0 x1 Z) (fun W => f_Mod_plant x0 x1 W)
def E_target (Rel : RT) : Prop := ∀ x0 x1 : Int32, EqA Rel (fun P Z => f_Bus_target P x0 x1 Z) (fun W => f_Mod_target x0 x1 W)
def E_hand (Rel : RT) : Prop := ∀ x0 x1 : Int32, EqA Rel (fun P Z => f_Bus_hand P x0 x1 Z) (fun W => f_Mod_hand x0 x1 W)
def E_power (Rel : RT) : Prop := ∀ x0 x1 : Int32, EqA Rel (fun P Z => f_Bus_power P x0 x1 Z) (fun W => f_Mod_power x0 x1 W)
def E_broken (Rel : RT) : Prop := ∀ x0 x1 : Int32, x1 = 0 ∨ x1 = 1 → EqA Rel (fun P Z => f_Bus_broken P x0 x1 Z) (fun W => f_Mod_broken x0 x1 W)
def E_cycles (Rel : RT) : Prop := ∀ x0 : Int32, EqA Rel (fun P Z => f_Bus_cycles P x0 Z) (fun W => f_Mod_cycles x0 W)
def E_undo (Rel : RT) : Prop := EqV Rel (fun P Z => f_Bus_undo Z) (fun W => f_Mod_undo W)
def E_then (Rel : RT) : Prop := ∀ x0 x1 x2 : Int32, EqX Rel 2 1 (fun P Z => f_Bus_then P x0 x1 x2 Z) (fun W => f_Mod_then x0 x1 x2 W)
def E_first (Rel : RT) : Prop := ∀ x0 : Int32, EqX Rel 0 1 (fun P Z => f_Bus_first P x0 Z) (fun W => f_Mod_first x0 W)
def E_jump (Rel : RT) : Prop := ∀ x0 x1 : Int32, EqX Rel 2 1 (fun P Z => f_Bus_jump P x0 x1 Z) (fun W => f_Mod_jump x0 x1 W)
def E_lost (Rel : RT) : Prop := ∀ x0 x1 : Int32, EqX Rel 2 1 (fun P Z => f_Bus_lost P x0 x1 Z) (fun W => f_Mod_lost x0 x1 W)
def E_toRide (Rel : RT) : Prop := EqV Rel (fun P Z => f_Bus_toRide P Z) (fun W => f_Mod_toRide W)
def E_toTune (Rel : RT) : Prop := ∀ x0 x1 x2 : Int32, EqX Rel 2 1 (fun P Z => f_Bus_toTune P x0 x1 x2 Z) (fun W => f_Mod_toTune x0 x1 x2 W)
def E_slack (Rel : RT) : Prop := ∀ x0 : Int32, EqX Rel 0 1 (fun P Z => f_Bus_slack P x0 Z) (fun W => f_Mod_slack x0 W)
def E_note (Rel : RT) : Prop := ∀ x0 x1 x2 : Int32, EqV Rel (fun P Z => f_Bus_note P x0 x1 x2 Z) (fun W => f_Mod_note x0 x1 x2 W)
def E_fits (Rel : RT) : Prop := EqV Rel (fun P Z => f_Bus_fits P Z) (fun W => f_Mod_fits W)
def E_look (Rel : RT) : Prop := ∀ x0 : Int32, EqX Rel 0 1 (fun P Z => f_Bus_look P x0 Z) (fun W => f_Mod_look x0 W)
def E_forget (Rel : RT) : Prop := EqN Rel (fun P Z => f_Bus_forget P Z) (fun W => f_Mod_forget W)
def E_years (Rel : RT) : Prop := ∀ x0 x1 x2 : Int32, EqX Rel 2 1 (fun P Z => f_Bus_years P x0 x1 x2 Z) (fun W => f_Mod_years x0 x1 x2 W)
def E_image (Rel : RT) : Prop := EqI Rel
def E_restore (Rel : RT) : Prop := EqA Rel (fun P Z => f_Bus_restore P Z) (fun W => f_Mod_restore W)
theorem l_feed {g : GG} {Q : QT} {h : Hp} {a b o i kc ks : Nat} {Rel : RT} (hst : (gl g).stackTraces = false) (ok : EqOk Rel) (E : E_feed Rel) (hi : i + 6 ≤ gsl g) (hN : gsl g ≤ 3072) (I : LwI Rel g a b o h) (k : ∀ h', LwI Rel g a b o h' → PW g M_law 12 kc ks Q 1438 [.ref (gsa g), .ref a, .ref b, .ref o, .int (nI i), .retAddr 0, .retAddr 0] [] h') : PW g M_law 12 (kc + 82) (ks + 9266) Q 164 [.ref (gsa g), .ref a, .ref b, .ref o, .int (nI i), .retAddr 0, .retAddr 0] [] h := by
  obtain ⟨A, B, f, S, P, Y, Z, W, rfl, rfl, L, r⟩ := I
  obtain ⟨okC, okM, ok32⟩ := ok r
  refine PW.more (kc' := kc + 0) (ks' := ks + 0) (by omega) (by omega) ?_
  refine pw_aload_n e_law_164 rfl ?_
  refine pw_arg (k := 1) e_law_165 e_law_166 e_law_168 e_law_169 e_law_170 (by decide) rfl rfl (by omega) hN ?_
  refine pw_arg (k := 2) e_law_171 e_law_172 e_law_174 e_law_175 e_law_176 (by decide) rfl rfl (by omega) hN ?_
  refine pw_arg (k := 3) e_law_177 e_law_178 e_law_180 e_law_181 e_law_182 (by decide) rfl rfl (by omega) hN ?_
  refine pw_arg (k := 4) e_law_183 e_law_184 e_law_186 e_law_187 e_law_188 (by decide) rfl rfl (by omega) hN ?_
  refine pw_arg (k := 5) e_law_189 e_law_190 e_law_192 e_law_193 e_law_194 (by decide) rfl rfl (by omega) hN ?_
  refine PW.more (kc' := kc) (ks' := ks) (Nat.le_refl _) (Nat.le_refl _) ?_
  refine pw_detV (As := [.int (gsx g (i + 1)), .int (gsx g (i + 2)), .int (gsx g (i + 3)), .int (gsx g (i + 4)), .int (gsx g (i + 5))]) e_law_195 li_Law_59 rfl L.at7 (q_Bus_feed hst L.nd okC.1 (pN Z 507 1) (gsx g (i + 1)) (gsx g (i + 2)) (gsx g (i + 3)) (gsx g (i + 4)) (gsx g (i + 5)) okC.2.2.2.1.2 Z L.1.1 okC.2.2.2.1.1) rfl (by decide) (Nat.le_of_ble_eq_true rfl) rfl ?_
  have L1 := L.put (f_Bus_feed P (pN Z 507 1) (gsx g (i + 1)) (gsx g (i + 2)) (gsx g (i + 3)) (gsx g (i + 4)) (gsx g (i + 5)) Z).2
  have es := E (gsx g (i + 1)) (gsx g (i + 2)) (gsx g (i + 3)) (gsx g (i + 4)) (gsx g (i + 5)) r
  refine pw_aload_n e_law_198 rfl ?_
  refine pw_arg (k := 1) e_law_199 e_law_200 e_law_202 e_law_203 e_law_204 (by decide) rfl rfl (by omega) hN ?_
  refine pw_arg (k := 2) e_law_205 e_law_206 e_law_208 e_law_209 e_law_210 (by decide) rfl rfl (by omega) hN ?_
  refine pw_arg (k := 3) e_law_211 e_law_212 e_law_214 e_law_215 e_law_216 (by decide) rfl rfl (by omega) hN ?_
  refine pw_arg (k := 4) e_law_217 e_law_218 e_law_220 e_law_221 e_law_222 (by decide) rfl rfl (by omega) hN ?_
  refine pw_arg (k := 5) e_law_223 e_law_224 e_law_226 e_law_227 e_law_228 (by decide) rfl rfl (by omega) hN ?_
  obtain ⟨fs, hb⟩ := L1.atB
  refine pw_detV (As := [.int (gsx g (i + 1)), .int (gsx g (i + 2)), .int (gsx g (i + 3)), .int (gsx g (i + 4)), .int (gsx g (i + 5))]) e_law_229 li_Law_63 rfl hb (q_Mod_feed hst L1.md (pN Z 507 1) (gsx g (i + 1)) (gsx g (i + 2)) (gsx g (i + 3)) (gsx g (i + 4)) (gsx g (i + 5)) okC.2.2.2.1.2 W L1.2.1 okM.1 (by rw [← ok32]; exact okM.2.2.2.2.2.2.2.2.2.2.2.1)) rfl (by decide) (Nat.le_of_ble_eq_true rfl) rfl ?_
  have L2 := L1.mod (f_Mod_feed (pN Z 507 1) (gsx g (i + 1)) (gsx g (i + 2)) (gsx g (i + 3)) (gsx g (i + 4)) (gsx g (i + 5)) W).2
  exact pw_icmp_eq (tgt := 1438) e_law_232 (by decide) (fun _ => k _ ⟨A, B, f, S, P, Y, _, _, rfl, rfl, L2, es.2⟩) (fun c => absurd es.1 c)
theorem l_bus {g : GG} {Q : QT} {h : Hp} {a b o i kc ks : Nat} {Rel : RT} (hst : (gl g).stackTraces = false) (ok : EqOk Rel) (E : E_bus Rel) (hi : i + 6 ≤ gsl g) (hN : gsl g ≤ 3072) (I : LwI Rel g a b o h) (k : ∀ h', LwI Rel g a b o h' → PW g M_law 12 kc ks Q 1438 [.ref (gsa g), .ref a, .ref b, .ref o, .int (nI i), .retAddr 0, .retAddr 0] [] h') : PW g M_law 12 (kc + 82) (ks + 9266) Q 237 [.ref (gsa g), .ref a, .ref b, .ref o, .int (nI i), .retAddr 0, .retAddr 0] [] h := by
  obtain ⟨A, B, f, S, P, Y, Z, W, rfl, rfl, L, r⟩ := I
  obtain ⟨okC, okM, ok32⟩ := ok r
  refine PW.more (kc' := kc + 1) (ks' := ks + 6) (by omega) (by omega) ?_
  refine pw_aload_n e_law_237 rfl ?_
  refine pw_arg (k := 1) e_law_238 e_law_239 e_law_241 e_law_242 e_law_243 (by decide) rfl rfl (by omega) hN ?_
  refine pw_aload_n e_law_244 rfl ?_
  have nA : (bsA (A2 A)).Nodup := (A2_bs A).nodup_iff.mpr L.2.2.2.1
  have key : ∀ r' h', BusQ g A S P Y Z h (gsx g (i + 1)) r' h' → (r' = .inr "java/lang/IllegalArgumentException" ∨ ∃ x : Int32, r' = .inl (some (.int x))) ∧ ∃ (A' : Nat → Nat) (P' Y' Z' : Zf), A' 507 = A 507 ∧ LWd g A' B o f S P' Y' Z' W h' ∧ Rel S P' Y' Z' (f_Mod_bus (gsx g (i + 1)) W).2 ∧ ((r' = .inr "java/lang/IllegalArgumentException" ∧ f_Mod_thrown (f_Mod_bus (gsx g (i + 1)) W).2 = 1) ∨ ∃ x : Int32, r' = .inl (some (.int x)) ∧ f_Mod_thrown (f_Mod_bus (gsx g (i + 1)) W).2 = 0 ∧ (f_Mod_bus (gsx g (i + 1)) W).1 = x) := by
    intro r' h' q
    have es := E (gsx g (i + 1)) r
    rcases q with ⟨c, rfl, rfl⟩ | ⟨n, e1, e2, e3, ⟨c, rfl, hW', hF'⟩ | ⟨c, rfl, hW', hF'⟩⟩
    · exact ⟨Or.inl rfl, A, P, Y, Z, rfl, L, (es.1 c).2, Or.inl ⟨rfl, (es.1 c).1⟩⟩
    · obtain ⟨t1, t2, t3⟩ := (es.2 n e1 e2 e3).1 c
      exact ⟨Or.inr ⟨_, rfl⟩, A1 A, P, _, _, rfl, L.cls hW' hF' (fun x z => z) L.2.2.2.1, t3, Or.inr ⟨_, rfl, t1, t2⟩⟩
    · obtain ⟨t1, t2, t3⟩ := (es.2 n e1 e2 e3).2 c
      exact ⟨Or.inr ⟨_, rfl⟩, A2 A, _, _, _, rfl, L.cls hW' hF' (fun x z => (A2_bs A).mem_iff.mp z) nA, t3, Or.inr ⟨_, rfl, t1, t2⟩⟩
  have hO : ∀ r' h', BusQ g A S P Y Z h (gsx g (i + 1)) r' h' → h' o = some (aL g f) := fun r' h' q => by
    obtain ⟨-, A', P', Y', Z', -, L', -⟩ := key r' h' q
    exact L'.2.2.1
  have hv : ∀ v h', BusQ g A S P Y Z h (gsx g (i + 1)) (.inl v) h' → ∃ x : Int32, v = some (.int x) := fun v h' q => by
    rcases (key _ h' q).1 with z | ⟨x, z⟩
    · cases z
    · exact ⟨x, Sum.inl.inj z⟩
  have hE : ∀ E h', BusQ g A S P Y Z h (gsx g (i + 1)) (.inr E) h' → E = "java/lang/IllegalArgumentException" := fun E h' q => by
    rcases (key _ h' q).1 with z | ⟨x, z⟩
    · exact Sum.inr.inj z
    · cases z
  refine pw_callSH (kc' := 1) (ks' := 6) (As := [.ref (A 507), .int (gsx g (i + 1)), .ref o]) e_law_245 ls_Law_64 (q_Law_bus hst (gsx g (i + 1)) L.at7 (q_Bus_bus hst L.nd L.1 (gsx g (i + 1)) okC.2.2.2.1 okC.2.2.2.2.2.2.2.2) hO hv hE) rfl (by decide) (Nat.le_of_ble_eq_true rfl) (fun E h' q => (wr_no q).elim) (fun v h1 q => ?_)
  obtain ⟨kk, f', A', P', Y', Z', rfl, e7, L2, ht, hf', rl⟩ : ∃ (kk : Int32) (f' : Nat → Int64) (A' : Nat → Nat) (P' Y' Z' : Zf), v = some (.int kk) ∧ A' 507 = A 507 ∧ LWd g A' B o f' S P' Y' Z' W h1 ∧ f_Mod_thrown (f_Mod_bus (gsx g (i + 1)) W).2 = kk ∧ (kk = 0 → f' 0 = (f_Mod_bus (gsx g (i + 1)) W).1.toInt64) ∧ Rel S P' Y' Z' (f_Mod_bus (gsx g (i + 1)) W).2 := by
    rcases q with ⟨x, h', q1, q3, q4⟩ | ⟨q1, q3⟩ | ⟨q1, q3⟩
    · obtain ⟨-, A', P', Y', Z', e7, L', rl, ⟨z, -⟩ | ⟨x', z, t1, t2⟩⟩ := key _ h' q1
      · cases z
      · cases z
        exact ⟨0, vp_updL f 0 x.toInt64, A', P', Y', Z', Sum.inl.inj q3, e7, by rw [q4]; exact L'.out _, t1, fun _ => by rw [t2]; exact if_pos rfl, rl⟩
    · obtain ⟨-, A', P', Y', Z', e7, L', rl, ⟨z, t1⟩ | ⟨x', z, -⟩⟩ := key _ h1 q1
      · exact ⟨1, f, A', P', Y', Z', Sum.inl.inj q3, e7, L', t1, fun z => absurd z (by decide), rl⟩
      · cases z
    · obtain ⟨-, A', P', Y', Z', e7, L', rl, ⟨z, -⟩ | ⟨x', z, -⟩⟩ := key _ h1 q1
      · exact absurd (Sum.inr.inj z) (by decide)
      · cases z
  refine pw_istore (ls2 := [.ref (gsa g), .ref (A 507), .ref (B 100), .ref o, .int (nI i), .int kk, .retAddr 0]) e_law_248 (by decide) rfl ?_
  refine pw_aload_n e_law_250 rfl ?_
  refine pw_arg (k := 1) e_law_251 e_law_252 e_law_254 e_law_255 e_law_256 (by decide) rfl rfl (by omega) hN ?_
  obtain ⟨fs, hb⟩ := L2.atB
  refine pw_detV (As := [.int (gsx g (i + 1))]) e_law_257 li_Law_69 rfl hb (q_Mod_bus hst L2.md (gsx g (i + 1)) W L2.2.1 okM.1 okM.2.2.2.2.2.2.2.2.2.2.1 okM.2.2.2.2.2.2.2.2.1 okM.2.2.2.2.2.2.2.2.2.1 okM.2.2.2.2.2.2.2.2.2.2.2) rfl (by decide) (Nat.le_of_ble_eq_true rfl) rfl ?_
  have L3 := L2.mod (f_Mod_bus (gsx g (i + 1)) W).2
  refine pw_istore (ls2 := [.ref (gsa g), .ref (A 507), .ref (B 100), .ref o, .int (nI i), .int kk, .int (f_Mod_bus (gsx g (i + 1)) W).1]) e_law_260 (by decide) rfl ?_
  refine pw_aload_n e_law_262 rfl ?_
  obtain ⟨fs3, hb3⟩ := L3.atB
  refine pw_detV (As := []) e_law_263 li_Law_70 rfl hb3 (q_Mod_thrown hst L3.md (f_Mod_bus (gsx g (i + 1)) W).2 L3.2.1) rfl (by decide) (Nat.le_of_ble_eq_true rfl) rfl ?_
  refine pw_iload e_law_266 rfl ?_
  refine pw_icmp_eq (tgt := 273) e_law_268 (by decide) (fun _ => ?_) (fun c => absurd ht c)
  have fin : PW g M_law 12 kc ks Q 290 [.ref (gsa g), .ref (A 507), .ref (B 100), .ref o, .int (nI i), .int kk, .int (f_Mod_bus (gsx g (i + 1)) W).1] [] _ := pw_goto (tgt := 1438) e_law_290 (by decide) (pw_fgt (ls' := [.ref (gsa g), .ref (A 507), .ref (B 100), .ref o, .int (nI i), .retAddr 0, .retAddr 0]) ⟨Or.inr rfl, Or.inr rfl, Or.inr rfl, Or.inr rfl, Or.inr rfl, Or.inl rfl, Or.inl rfl, trivial⟩ (k _ ⟨A', B, f', S, P', Y', Z', _, e7, rfl, L3, rl⟩))
  refine pw_iload e_law_273 rfl ?_
  refine pw_if_ne (tgt := 290) e_law_275 (by decide) (fun _ => fin) (fun hk0 => ?_)
  refine pw_aload_n e_law_278 rfl ?_
  refine pw_iconst (v := nI 0) e_law_279 (by decide) ?_
  refine pw_lald e_law_280 L3.2.2.1 (vp_in_nI (by decide) (by decide)) ?_
  refine pw_iload e_law_281 rfl ?_
  refine pw_i2l e_law_283 ?_
  refine pw_lcmp e_law_284 ?_
  exact pw_if_eq (tgt := 290) e_law_285 (by decide) (fun _ => fin) (fun c => absurd ((lg_cmp_eq _ _).mpr (hf' hk0)) c)
theorem l_fault {g : GG} {Q : QT} {h : Hp} {a b o i kc ks : Nat} {Rel : RT} (hst : (gl g).stackTraces = false) (ok : EqOk Rel) (E : E_fault Rel) (hi : i + 6 ≤ gsl g) (hN : gsl g ≤ 3072) (I : LwI Rel g a b o h) (k : ∀ h', LwI Rel g a b o h' → PW g M_law 12 kc ks Q 1438 [.ref (gsa g), .ref a, .ref b, .ref o, .int (nI i), .retAddr 0, .retAddr 0] [] h') : PW g M_law 12 (kc + 82) (ks + 9266) Q 293 [.ref (gsa g), .ref a, .ref b, .ref o, .int (nI i), .retAddr 0, .retAddr 0] [] h := by
  obtain ⟨A, B, f, S, P, Y, Z, W, rfl, rfl, L, r⟩ := I
  obtain ⟨okC, okM, ok32⟩ := ok r
  refine PW.more (kc' := kc + 0) (ks' := ks + 0) (by omega) (by omega) ?_
  refine pw_aload_n e_law_293 rfl ?_
  refine PW.more (kc' := kc) (ks' := ks) (Nat.le_refl _) (Nat.le_refl _) ?_
  refine pw_detV (As := []) e_law_294 li_Law_74 rfl L.at7 (q_Bus_fault hst L.nd okC.1 Z L.1.1) rfl (by decide) (Nat.le_of_ble_eq_true rfl) rfl ?_
  have L1 := L
  have es := E  r
  refine pw_aload_n e_law_297 rfl ?_
  obtain ⟨fs, hb⟩ := L1.atB
  refine pw_detV (As := []) e_law_298 li_Law_77 rfl hb (q_Mod_fault hst L1.md W L1.2.1 ) rfl (by decide) (Nat.le_of_ble_eq_true rfl) rfl ?_
  have L2 := L1.mod (f_Mod_fault W).2
  exact pw_icmp_eq (tgt := 1438) e_law_301 (by decide) (fun _ => k _ ⟨A, B, f, S, P, Y, _, _, rfl, rfl, L2, es.2⟩) (fun c => absurd es.1 c)
theorem l_count {g : GG} {Q : QT} {h : Hp} {a b o i kc ks : Nat} {Rel : RT} (hst : (gl g).stackTraces = false) (ok : EqOk Rel) (E : E_count Rel) (hi : i + 6 ≤ gsl g) (hN : gsl g ≤ 3072) (I : LwI Rel g a b o h) (k : ∀ h', LwI Rel g a b o h' → PW g M_law 12 kc ks Q 1438 [.ref (gsa g), .ref a, .ref b, .ref o, .int (nI i), .retAddr 0, .retAddr 0] [] h') : PW g M_law 12 (kc + 82) (ks + 9266) Q 306 [.ref (gsa g), .ref a, .ref b, .ref o, .int (nI i), .retAddr 0, .retAddr 0] [] h := by
  obtain ⟨A, B, f, S, P, Y, Z, W, rfl, rfl, L, r⟩ := I
  obtain ⟨okC, okM, ok32⟩ := ok r
  refine PW.more (kc' := kc + 1) (ks' := ks + 6) (by omega) (by omega) ?_
  refine pw_aload_n e_law_306 rfl ?_
  refine pw_arg (k := 1) e_law_307 e_law_308 e_law_310 e_law_311 e_law_312 (by decide) rfl rfl (by omega) hN ?_
  refine pw_aload_n e_law_313 rfl ?_
  have es := E (gsx g (i + 1)) r
  have L1 := L
  have hE : ∀ E h', RetX (f_Bus_count P (gsx g (i + 1)) Z) h (.inr E) h' → E = "java/util/NoSuchElementException" := fun E h' q => by
    rcases rx_e es.1 q with z | z
    · exact absurd rfl z.2
    · exact z.1
  refine pw_callSH (kc' := 1) (ks' := 6) (As := [.ref (A 507), .int (gsx g (i + 1)), .ref o]) e_law_314 ls_Law_78 (q_Law_count hst (gsx g (i + 1)) L.at7 (q_Bus_count hst L.nd okC.1 (gsx g (i + 1)) Z L.1.1) (fun r h' q => by rw [q.2]; exact L1.2.2.1) (fun v h' q => rx_v q) hE) rfl (by decide) (Nat.le_of_ble_eq_true rfl) (fun E h' q => (wr_no q).elim) (fun v h1 q => ?_)
  obtain ⟨kk, f', rfl, hh, ht, hf'⟩ := wr_X es.1 q
  have L2 := L1.wr hh
  have rl := es.2
  refine pw_istore (ls2 := [.ref (gsa g), .ref (A 507), .ref (B 100), .ref o, .int (nI i), .int kk, .retAddr 0]) e_law_317 (by decide) rfl ?_
  refine pw_aload_n e_law_319 rfl ?_
  refine pw_arg (k := 1) e_law_320 e_law_321 e_law_323 e_law_324 e_law_325 (by decide) rfl rfl (by omega) hN ?_
  obtain ⟨fs, hb⟩ := L2.atB
  refine pw_detV (As := [.int (gsx g (i + 1))]) e_law_326 li_Law_80 rfl hb (q_Mod_count hst L2.md (gsx g (i + 1)) W L2.2.1 okM.1) rfl (by decide) (Nat.le_of_ble_eq_true rfl) rfl ?_
  have L3 := L2.mod (f_Mod_count (gsx g (i + 1)) W).2
  refine pw_istore (ls2 := [.ref (gsa g), .ref (A 507), .ref (B 100), .ref o, .int (nI i), .int kk, .int (f_Mod_count (gsx g (i + 1)) W).1]) e_law_329 (by decide) rfl ?_
  refine pw_aload_n e_law_331 rfl ?_
  obtain ⟨fs3, hb3⟩ := L3.atB
  refine pw_detV (As := []) e_law_332 li_Law_70 rfl hb3 (q_Mod_thrown hst L3.md (f_Mod_count (gsx g (i + 1)) W).2 L3.2.1) rfl (by decide) (Nat.le_of_ble_eq_true rfl) rfl ?_
  refine pw_iload e_law_335 rfl ?_
  refine pw_icmp_eq (tgt := 342) e_law_337 (by decide) (fun _ => ?_) (fun c => absurd ht c)
  have fin : PW g M_law 12 kc ks Q 359 [.ref (gsa g), .ref (A 507), .ref (B 100), .ref o, .int (nI i), .int kk, .int (f_Mod_count (gsx g (i + 1)) W).1] [] _ := pw_goto (tgt := 1438) e_law_359 (by decide) (pw_fgt (ls' := [.ref (gsa g), .ref (A 507), .ref (B 100), .ref o, .int (nI i), .retAddr 0, .retAddr 0]) ⟨Or.inr rfl, Or.inr rfl, Or.inr rfl, Or.inr rfl, Or.inr rfl, Or.inl rfl, Or.inl rfl, trivial⟩ (k _ ⟨A, B, f', S, P, Y, _, _, rfl, rfl, L3, rl⟩))
  refine pw_iload e_law_342 rfl ?_
  refine pw_if_ne (tgt := 359) e_law_344 (by decide) (fun _ => fin) (fun hk0 => ?_)
  refine pw_aload_n e_law_347 rfl ?_
  refine pw_iconst (v := nI 0) e_law_348 (by decide) ?_
  refine pw_lald e_law_349 L3.2.2.1 (vp_in_nI (by decide) (by decide)) ?_
  refine pw_iload e_law_350 rfl ?_
  refine pw_i2l e_law_352 ?_
  refine pw_lcmp e_law_353 ?_
  exact pw_if_eq (tgt := 359) e_law_354 (by decide) (fun _ => fin) (fun c => absurd ((lg_cmp_eq _ _).mpr (hf' hk0)) c)
theorem l_block {g : GG} {Q : QT} {h : Hp} {a b o i kc ks : Nat} {Rel : RT} (hst : (gl g).stackTraces = false) (ok : EqOk Rel) (E : E_block Rel) (hi : i + 6 ≤ gsl g) (hN : gsl g ≤ 3072) (I : LwI Rel g a b o h) (k : ∀ h', LwI Rel g a b o h' → PW g M_law 12 kc ks Q 1438 [.ref (gsa g), .ref a, .ref b, .ref o, .int (nI i), .retAddr 0, .retAddr 0] [] h') : PW g M_law 12 (kc + 82) (ks + 9266) Q 362 [.ref (gsa g), .ref a, .ref b, .ref o, .int (nI i), .retAddr 0, .retAddr 0] [] h := by
  obtain ⟨A, B, f, S, P, Y, Z, W, rfl, rfl, L, r⟩ := I
  obtain ⟨okC, okM, ok32⟩ := ok r
  refine PW.more (kc' := kc + 2) (ks' := ks + 12) (by omega) (by omega) ?_
  refine pw_aload_n e_law_362 rfl ?_
  refine pw_arg (k := 1) e_law_363 e_law_364 e_law_366 e_law_367 e_law_368 (by decide) rfl rfl (by omega) hN ?_
  refine pw_arg (k := 2) e_law_369 e_law_370 e_law_372 e_law_373 e_law_374 (by decide) rfl rfl (by omega) hN ?_
  refine pw_aload_n e_law_375 rfl ?_
  have es := E (gsx g (i + 1)) (gsx g (i + 2)) r
  have L1 := L
  have hE : ∀ E h', RetX (f_Bus_block P (gsx g (i + 1)) (gsx g (i + 2)) Z) h (.inr E) h' → E = "java/util/NoSuchElementException" := fun E h' q => by
    rcases rx_e es.1 q with z | z
    · exact absurd rfl z.2
    · exact z.1
  refine pw_callSH (kc' := 2) (ks' := 12) (As := [.ref (A 507), .int (gsx g (i + 1)), .int (gsx g (i + 2)), .ref o]) e_law_376 ls_Law_81 (q_Law_block hst (gsx g (i + 1)) (gsx g (i + 2)) L.at7 (q_Bus_block hst L.nd okC.1 (gsx g (i + 1)) (gsx g (i + 2)) Z L.1.1) (fun r h' q => by rw [q.2]; exact L1.2.2.1) (fun v h' q => rx_v q) hE) rfl (by decide) (Nat.le_of_ble_eq_true rfl) (fun E h' q => (wr_no q).elim) (fun v h1 q => ?_)
  obtain ⟨kk, f', rfl, hh, ht, hf'⟩ := wr_X es.1 q
  have L2 := L1.wr hh
  have rl := es.2
  refine pw_istore (ls2 := [.ref (gsa g), .ref (A 507), .ref (B 100), .ref o, .int (nI i), .int kk, .retAddr 0]) e_law_379 (by decide) rfl ?_
  refine pw_aload_n e_law_381 rfl ?_
  refine pw_arg (k := 1) e_law_382 e_law_383 e_law_385 e_law_386 e_law_387 (by decide) rfl rfl (by omega) hN ?_
  refine pw_arg (k := 2) e_law_388 e_law_389 e_law_391 e_law_392 e_law_393 (by decide) rfl rfl (by omega) hN ?_
  obtain ⟨fs, hb⟩ := L2.atB
  refine pw_detV (As := [.int (gsx g (i + 1)), .int (gsx g (i + 2))]) e_law_394 li_Law_84 rfl hb (q_Mod_block hst L2.md (gsx g (i + 1)) (gsx g (i + 2)) W L2.2.1 okM.1 okM.2.2.1) rfl (by decide) (Nat.le_of_ble_eq_true rfl) rfl ?_
  have L3 := L2.mod (f_Mod_block (gsx g (i + 1)) (gsx g (i + 2)) W).2
  refine pw_istore (ls2 := [.ref (gsa g), .ref (A 507), .ref (B 100), .ref o, .int (nI i), .int kk, .int (f_Mod_block (gsx g (i + 1)) (gsx g (i + 2)) W).1]) e_law_397 (by decide) rfl ?_
  refine pw_aload_n e_law_399 rfl ?_
  obtain ⟨fs3, hb3⟩ := L3.atB
  refine pw_detV (As := []) e_law_400 li_Law_70 rfl hb3 (q_Mod_thrown hst L3.md (f_Mod_block (gsx g (i + 1)) (gsx g (i + 2)) W).2 L3.2.1) rfl (by decide) (Nat.le_of_ble_eq_true rfl) rfl ?_
  refine pw_iload e_law_403 rfl ?_
  refine pw_icmp_eq (tgt := 410) e_law_405 (by decide) (fun _ => ?_) (fun c => absurd ht c)
  have fin : PW g M_law 12 kc ks Q 427 [.ref (gsa g), .ref (A 507), .ref (B 100), .ref o, .int (nI i), .int kk, .int (f_Mod_block (gsx g (i + 1)) (gsx g (i + 2)) W).1] [] _ := pw_goto (tgt := 1438) e_law_427 (by decide) (pw_fgt (ls' := [.ref (gsa g), .ref (A 507), .ref (B 100), .ref o, .int (nI i), .retAddr 0, .retAddr 0]) ⟨Or.inr rfl, Or.inr rfl, Or.inr rfl, Or.inr rfl, Or.inr rfl, Or.inl rfl, Or.inl rfl, trivial⟩ (k _ ⟨A, B, f', S, P, Y, _, _, rfl, rfl, L3, rl⟩))
  refine pw_iload e_law_410 rfl ?_
  refine pw_if_ne (tgt := 427) e_law_412 (by decide) (fun _ => fin) (fun hk0 => ?_)
  refine pw_aload_n e_law_415 rfl ?_
  refine pw_iconst (v := nI 0) e_law_416 (by decide) ?_
  refine pw_lald e_law_417 L3.2.2.1 (vp_in_nI (by decide) (by decide)) ?_
  refine pw_iload e_law_418 rfl ?_
  refine pw_i2l e_law_420 ?_
  refine pw_lcmp e_law_421 ?_
  exact pw_if_eq (tgt := 427) e_law_422 (by decide) (fun _ => fin) (fun c => absurd ((lg_cmp_eq _ _).mpr (hf' hk0)) c)
theorem l_link {g : GG} {Q : QT} {h : Hp} {a b o i kc ks : Nat} {Rel : RT} (hst : (gl g).stackTraces = false) (ok : EqOk Rel) (E : E_link Rel) (hi : i + 6 ≤ gsl g) (hN : gsl g ≤ 3072) (I : LwI Rel g a b o h) (k : ∀ h', LwI Rel g a b o h' → PW g M_law 12 kc ks Q 1438 [.ref (gsa g), .ref a, .ref b, .ref o, .int (nI i), .retAddr 0, .retAddr 0] [] h') : PW g M_law 12 (kc + 82) (ks + 9266) Q 430 [.ref (gsa g), .ref a, .ref b, .ref o, .int (nI i), .retAddr 0, .retAddr 0] [] h := by
  obtain ⟨A, B, f, S, P, Y, Z, W, rfl, rfl, L, r⟩ := I
  obtain ⟨okC, okM, ok32⟩ := ok r
  refine PW.more (kc' := kc + 1) (ks' := ks + 6) (by omega) (by omega) ?_
  refine pw_aload_n e_law_430 rfl ?_
  refine pw_arg (k := 1) e_law_431 e_law_432 e_law_434 e_law_435 e_law_436 (by decide) rfl rfl (by omega) hN ?_
  refine pw_arg (k := 2) e_law_437 e_law_438 e_law_440 e_law_441 e_law_442 (by decide) rfl rfl (by omega) hN ?_
  refine pw_aload_n e_law_443 rfl ?_
  have es := E (gsx g (i + 1)) (gsx g (i + 2)) r
  have L1 := L
  have hE : ∀ E h', RetX (f_Bus_link P (gsx g (i + 1)) (gsx g (i + 2)) Z) h (.inr E) h' → E = "java/util/NoSuchElementException" := fun E h' q => by
    rcases rx_e es.1 q with z | z
    · exact absurd rfl z.2
    · exact z.1
  refine pw_callSH (kc' := 1) (ks' := 6) (As := [.ref (A 507), .int (gsx g (i + 1)), .int (gsx g (i + 2)), .ref o]) e_law_444 ls_Law_85 (q_Law_link hst (gsx g (i + 1)) (gsx g (i + 2)) L.at7 (q_Bus_link hst L.nd okC.1 (gsx g (i + 1)) (gsx g (i + 2)) Z L.1.1) (fun r h' q => by rw [q.2]; exact L1.2.2.1) (fun v h' q => rx_v q) hE) rfl (by decide) (Nat.le_of_ble_eq_true rfl) (fun E h' q => (wr_no q).elim) (fun v h1 q => ?_)
  obtain ⟨kk, f', rfl, hh, ht, hf'⟩ := wr_X es.1 q
  have L2 := L1.wr hh
  have rl := es.2
  refine pw_istore (ls2 := [.ref (gsa g), .ref (A 507), .ref (B 100), .ref o, .int (nI i), .int kk, .retAddr 0]) e_law_447 (by decide) rfl ?_
  refine pw_aload_n e_law_449 rfl ?_
  refine pw_arg (k := 1) e_law_450 e_law_451 e_law_453 e_law_454 e_law_455 (by decide) rfl rfl (by omega) hN ?_
  refine pw_arg (k := 2) e_law_456 e_law_457 e_law_459 e_law_460 e_law_461 (by decide) rfl rfl (by omega) hN ?_
  obtain ⟨fs, hb⟩ := L2.atB
  refine pw_detV (As := [.int (gsx g (i + 1)), .int (gsx g (i + 2))]) e_law_462 li_Law_87 rfl hb (q_Mod_link hst L2.md (gsx g (i + 1)) (gsx g (i + 2)) W L2.2.1 okM.1) rfl (by decide) (Nat.le_of_ble_eq_true rfl) rfl ?_
  have L3 := L2.mod (f_Mod_link (gsx g (i + 1)) (gsx g (i + 2)) W).2
  refine pw_istore (ls2 := [.ref (gsa g), .ref (A 507), .ref (B 100), .ref o, .int (nI i), .int kk, .int (f_Mod_link (gsx g (i + 1)) (gsx g (i + 2)) W).1]) e_law_465 (by decide) rfl ?_
  refine pw_aload_n e_law_467 rfl ?_
  obtain ⟨fs3, hb3⟩ := L3.atB
  refine pw_detV (As := []) e_law_468 li_Law_70 rfl hb3 (q_Mod_thrown hst L3.md (f_Mod_link (gsx g (i + 1)) (gsx g (i + 2)) W).2 L3.2.1) rfl (by decide) (Nat.le_of_ble_eq_true rfl) rfl ?_
  refine pw_iload e_law_471 rfl ?_
  refine pw_icmp_eq (tgt := 478) e_law_473 (by decide) (fun _ => ?_) (fun c => absurd ht c)
  have fin : PW g M_law 12 kc ks Q 495 [.ref (gsa g), .ref (A 507), .ref (B 100), .ref o, .int (nI i), .int kk, .int (f_Mod_link (gsx g (i + 1)) (gsx g (i + 2)) W).1] [] _ := pw_goto (tgt := 1438) e_law_495 (by decide) (pw_fgt (ls' := [.ref (gsa g), .ref (A 507), .ref (B 100), .ref o, .int (nI i), .retAddr 0, .retAddr 0]) ⟨Or.inr rfl, Or.inr rfl, Or.inr rfl, Or.inr rfl, Or.inr rfl, Or.inl rfl, Or.inl rfl, trivial⟩ (k _ ⟨A, B, f', S, P, Y, _, _, rfl, rfl, L3, rl⟩))
  refine pw_iload e_law_478 rfl ?_
  refine pw_if_ne (tgt := 495) e_law_480 (by decide) (fun _ => fin) (fun hk0 => ?_)
  refine pw_aload_n e_law_483 rfl ?_
  refine pw_iconst (v := nI 0) e_law_484 (by decide) ?_
  refine pw_lald e_law_485 L3.2.2.1 (vp_in_nI (by decide) (by decide)) ?_
  refine pw_iload e_law_486 rfl ?_
  refine pw_i2l e_law_488 ?_
  refine pw_lcmp e_law_489 ?_
  exact pw_if_eq (tgt := 495) e_law_490 (by decide) (fun _ => fin) (fun c => absurd ((lg_cmp_eq _ _).mpr (hf' hk0)) c)
theorem l_plant {g : GG} {Q : QT} {h : Hp} {a b o i kc ks : Nat} {Rel : RT} (hst : (gl g).stackTraces = false) (ok : EqOk Rel) (E : E_plant Rel) (hi : i + 6 ≤ gsl g) (hN : gsl g ≤ 3072) (I : LwI Rel g a b o h) (k : ∀ h', LwI Rel g a b o h' → PW g M_law 12 kc ks Q 1438 [.ref (gsa g), .ref a, .ref b, .ref o, .int (nI i), .retAddr 0, .retAddr 0] [] h') : PW g M_law 12 (kc + 82) (ks + 9266) Q 498 [.ref (gsa g), .ref a, .ref b, .ref o, .int (nI i), .retAddr 0, .retAddr 0] [] h := by
  obtain ⟨A, B, f, S, P, Y, Z, W, rfl, rfl, L, r⟩ := I
  obtain ⟨okC, okM, ok32⟩ := ok r
  refine PW.more (kc' := kc + 1) (ks' := ks + 6) (by omega) (by omega) ?_
  refine pw_aload_n e_law_498 rfl ?_
  refine pw_arg (k := 1) e_law_499 e_law_500 e_law_502 e_law_503 e_law_504 (by decide) rfl rfl (by omega) hN ?_
  refine pw_arg (k := 2) e_law_505 e_law_506 e_law_508 e_law_509 e_law_510 (by decide) rfl rfl (by omega) hN ?_
  refine pw_aload_n e_law_511 rfl ?_
  have es := E (gsx g (i + 1)) (gsx g (i + 2)) r
  have L1 := L
  have hE : ∀ E h', RetX (f_Bus_plant P (gsx g (i + 1)) (gsx g (i + 2)) Z) h (.inr E) h' → E = "java/util/NoSuchElementException" := fun E h' q => by
    rcases rx_e es.1 q with z | z
    · exact absurd rfl z.2
    · exact z.1
  refine pw_callSH (kc' := 1) (ks' := 6) (As := [.ref (A 507), .int (gsx g (i + 1)), .int (gsx g (i + 2)), .ref o]) e_law_512 ls_Law_88 (q_Law_plant hst (gsx g (i + 1)) (gsx g (i + 2)) L.at7 (q_Bus_plant hst L.nd okC.1 (gsx g (i + 1)) (gsx g (i + 2)) Z L.1.1) (fun r h' q => by rw [q.2]; exact L1.2.2.1) (fun v h' q => rx_v q) hE) rfl (by decide) (Nat.le_of_ble_eq_true rfl) (fun E h' q => (wr_no q).elim) (fun v h1 q => ?_)
  obtain ⟨kk, f', rfl, hh, ht, hf'⟩ := wr_X es.1 q
  have L2 := L1.wr hh
  have rl := es.2
  refine pw_istore (ls2 := [.ref (gsa g), .ref (A 507), .ref (B 100), .ref o, .int (nI i), .int kk, .retAddr 0]) e_law_515 (by decide) rfl ?_
  refine pw_aload_n e_law_517 rfl ?_
  refine pw_arg (k := 1) e_law_518 e_law_519 e_law_521 e_law_522 e_law_523 (by decide) rfl rfl (by omega) hN ?_
  refine pw_arg (k := 2) e_law_524 e_law_525 e_law_527 e_law_528 e_law_529 (by decide) rfl rfl (by omega) hN ?_
  obtain ⟨fs, hb⟩ := L2.atB
  refine pw_detV (As := [.int (gsx g (i + 1)), .int (gsx g (i + 2))]) e_law_530 li_Law_90 rfl hb (q_Mod_plant hst L2.md (gsx g (i + 1)) (gsx g (i + 2)) W L2.2.1 okM.1) rfl (by decide) (Nat.le_of_ble_eq_true rfl) rfl ?_
  have L3 := L2.mod (f_Mod_plant (gsx g (i + 1)) (gsx g (i + 2)) W).2
  refine pw_istore (ls2 := [.ref (gsa g), .ref (A 507), .ref (B 100), .ref o, .int (nI i), .int kk, .int (f_Mod_plant (gsx g (i + 1)) (gsx g (i + 2)) W).1]) e_law_533 (by decide) rfl ?_
  refine pw_aload_n e_law_535 rfl ?_
  obtain ⟨fs3, hb3⟩ := L3.atB
  refine pw_detV (As := []) e_law_536 li_Law_70 rfl hb3 (q_Mod_thrown hst L3.md (f_Mod_plant (gsx g (i + 1)) (gsx g (i + 2)) W).2 L3.2.1) rfl (by decide) (Nat.le_of_ble_eq_true rfl) rfl ?_
  refine pw_iload e_law_539 rfl ?_
  refine pw_icmp_eq (tgt := 546) e_law_541 (by decide) (fun _ => ?_) (fun c => absurd ht c)
  have fin : PW g M_law 12 kc ks Q 563 [.ref (gsa g), .ref (A 507), .ref (B 100), .ref o, .int (nI i), .int kk, .int (f_Mod_plant (gsx g (i + 1)) (gsx g (i + 2)) W).1] [] _ := pw_goto (tgt := 1438) e_law_563 (by decide) (pw_fgt (ls' := [.ref (gsa g), .ref (A 507), .ref (B 100), .ref o, .int (nI i), .retAddr 0, .retAddr 0]) ⟨Or.inr rfl, Or.inr rfl, Or.inr rfl, Or.inr rfl, Or.inr rfl, Or.inl rfl, Or.inl rfl, trivial⟩ (k _ ⟨A, B, f', S, P, Y, _, _, rfl, rfl, L3, rl⟩))
  refine pw_iload e_law_546 rfl ?_
  refine pw_if_ne (tgt := 563) e_law_548 (by decide) (fun _ => fin) (fun hk0 => ?_)
  refine pw_aload_n e_law_551 rfl ?_
  refine pw_iconst (v := nI 0) e_law_552 (by decide) ?_
  refine pw_lald e_law_553 L3.2.2.1 (vp_in_nI (by decide) (by decide)) ?_
  refine pw_iload e_law_554 rfl ?_
  refine pw_i2l e_law_556 ?_
  refine pw_lcmp e_law_557 ?_
  exact pw_if_eq (tgt := 563) e_law_558 (by decide) (fun _ => fin) (fun c => absurd ((lg_cmp_eq _ _).mpr (hf' hk0)) c)
theorem l_target {g : GG} {Q : QT} {h : Hp} {a b o i kc ks : Nat} {Rel : RT} (hst : (gl g).stackTraces = false) (ok : EqOk Rel) (E : E_target Rel) (hi : i + 6 ≤ gsl g) (hN : gsl g ≤ 3072) (I : LwI Rel g a b o h) (k : ∀ h', LwI Rel g a b o h' → PW g M_law 12 kc ks Q 1438 [.ref (gsa g), .ref a, .ref b, .ref o, .int (nI i), .retAddr 0, .retAddr 0] [] h') : PW g M_law 12 (kc + 82) (ks + 9266) Q 566 [.ref (gsa g), .ref a, .ref b, .ref o, .int (nI i), .retAddr 0, .retAddr 0] [] h := by
  obtain ⟨A, B, f, S, P, Y, Z, W, rfl, rfl, L, r⟩ := I
  obtain ⟨okC, okM, ok32⟩ := ok r
  refine PW.more (kc' := kc + 2) (ks' := ks + 226) (by omega) (by omega) ?_
  refine pw_aload_n e_law_566 rfl ?_
  refine pw_arg (k := 1) e_law_567 e_law_568 e_law_570 e_law_571 e_law_572 (by decide) rfl rfl (by omega) hN ?_
  refine pw_arg (k := 2) e_law_573 e_law_574 e_law_576 e_law_577 e_law_578 (by decide) rfl rfl (by omega) hN ?_
  refine pw_callV (kc' := 2) (ks' := 226) (As := [.int (gsx g (i + 1)), .int (gsx g (i + 2))]) e_law_579 li_Law_91 rfl L.at7 (q_Bus_target hst L.nd okC.1 (gsx g (i + 1)) (gsx g (i + 2)) Z L.1 okC.2.2.1) rfl (by decide) (Nat.le_of_ble_eq_true rfl) (fun E h' q => by obtain ⟨_, q, _⟩ := q; cases q) (fun v h1 q => ?_)
  obtain ⟨S', hv, W1, F1, hL1, hS1⟩ := q
  cases hv
  have L1 := L.cls W1 F1 (fun _ z => z) L.2.2.2.1
  have es := E (gsx g (i + 1)) (gsx g (i + 2)) r hL1 hS1
  refine pw_aload_n e_law_582 rfl ?_
  refine pw_arg (k := 1) e_law_583 e_law_584 e_law_586 e_law_587 e_law_588 (by decide) rfl rfl (by omega) hN ?_
  refine pw_arg (k := 2) e_law_589 e_law_590 e_law_592 e_law_593 e_law_594 (by decide) rfl rfl (by omega) hN ?_
  obtain ⟨fs, hb⟩ := L1.atB
  refine pw_detV (As := [.int (gsx g (i + 1)), .int (gsx g (i + 2))]) e_law_595 li_Law_94 rfl hb (q_Mod_target hst L1.md (gsx g (i + 1)) (gsx g (i + 2)) W L1.2.1 okM.1 okM.2.1) rfl (by decide) (Nat.le_of_ble_eq_true rfl) rfl ?_
  have L2 := L1.mod (f_Mod_target (gsx g (i + 1)) (gsx g (i + 2)) W).2
  exact pw_icmp_eq (tgt := 1438) e_law_598 (by decide) (fun _ => k _ ⟨A, B, f, S', P, Y, _, _, rfl, rfl, L2, es.2⟩) (fun c => absurd es.1 c)
theorem l_hand {g : GG} {Q : QT} {h : Hp} {a b o i kc ks : Nat} {Rel : RT} (hst : (gl g).stackTraces = false) (ok : EqOk Rel) (E : E_hand Rel) (hi : i + 6 ≤ gsl g) (hN : gsl g ≤ 3072) (I : LwI Rel g a b o h) (k : ∀ h', LwI Rel g a b o h' → PW g M_law 12 kc ks Q 1438 [.ref (gsa g), .ref a, .ref b, .ref o, .int (nI i), .retAddr 0, .retAddr 0] [] h') : PW g M_law 12 (kc + 82) (ks + 9266) Q 603 [.ref (gsa g), .ref a, .ref b, .ref o, .int (nI i), .retAddr 0, .retAddr 0] [] h := by
  obtain ⟨A, B, f, S, P, Y, Z, W, rfl, rfl, L, r⟩ := I
  obtain ⟨okC, okM, ok32⟩ := ok r
  refine PW.more (kc' := kc + 2) (ks' := ks + 226) (by omega) (by omega) ?_
  refine pw_aload_n e_law_603 rfl ?_
  refine pw_arg (k := 1) e_law_604 e_law_605 e_law_607 e_law_608 e_law_609 (by decide) rfl rfl (by omega) hN ?_
  refine pw_arg (k := 2) e_law_610 e_law_611 e_law_613 e_law_614 e_law_615 (by decide) rfl rfl (by omega) hN ?_
  refine pw_callV (kc' := 2) (ks' := 226) (As := [.int (gsx g (i + 1)), .int (gsx g (i + 2))]) e_law_616 li_Law_95 rfl L.at7 (q_Bus_hand hst L.nd okC.1 (gsx g (i + 1)) (gsx g (i + 2)) Z L.1 okC.2.2.1) rfl (by decide) (Nat.le_of_ble_eq_true rfl) (fun E h' q => by obtain ⟨_, q, _⟩ := q; cases q) (fun v h1 q => ?_)
  obtain ⟨S', hv, W1, F1, hL1, hS1⟩ := q
  cases hv
  have L1 := L.cls W1 F1 (fun _ z => z) L.2.2.2.1
  have es := E (gsx g (i + 1)) (gsx g (i + 2)) r hL1 hS1
  refine pw_aload_n e_law_619 rfl ?_
  refine pw_arg (k := 1) e_law_620 e_law_621 e_law_623 e_law_624 e_law_625 (by decide) rfl rfl (by omega) hN ?_
  refine pw_arg (k := 2) e_law_626 e_law_627 e_law_629 e_law_630 e_law_631 (by decide) rfl rfl (by omega) hN ?_
  obtain ⟨fs, hb⟩ := L1.atB
  refine pw_detV (As := [.int (gsx g (i + 1)), .int (gsx g (i + 2))]) e_law_632 li_Law_98 rfl hb (q_Mod_hand hst L1.md (gsx g (i + 1)) (gsx g (i + 2)) W L1.2.1 okM.1 okM.2.1) rfl (by decide) (Nat.le_of_ble_eq_true rfl) rfl ?_
  have L2 := L1.mod (f_Mod_hand (gsx g (i + 1)) (gsx g (i + 2)) W).2
  exact pw_icmp_eq (tgt := 1438) e_law_635 (by decide) (fun _ => k _ ⟨A, B, f, S', P, Y, _, _, rfl, rfl, L2, es.2⟩) (fun c => absurd es.1 c)
theorem l_power {g : GG} {Q : QT} {h : Hp} {a b o i kc ks : Nat} {Rel : RT} (hst : (gl g).stackTraces = false) (ok : EqOk Rel) (E : E_power Rel) (hi : i + 6 ≤ gsl g) (hN : gsl g ≤ 3072) (I : LwI Rel g a b o h) (k : ∀ h', LwI Rel g a b o h' → PW g M_law 12 kc ks Q 1438 [.ref (gsa g), .ref a, .ref b, .ref o, .int (nI i), .retAddr 0, .retAddr 0] [] h') : PW g M_law 12 (kc + 82) (ks + 9266) Q 640 [.ref (gsa g), .ref a, .ref b, .ref o, .int (nI i), .retAddr 0, .retAddr 0] [] h := by
  obtain ⟨A, B, f, S, P, Y, Z, W, rfl, rfl, L, r⟩ := I
  obtain ⟨okC, okM, ok32⟩ := ok r
  by_cases hz : gsx g (i + 2) = 0
  · refine PW.more (kc' := kc + 2) (ks' := ks + 226) (by omega) (by omega) ?_
    refine pw_aload_n e_law_640 rfl ?_
    refine pw_arg (k := 1) e_law_641 e_law_642 e_law_644 e_law_645 e_law_646 (by decide) rfl rfl (by omega) hN ?_
    refine pw_arg (k := 2) e_law_647 e_law_648 e_law_650 e_law_651 e_law_652 (by decide) rfl rfl (by omega) hN ?_
    refine pw_if_eq (tgt := 660) e_law_653 (by decide) (fun _ => ?_) (fun c => absurd hz c)
    refine pw_iconst (v := 0) e_law_660 (by decide) ?_
    refine pw_callV (kc' := 2) (ks' := 226) (As := [.int (gsx g (i + 1)), .int 0]) e_law_661 li_Law_99 rfl L.at7 (q_Bus_power hst L.nd okC.1 (gsx g (i + 1)) 0 Z L.1 okC.2.2.1) rfl (by decide) (Nat.le_of_ble_eq_true rfl) (fun E h' q => by obtain ⟨_, q, _⟩ := q; cases q) (fun v h1 q => ?_)
    obtain ⟨S', hv, W1, F1, hL1, hS1⟩ := q
    cases hv
    have L1 := L.cls W1 F1 (fun _ z => z) L.2.2.2.1
    have es := E (gsx g (i + 1)) 0 r hL1 hS1
    refine pw_aload_n e_law_664 rfl ?_
    refine pw_arg (k := 1) e_law_665 e_law_666 e_law_668 e_law_669 e_law_670 (by decide) rfl rfl (by omega) hN ?_
    refine pw_arg (k := 2) e_law_671 e_law_672 e_law_674 e_law_675 e_law_676 (by decide) rfl rfl (by omega) hN ?_
    refine pw_if_eq (tgt := 684) e_law_677 (by decide) (fun _ => ?_) (fun c => absurd hz c)
    refine pw_iconst (v := 0) e_law_684 (by decide) ?_
    obtain ⟨fs, hb⟩ := L1.atB
    refine pw_detV (As := [.int (gsx g (i + 1)), .int 0]) e_law_685 li_Law_103 rfl hb (q_Mod_power hst L1.md (gsx g (i + 1)) 0 W L1.2.1 okM.1 okM.2.1) rfl (by decide) (Nat.le_of_ble_eq_true rfl) rfl ?_
    have L2 := L1.mod (f_Mod_power (gsx g (i + 1)) 0 W).2
    exact pw_icmp_eq (tgt := 1438) e_law_688 (by decide) (fun _ => k _ ⟨A, B, f, S', P, Y, _, _, rfl, rfl, L2, es.2⟩) (fun c => absurd es.1 c)
  · refine PW.more (kc' := kc + 2) (ks' := ks + 226) (by omega) (by omega) ?_
    refine pw_aload_n e_law_640 rfl ?_
    refine pw_arg (k := 1) e_law_641 e_law_642 e_law_644 e_law_645 e_law_646 (by decide) rfl rfl (by omega) hN ?_
    refine pw_arg (k := 2) e_law_647 e_law_648 e_law_650 e_law_651 e_law_652 (by decide) rfl rfl (by omega) hN ?_
    refine pw_if_eq (tgt := 660) e_law_653 (by decide) (fun c => absurd c hz) (fun _ => ?_)
    refine pw_iconst (v := 1) e_law_656 (by decide) ?_
    refine pw_goto (tgt := 661) e_law_657 (by decide) ?_
    refine pw_callV (kc' := 2) (ks' := 226) (As := [.int (gsx g (i + 1)), .int 1]) e_law_661 li_Law_99 rfl L.at7 (q_Bus_power hst L.nd okC.1 (gsx g (i + 1)) 1 Z L.1 okC.2.2.1) rfl (by decide) (Nat.le_of_ble_eq_true rfl) (fun E h' q => by obtain ⟨_, q, _⟩ := q; cases q) (fun v h1 q => ?_)
    obtain ⟨S', hv, W1, F1, hL1, hS1⟩ := q
    cases hv
    have L1 := L.cls W1 F1 (fun _ z => z) L.2.2.2.1
    have es := E (gsx g (i + 1)) 1 r hL1 hS1
    refine pw_aload_n e_law_664 rfl ?_
    refine pw_arg (k := 1) e_law_665 e_law_666 e_law_668 e_law_669 e_law_670 (by decide) rfl rfl (by omega) hN ?_
    refine pw_arg (k := 2) e_law_671 e_law_672 e_law_674 e_law_675 e_law_676 (by decide) rfl rfl (by omega) hN ?_
    refine pw_if_eq (tgt := 684) e_law_677 (by decide) (fun c => absurd c hz) (fun _ => ?_)
    refine pw_iconst (v := 1) e_law_680 (by decide) ?_
    refine pw_goto (tgt := 685) e_law_681 (by decide) ?_
    obtain ⟨fs, hb⟩ := L1.atB
    refine pw_detV (As := [.int (gsx g (i + 1)), .int 1]) e_law_685 li_Law_103 rfl hb (q_Mod_power hst L1.md (gsx g (i + 1)) 1 W L1.2.1 okM.1 okM.2.1) rfl (by decide) (Nat.le_of_ble_eq_true rfl) rfl ?_
    have L2 := L1.mod (f_Mod_power (gsx g (i + 1)) 1 W).2
    exact pw_icmp_eq (tgt := 1438) e_law_688 (by decide) (fun _ => k _ ⟨A, B, f, S', P, Y, _, _, rfl, rfl, L2, es.2⟩) (fun c => absurd es.1 c)
theorem l_broken {g : GG} {Q : QT} {h : Hp} {a b o i kc ks : Nat} {Rel : RT} (hst : (gl g).stackTraces = false) (ok : EqOk Rel) (E : E_broken Rel) (hi : i + 6 ≤ gsl g) (hN : gsl g ≤ 3072) (I : LwI Rel g a b o h) (k : ∀ h', LwI Rel g a b o h' → PW g M_law 12 kc ks Q 1438 [.ref (gsa g), .ref a, .ref b, .ref o, .int (nI i), .retAddr 0, .retAddr 0] [] h') : PW g M_law 12 (kc + 82) (ks + 9266) Q 693 [.ref (gsa g), .ref a, .ref b, .ref o, .int (nI i), .retAddr 0, .retAddr 0] [] h := by
  obtain ⟨A, B, f, S, P, Y, Z, W, rfl, rfl, L, r⟩ := I
  obtain ⟨okC, okM, ok32⟩ := ok r
  by_cases hz : gsx g (i + 2) = 0
  · refine PW.more (kc' := kc + 2) (ks' := ks + 226) (by omega) (by omega) ?_
    refine pw_aload_n e_law_693 rfl ?_
    refine pw_arg (k := 1) e_law_694 e_law_695 e_law_697 e_law_698 e_law_699 (by decide) rfl rfl (by omega) hN ?_
    refine pw_arg (k := 2) e_law_700 e_law_701 e_law_703 e_law_704 e_law_705 (by decide) rfl rfl (by omega) hN ?_
    refine pw_if_eq (tgt := 713) e_law_706 (by decide) (fun _ => ?_) (fun c => absurd hz c)
    refine pw_iconst (v := 0) e_law_713 (by decide) ?_
    refine pw_callV (kc' := 2) (ks' := 226) (As := [.int (gsx g (i + 1)), .int 0]) e_law_714 li_Law_104 rfl L.at7 (q_Bus_broken hst L.nd okC.1 (gsx g (i + 1)) 0 Z L.1 okC.2.2.1) rfl (by decide) (Nat.le_of_ble_eq_true rfl) (fun E h' q => by obtain ⟨_, q, _⟩ := q; cases q) (fun v h1 q => ?_)
    obtain ⟨S', hv, W1, F1, hL1, hS1⟩ := q
    cases hv
    have L1 := L.cls W1 F1 (fun _ z => z) L.2.2.2.1
    have es := E (gsx g (i + 1)) 0 (Or.inl rfl) r hL1 hS1
    refine pw_aload_n e_law_717 rfl ?_
    refine pw_arg (k := 1) e_law_718 e_law_719 e_law_721 e_law_722 e_law_723 (by decide) rfl rfl (by omega) hN ?_
    refine pw_arg (k := 2) e_law_724 e_law_725 e_law_727 e_law_728 e_law_729 (by decide) rfl rfl (by omega) hN ?_
    refine pw_if_eq (tgt := 737) e_law_730 (by decide) (fun _ => ?_) (fun c => absurd hz c)
    refine pw_iconst (v := 0) e_law_737 (by decide) ?_
    obtain ⟨fs, hb⟩ := L1.atB
    refine pw_detV (As := [.int (gsx g (i + 1)), .int 0]) e_law_738 li_Law_107 rfl hb (q_Mod_broken hst L1.md (gsx g (i + 1)) 0 W L1.2.1 okM.1 okM.2.1) rfl (by decide) (Nat.le_of_ble_eq_true rfl) rfl ?_
    have L2 := L1.mod (f_Mod_broken (gsx g (i + 1)) 0 W).2
    exact pw_icmp_eq (tgt := 1438) e_law_741 (by decide) (fun _ => k _ ⟨A, B, f, S', P, Y, _, _, rfl, rfl, L2, es.2⟩) (fun c => absurd es.1 c)
  · refine PW.more (kc' := kc + 2) (ks' := ks + 226) (by omega) (by omega) ?_
    refine pw_aload_n e_law_693 rfl ?_
    refine pw_arg (k := 1) e_law_694 e_law_695 e_law_697 e_law_698 e_law_699 (by decide) rfl rfl (by omega) hN ?_
    refine pw_arg (k := 2) e_law_700 e_law_701 e_law_703 e_law_704 e_law_705 (by decide) rfl rfl (by omega) hN ?_
    refine pw_if_eq (tgt := 713) e_law_706 (by decide) (fun c => absurd c hz) (fun _ => ?_)
    refine pw_iconst (v := 1) e_law_709 (by decide) ?_
    refine pw_goto (tgt := 714) e_law_710 (by decide) ?_
    refine pw_callV (kc' := 2) (ks' := 226) (As := [.int (gsx g (i + 1)), .int 1]) e_law_714 li_Law_104 rfl L.at7 (q_Bus_broken hst L.nd okC.1 (gsx g (i + 1)) 1 Z L.1 okC.2.2.1) rfl (by decide) (Nat.le_of_ble_eq_true rfl) (fun E h' q => by obtain ⟨_, q, _⟩ := q; cases q) (fun v h1 q => ?_)
    obtain ⟨S', hv, W1, F1, hL1, hS1⟩ := q
    cases hv
    have L1 := L.cls W1 F1 (fun _ z => z) L.2.2.2.1
    have es := E (gsx g (i + 1)) 1 (Or.inr rfl) r hL1 hS1
    refine pw_aload_n e_law_717 rfl ?_
    refine pw_arg (k := 1) e_law_718 e_law_719 e_law_721 e_law_722 e_law_723 (by decide) rfl rfl (by omega) hN ?_
    refine pw_arg (k := 2) e_law_724 e_law_725 e_law_727 e_law_728 e_law_729 (by decide) rfl rfl (by omega) hN ?_
    refine pw_if_eq (tgt := 737) e_law_730 (by decide) (fun c => absurd c hz) (fun _ => ?_)
    refine pw_iconst (v := 1) e_law_733 (by decide) ?_
    refine pw_goto (tgt := 738) e_law_734 (by decide) ?_
    obtain ⟨fs, hb⟩ := L1.atB
    refine pw_detV (As := [.int (gsx g (i + 1)), .int 1]) e_law_738 li_Law_107 rfl hb (q_Mod_broken hst L1.md (gsx g (i + 1)) 1 W L1.2.1 okM.1 okM.2.1) rfl (by decide) (Nat.le_of_ble_eq_true rfl) rfl ?_
    have L2 := L1.mod (f_Mod_broken (gsx g (i + 1)) 1 W).2
    exact pw_icmp_eq (tgt := 1438) e_law_741 (by decide) (fun _ => k _ ⟨A, B, f, S', P, Y, _, _, rfl, rfl, L2, es.2⟩) (fun c => absurd es.1 c)
theorem l_cycles {g : GG} {Q : QT} {h : Hp} {a b o i kc ks : Nat} {Rel : RT} (hst : (gl g).stackTraces = false) (ok : EqOk Rel) (E : E_cycles Rel) (hi : i + 6 ≤ gsl g) (hN : gsl g ≤ 3072) (I : LwI Rel g a b o h) (k : ∀ h', LwI Rel g a b o h' → PW g M_law 12 kc ks Q 1438 [.ref (gsa g), .ref a, .ref b, .ref o, .int (nI i), .retAddr 0, .retAddr 0] [] h') : PW g M_law 12 (kc + 82) (ks + 9266) Q 746 [.ref (gsa g), .ref a, .ref b, .ref o, .int (nI i), .retAddr 0, .retAddr 0] [] h := by
  obtain ⟨A, B, f, S, P, Y, Z, W, rfl, rfl, L, r⟩ := I
  obtain ⟨okC, okM, ok32⟩ := ok r
  refine PW.more (kc' := kc + 2) (ks' := ks + 226) (by omega) (by omega) ?_
  refine pw_aload_n e_law_746 rfl ?_
  refine pw_arg (k := 1) e_law_747 e_law_748 e_law_750 e_law_751 e_law_752 (by decide) rfl rfl (by omega) hN ?_
  refine pw_callV (kc' := 2) (ks' := 226) (As := [.int (gsx g (i + 1))]) e_law_753 li_Law_108 rfl L.at7 (q_Bus_cycles hst L.nd okC.1 (gsx g (i + 1)) Z L.1 okC.2.2.1) rfl (by decide) (Nat.le_of_ble_eq_true rfl) (fun E h' q => by obtain ⟨_, q, _⟩ := q; cases q) (fun v h1 q => ?_)
  obtain ⟨S', hv, W1, F1, hL1, hS1⟩ := q
  cases hv
  have L1 := L.cls W1 F1 (fun _ z => z) L.2.2.2.1
  have es := E (gsx g (i + 1)) r hL1 hS1
  refine pw_aload_n e_law_756 rfl ?_
  refine pw_arg (k := 1) e_law_757 e_law_758 e_law_760 e_law_761 e_law_762 (by decide) rfl rfl (by omega) hN ?_
  obtain ⟨fs, hb⟩ := L1.atB
  refine pw_detV (As := [.int (gsx g (i + 1))]) e_law_763 li_Law_111 rfl hb (q_Mod_cycles hst L1.md (gsx g (i + 1)) W L1.2.1 okM.1 okM.2.1) rfl (by decide) (Nat.le_of_ble_eq_true rfl) rfl ?_
  have L2 := L1.mod (f_Mod_cycles (gsx g (i + 1)) W).2
  exact pw_icmp_eq (tgt := 1438) e_law_766 (by decide) (fun _ => k _ ⟨A, B, f, S', P, Y, _, _, rfl, rfl, L2, es.2⟩) (fun c => absurd es.1 c)
theorem l_undo {g : GG} {Q : QT} {h : Hp} {a b o i kc ks : Nat} {Rel : RT} (hst : (gl g).stackTraces = false) (ok : EqOk Rel) (E : E_undo Rel) (hi : i + 6 ≤ gsl g) (hN : gsl g ≤ 3072) (I : LwI Rel g a b o h) (k : ∀ h', LwI Rel g a b o h' → PW g M_law 12 kc ks Q 1438 [.ref (gsa g), .ref a, .ref b, .ref o, .int (nI i), .retAddr 0, .retAddr 0] [] h') : PW g M_law 12 (kc + 82) (ks + 9266) Q 771 [.ref (gsa g), .ref a, .ref b, .ref o, .int (nI i), .retAddr 0, .retAddr 0] [] h := by
  obtain ⟨A, B, f, S, P, Y, Z, W, rfl, rfl, L, r⟩ := I
  obtain ⟨okC, okM, ok32⟩ := ok r
  refine PW.more (kc' := kc + 0) (ks' := ks + 0) (by omega) (by omega) ?_
  refine pw_aload_n e_law_771 rfl ?_
  refine PW.more (kc' := kc) (ks' := ks) (Nat.le_refl _) (Nat.le_refl _) ?_
  refine pw_detV (As := []) e_law_772 li_Law_112 rfl L.at7 (q_Bus_undo hst L.nd L.1 okC.2.2.1 (fun q => by have z := okC.2.2.2.2.2.1 (pN Z 303 0 - 1) (by omega); rw [show pN Z 303 1 + (pN Z 303 0 - 1) = pN Z 303 1 + pN Z 303 0 - 1 by omega] at z; exact z)) rfl (by decide) (Nat.le_of_ble_eq_true rfl) rfl ?_
  have L1 := L.put (f_Bus_undo Z).2
  have es := E  r
  refine pw_aload_n e_law_775 rfl ?_
  obtain ⟨fs, hb⟩ := L1.atB
  refine pw_detV (As := []) e_law_776 li_Law_115 rfl hb (q_Mod_undo hst L1.md W L1.2.1 okM.1 okM.2.1) rfl (by decide) (Nat.le_of_ble_eq_true rfl) rfl ?_
  have L2 := L1.mod (f_Mod_undo W).2
  exact pw_icmp_eq (tgt := 1438) e_law_779 (by decide) (fun _ => k _ ⟨A, B, f, S, P, Y, _, _, rfl, rfl, L2, es.2⟩) (fun c => absurd es.1 c)
theorem l_then {g : GG} {Q : QT} {h : Hp} {a b o i kc ks : Nat} {Rel : RT} (hst : (gl g).stackTraces = false) (ok : EqOk Rel) (E : E_then Rel) (hi : i + 6 ≤ gsl g) (hN : gsl g ≤ 3072) (I : LwI Rel g a b o h) (k : ∀ h', LwI Rel g a b o h' → PW g M_law 12 kc ks Q 1438 [.ref (gsa g), .ref a, .ref b, .ref o, .int (nI i), .retAddr 0, .retAddr 0] [] h') : PW g M_law 12 (kc + 82) (ks + 9266) Q 784 [.ref (gsa g), .ref a, .ref b, .ref o, .int (nI i), .retAddr 0, .retAddr 0] [] h := by
  obtain ⟨A, B, f, S, P, Y, Z, W, rfl, rfl, L, r⟩ := I
  obtain ⟨okC, okM, ok32⟩ := ok r
  refine PW.more (kc' := kc + 2) (ks' := ks + 12) (by omega) (by omega) ?_
  refine pw_aload_n e_law_784 rfl ?_
  refine pw_arg (k := 1) e_law_785 e_law_786 e_law_788 e_law_789 e_law_790 (by decide) rfl rfl (by omega) hN ?_
  refine pw_arg (k := 2) e_law_791 e_law_792 e_law_794 e_law_795 e_law_796 (by decide) rfl rfl (by omega) hN ?_
  refine pw_arg (k := 3) e_law_797 e_law_798 e_law_800 e_law_801 e_law_802 (by decide) rfl rfl (by omega) hN ?_
  refine pw_aload_n e_law_803 rfl ?_
  have es := E (gsx g (i + 1)) (gsx g (i + 2)) (gsx g (i + 3)) r
  have L1 := L.put (f_Bus_then P (gsx g (i + 1)) (gsx g (i + 2)) (gsx g (i + 3)) Z).2
  have hE : ∀ E h', RetX ((f_Bus_then P (gsx g (i + 1)) (gsx g (i + 2)) (gsx g (i + 3)) Z).1) (ov h (gO (bsL g A S P Y) (f_Bus_then P (gsx g (i + 1)) (gsx g (i + 2)) (gsx g (i + 3)) Z).2)) (.inr E) h' → E = "java/lang/IllegalArgumentException" ∨ E = "java/util/NoSuchElementException" := fun E h' q => by
    exact (rx_e es.1 q).imp And.left And.left
  refine pw_callSH (kc' := 2) (ks' := 12) (As := [.ref (A 507), .int (gsx g (i + 1)), .int (gsx g (i + 2)), .int (gsx g (i + 3)), .ref o]) e_law_804 ls_Law_116 (q_Law_then hst (gsx g (i + 1)) (gsx g (i + 2)) (gsx g (i + 3)) L.at7 (q_Bus_then hst L.nd okC.1 (gsx g (i + 1)) (gsx g (i + 2)) (gsx g (i + 3)) Z L.1.1) (fun r h' q => by rw [q.2]; exact L1.2.2.1) (fun v h' q => rx_v q) hE) rfl (by decide) (Nat.le_of_ble_eq_true rfl) (fun E h' q => (wr_no q).elim) (fun v h1 q => ?_)
  obtain ⟨kk, f', rfl, hh, ht, hf'⟩ := wr_X es.1 q
  have L2 := L1.wr hh
  have rl := es.2
  refine pw_istore (ls2 := [.ref (gsa g), .ref (A 507), .ref (B 100), .ref o, .int (nI i), .int kk, .retAddr 0]) e_law_807 (by decide) rfl ?_
  refine pw_aload_n e_law_809 rfl ?_
  refine pw_arg (k := 1) e_law_810 e_law_811 e_law_813 e_law_814 e_law_815 (by decide) rfl rfl (by omega) hN ?_
  refine pw_arg (k := 2) e_law_816 e_law_817 e_law_819 e_law_820 e_law_821 (by decide) rfl rfl (by omega) hN ?_
  refine pw_arg (k := 3) e_law_822 e_law_823 e_law_825 e_law_826 e_law_827 (by decide) rfl rfl (by omega) hN ?_
  obtain ⟨fs, hb⟩ := L2.atB
  refine pw_detV (As := [.int (gsx g (i + 1)), .int (gsx g (i + 2)), .int (gsx g (i + 3))]) e_law_828 li_Law_119 rfl hb (q_Mod_then hst L2.md (gsx g (i + 1)) (gsx g (i + 2)) (gsx g (i + 3)) W L2.2.1 okM.1) rfl (by decide) (Nat.le_of_ble_eq_true rfl) rfl ?_
  have L3 := L2.mod (f_Mod_then (gsx g (i + 1)) (gsx g (i + 2)) (gsx g (i + 3)) W).2
  refine pw_istore (ls2 := [.ref (gsa g), .ref (A 507), .ref (B 100), .ref o, .int (nI i), .int kk, .int (f_Mod_then (gsx g (i + 1)) (gsx g (i + 2)) (gsx g (i + 3)) W).1]) e_law_831 (by decide) rfl ?_
  refine pw_aload_n e_law_833 rfl ?_
  obtain ⟨fs3, hb3⟩ := L3.atB
  refine pw_detV (As := []) e_law_834 li_Law_70 rfl hb3 (q_Mod_thrown hst L3.md (f_Mod_then (gsx g (i + 1)) (gsx g (i + 2)) (gsx g (i + 3)) W).2 L3.2.1) rfl (by decide) (Nat.le_of_ble_eq_true rfl) rfl ?_
  refine pw_iload e_law_837 rfl ?_
  refine pw_icmp_eq (tgt := 844) e_law_839 (by decide) (fun _ => ?_) (fun c => absurd ht c)
  have fin : PW g M_law 12 kc ks Q 861 [.ref (gsa g), .ref (A 507), .ref (B 100), .ref o, .int (nI i), .int kk, .int (f_Mod_then (gsx g (i + 1)) (gsx g (i + 2)) (gsx g (i + 3)) W).1] [] _ := pw_goto (tgt := 1438) e_law_861 (by decide) (pw_fgt (ls' := [.ref (gsa g), .ref (A 507), .ref (B 100), .ref o, .int (nI i), .retAddr 0, .retAddr 0]) ⟨Or.inr rfl, Or.inr rfl, Or.inr rfl, Or.inr rfl, Or.inr rfl, Or.inl rfl, Or.inl rfl, trivial⟩ (k _ ⟨A, B, f', S, P, Y, _, _, rfl, rfl, L3, rl⟩))
  refine pw_iload e_law_844 rfl ?_
  refine pw_if_ne (tgt := 861) e_law_846 (by decide) (fun _ => fin) (fun hk0 => ?_)
  refine pw_aload_n e_law_849 rfl ?_
  refine pw_iconst (v := nI 0) e_law_850 (by decide) ?_
  refine pw_lald e_law_851 L3.2.2.1 (vp_in_nI (by decide) (by decide)) ?_
  refine pw_iload e_law_852 rfl ?_
  refine pw_i2l e_law_854 ?_
  refine pw_lcmp e_law_855 ?_
  exact pw_if_eq (tgt := 861) e_law_856 (by decide) (fun _ => fin) (fun c => absurd ((lg_cmp_eq _ _).mpr (hf' hk0)) c)
theorem l_first {g : GG} {Q : QT} {h : Hp} {a b o i kc ks : Nat} {Rel : RT} (hst : (gl g).stackTraces = false) (ok : EqOk Rel) (E : E_first Rel) (hi : i + 6 ≤ gsl g) (hN : gsl g ≤ 3072) (I : LwI Rel g a b o h) (k : ∀ h', LwI Rel g a b o h' → PW g M_law 12 kc ks Q 1438 [.ref (gsa g), .ref a, .ref b, .ref o, .int (nI i), .retAddr 0, .retAddr 0] [] h') : PW g M_law 12 (kc + 82) (ks + 9266) Q 864 [.ref (gsa g), .ref a, .ref b, .ref o, .int (nI i), .retAddr 0, .retAddr 0] [] h := by
  obtain ⟨A, B, f, S, P, Y, Z, W, rfl, rfl, L, r⟩ := I
  obtain ⟨okC, okM, ok32⟩ := ok r
  refine PW.more (kc' := kc + 1) (ks' := ks + 6) (by omega) (by omega) ?_
  refine pw_aload_n e_law_864 rfl ?_
  refine pw_arg (k := 1) e_law_865 e_law_866 e_law_868 e_law_869 e_law_870 (by decide) rfl rfl (by omega) hN ?_
  refine pw_aload_n e_law_871 rfl ?_
  have es := E (gsx g (i + 1)) r
  have L1 := L.put (f_Bus_first P (gsx g (i + 1)) Z).2
  have hE : ∀ E h', RetX ((f_Bus_first P (gsx g (i + 1)) Z).1) (ov h (gO (bsL g A S P Y) (f_Bus_first P (gsx g (i + 1)) Z).2)) (.inr E) h' → E = "java/util/NoSuchElementException" := fun E h' q => by
    rcases rx_e es.1 q with z | z
    · exact absurd rfl z.2
    · exact z.1
  refine pw_callSH (kc' := 1) (ks' := 6) (As := [.ref (A 507), .int (gsx g (i + 1)), .ref o]) e_law_872 ls_Law_120 (q_Law_first hst (gsx g (i + 1)) L.at7 (q_Bus_first hst L.nd okC.1 (gsx g (i + 1)) Z L.1.1) (fun r h' q => by rw [q.2]; exact L1.2.2.1) (fun v h' q => rx_v q) hE) rfl (by decide) (Nat.le_of_ble_eq_true rfl) (fun E h' q => (wr_no q).elim) (fun v h1 q => ?_)
  obtain ⟨kk, f', rfl, hh, ht, hf'⟩ := wr_X es.1 q
  have L2 := L1.wr hh
  have rl := es.2
  refine pw_istore (ls2 := [.ref (gsa g), .ref (A 507), .ref (B 100), .ref o, .int (nI i), .int kk, .retAddr 0]) e_law_875 (by decide) rfl ?_
  refine pw_aload_n e_law_877 rfl ?_
  refine pw_arg (k := 1) e_law_878 e_law_879 e_law_881 e_law_882 e_law_883 (by decide) rfl rfl (by omega) hN ?_
  obtain ⟨fs, hb⟩ := L2.atB
  refine pw_detV (As := [.int (gsx g (i + 1))]) e_law_884 li_Law_122 rfl hb (q_Mod_first hst L2.md (gsx g (i + 1)) W L2.2.1 okM.1) rfl (by decide) (Nat.le_of_ble_eq_true rfl) rfl ?_
  have L3 := L2.mod (f_Mod_first (gsx g (i + 1)) W).2
  refine pw_istore (ls2 := [.ref (gsa g), .ref (A 507), .ref (B 100), .ref o, .int (nI i), .int kk, .int (f_Mod_first (gsx g (i + 1)) W).1]) e_law_887 (by decide) rfl ?_
  refine pw_aload_n e_law_889 rfl ?_
  obtain ⟨fs3, hb3⟩ := L3.atB
  refine pw_detV (As := []) e_law_890 li_Law_70 rfl hb3 (q_Mod_thrown hst L3.md (f_Mod_first (gsx g (i + 1)) W).2 L3.2.1) rfl (by decide) (Nat.le_of_ble_eq_true rfl) rfl ?_
  refine pw_iload e_law_893 rfl ?_
  refine pw_icmp_eq (tgt := 900) e_law_895 (by decide) (fun _ => ?_) (fun c => absurd ht c)
  have fin : PW g M_law 12 kc ks Q 917 [.ref (gsa g), .ref (A 507), .ref (B 100), .ref o, .int (nI i), .int kk, .int (f_Mod_first (gsx g (i + 1)) W).1] [] _ := pw_goto (tgt := 1438) e_law_917 (by decide) (pw_fgt (ls' := [.ref (gsa g), .ref (A 507), .ref (B 100), .ref o, .int (nI i), .retAddr 0, .retAddr 0]) ⟨Or.inr rfl, Or.inr rfl, Or.inr rfl, Or.inr rfl, Or.inr rfl, Or.inl rfl, Or.inl rfl, trivial⟩ (k _ ⟨A, B, f', S, P, Y, _, _, rfl, rfl, L3, rl⟩))
  refine pw_iload e_law_900 rfl ?_
  refine pw_if_ne (tgt := 917) e_law_902 (by decide) (fun _ => fin) (fun hk0 => ?_)
  refine pw_aload_n e_law_905 rfl ?_
  refine pw_iconst (v := nI 0) e_law_906 (by decide) ?_
  refine pw_lald e_law_907 L3.2.2.1 (vp_in_nI (by decide) (by decide)) ?_
  refine pw_iload e_law_908 rfl ?_
  refine pw_i2l e_law_910 ?_
  refine pw_lcmp e_law_911 ?_
  exact pw_if_eq (tgt := 917) e_law_912 (by decide) (fun _ => fin) (fun c => absurd ((lg_cmp_eq _ _).mpr (hf' hk0)) c)
theorem l_jump {g : GG} {Q : QT} {h : Hp} {a b o i kc ks : Nat} {Rel : RT} (hst : (gl g).stackTraces = false) (ok : EqOk Rel) (E : E_jump Rel) (hi : i + 6 ≤ gsl g) (hN : gsl g ≤ 3072) (I : LwI Rel g a b o h) (k : ∀ h', LwI Rel g a b o h' → PW g M_law 12 kc ks Q 1438 [.ref (gsa g), .ref a, .ref b, .ref o, .int (nI i), .retAddr 0, .retAddr 0] [] h') : PW g M_law 12 (kc + 82) (ks + 9266) Q 920 [.ref (gsa g), .ref a, .ref b, .ref o, .int (nI i), .retAddr 0, .retAddr 0] [] h := by
  obtain ⟨A, B, f, S, P, Y, Z, W, rfl, rfl, L, r⟩ := I
  obtain ⟨okC, okM, ok32⟩ := ok r
  refine PW.more (kc' := kc + 2) (ks' := ks + 12) (by omega) (by omega) ?_
  refine pw_aload_n e_law_920 rfl ?_
  refine pw_arg (k := 1) e_law_921 e_law_922 e_law_924 e_law_925 e_law_926 (by decide) rfl rfl (by omega) hN ?_
  refine pw_arg (k := 2) e_law_927 e_law_928 e_law_930 e_law_931 e_law_932 (by decide) rfl rfl (by omega) hN ?_
  refine pw_aload_n e_law_933 rfl ?_
  have es := E (gsx g (i + 1)) (gsx g (i + 2)) r
  have L1 := L.put (f_Bus_jump P (gsx g (i + 1)) (gsx g (i + 2)) Z).2
  have hE : ∀ E h', RetX ((f_Bus_jump P (gsx g (i + 1)) (gsx g (i + 2)) Z).1) (ov h (gO (bsL g A S P Y) (f_Bus_jump P (gsx g (i + 1)) (gsx g (i + 2)) Z).2)) (.inr E) h' → E = "java/lang/IllegalArgumentException" ∨ E = "java/util/NoSuchElementException" := fun E h' q => by
    exact (rx_e es.1 q).imp And.left And.left
  refine pw_callSH (kc' := 2) (ks' := 12) (As := [.ref (A 507), .int (gsx g (i + 1)), .int (gsx g (i + 2)), .ref o]) e_law_934 ls_Law_123 (q_Law_jump hst (gsx g (i + 1)) (gsx g (i + 2)) L.at7 (q_Bus_jump hst L.nd okC.1 (gsx g (i + 1)) (gsx g (i + 2)) Z L.1.1) (fun r h' q => by rw [q.2]; exact L1.2.2.1) (fun v h' q => rx_v q) hE) rfl (by decide) (Nat.le_of_ble_eq_true rfl) (fun E h' q => (wr_no q).elim) (fun v h1 q => ?_)
  obtain ⟨kk, f', rfl, hh, ht, hf'⟩ := wr_X es.1 q
  have L2 := L1.wr hh
  have rl := es.2
  refine pw_istore (ls2 := [.ref (gsa g), .ref (A 507), .ref (B 100), .ref o, .int (nI i), .int kk, .retAddr 0]) e_law_937 (by decide) rfl ?_
  refine pw_aload_n e_law_939 rfl ?_
  refine pw_arg (k := 1) e_law_940 e_law_941 e_law_943 e_law_944 e_law_945 (by decide) rfl rfl (by omega) hN ?_
  refine pw_arg (k := 2) e_law_946 e_law_947 e_law_949 e_law_950 e_law_951 (by decide) rfl rfl (by omega) hN ?_
  obtain ⟨fs, hb⟩ := L2.atB
  refine pw_detV (As := [.int (gsx g (i + 1)), .int (gsx g (i + 2))]) e_law_952 li_Law_125 rfl hb (q_Mod_jump hst L2.md (gsx g (i + 1)) (gsx g (i + 2)) W L2.2.1 okM.1) rfl (by decide) (Nat.le_of_ble_eq_true rfl) rfl ?_
  have L3 := L2.mod (f_Mod_jump (gsx g (i + 1)) (gsx g (i + 2)) W).2
  refine pw_istore (ls2 := [.ref (gsa g), .ref (A 507), .ref (B 100), .ref o, .int (nI i), .int kk, .int (f_Mod_jump (gsx g (i + 1)) (gsx g (i + 2)) W).1]) e_law_955 (by decide) rfl ?_
  refine pw_aload_n e_law_957 rfl ?_
  obtain ⟨fs3, hb3⟩ := L3.atB
  refine pw_detV (As := []) e_law_958 li_Law_70 rfl hb3 (q_Mod_thrown hst L3.md (f_Mod_jump (gsx g (i + 1)) (gsx g (i + 2)) W).2 L3.2.1) rfl (by decide) (Nat.le_of_ble_eq_true rfl) rfl ?_
  refine pw_iload e_law_961 rfl ?_
  refine pw_icmp_eq (tgt := 968) e_law_963 (by decide) (fun _ => ?_) (fun c => absurd ht c)
  have fin : PW g M_law 12 kc ks Q 985 [.ref (gsa g), .ref (A 507), .ref (B 100), .ref o, .int (nI i), .int kk, .int (f_Mod_jump (gsx g (i + 1)) (gsx g (i + 2)) W).1] [] _ := pw_goto (tgt := 1438) e_law_985 (by decide) (pw_fgt (ls' := [.ref (gsa g), .ref (A 507), .ref (B 100), .ref o, .int (nI i), .retAddr 0, .retAddr 0]) ⟨Or.inr rfl, Or.inr rfl, Or.inr rfl, Or.inr rfl, Or.inr rfl, Or.inl rfl, Or.inl rfl, trivial⟩ (k _ ⟨A, B, f', S, P, Y, _, _, rfl, rfl, L3, rl⟩))
  refine pw_iload e_law_968 rfl ?_
  refine pw_if_ne (tgt := 985) e_law_970 (by decide) (fun _ => fin) (fun hk0 => ?_)
  refine pw_aload_n e_law_973 rfl ?_
  refine pw_iconst (v := nI 0) e_law_974 (by decide) ?_
  refine pw_lald e_law_975 L3.2.2.1 (vp_in_nI (by decide) (by decide)) ?_
  refine pw_iload e_law_976 rfl ?_
  refine pw_i2l e_law_978 ?_
  refine pw_lcmp e_law_979 ?_
  exact pw_if_eq (tgt := 985) e_law_980 (by decide) (fun _ => fin) (fun c => absurd ((lg_cmp_eq _ _).mpr (hf' hk0)) c)
theorem l_lost {g : GG} {Q : QT} {h : Hp} {a b o i kc ks : Nat} {Rel : RT} (hst : (gl g).stackTraces = false) (ok : EqOk Rel) (E : E_lost Rel) (hi : i + 6 ≤ gsl g) (hN : gsl g ≤ 3072) (I : LwI Rel g a b o h) (k : ∀ h', LwI Rel g a b o h' → PW g M_law 12 kc ks Q 1438 [.ref (gsa g), .ref a, .ref b, .ref o, .int (nI i), .retAddr 0, .retAddr 0] [] h') : PW g M_law 12 (kc + 82) (ks + 9266) Q 988 [.ref (gsa g), .ref a, .ref b, .ref o, .int (nI i), .retAddr 0, .retAddr 0] [] h := by
  obtain ⟨A, B, f, S, P, Y, Z, W, rfl, rfl, L, r⟩ := I
  obtain ⟨okC, okM, ok32⟩ := ok r
  refine PW.more (kc' := kc + 1) (ks' := ks + 6) (by omega) (by omega) ?_
  refine pw_aload_n e_law_988 rfl ?_
  refine pw_arg (k := 1) e_law_989 e_law_990 e_law_992 e_law_993 e_law_994 (by decide) rfl rfl (by omega) hN ?_
  refine pw_arg (k := 2) e_law_995 e_law_996 e_law_998 e_law_999 e_law_1000 (by decide) rfl rfl (by omega) hN ?_
  refine pw_aload_n e_law_1001 rfl ?_
  have es := E (gsx g (i + 1)) (gsx g (i + 2)) r
  have L1 := L.put (f_Bus_lost P (gsx g (i + 1)) (gsx g (i + 2)) Z).2
  have hE : ∀ E h', RetX ((f_Bus_lost P (gsx g (i + 1)) (gsx g (i + 2)) Z).1) (ov h (gO (bsL g A S P Y) (f_Bus_lost P (gsx g (i + 1)) (gsx g (i + 2)) Z).2)) (.inr E) h' → E = "java/lang/IllegalArgumentException" ∨ E = "java/util/NoSuchElementException" := fun E h' q => by
    exact (rx_e es.1 q).imp And.left And.left
  refine pw_callSH (kc' := 1) (ks' := 6) (As := [.ref (A 507), .int (gsx g (i + 1)), .int (gsx g (i + 2)), .ref o]) e_law_1002 ls_Law_126 (q_Law_lost hst (gsx g (i + 1)) (gsx g (i + 2)) L.at7 (q_Bus_lost hst L.nd okC.1 (gsx g (i + 1)) (gsx g (i + 2)) Z L.1.1) (fun r h' q => by rw [q.2]; exact L1.2.2.1) (fun v h' q => rx_v q) hE) rfl (by decide) (Nat.le_of_ble_eq_true rfl) (fun E h' q => (wr_no q).elim) (fun v h1 q => ?_)
  obtain ⟨kk, f', rfl, hh, ht, hf'⟩ := wr_X es.1 q
  have L2 := L1.wr hh
  have rl := es.2
  refine pw_istore (ls2 := [.ref (gsa g), .ref (A 507), .ref (B 100), .ref o, .int (nI i), .int kk, .retAddr 0]) e_law_1005 (by decide) rfl ?_
  refine pw_aload_n e_law_1007 rfl ?_
  refine pw_arg (k := 1) e_law_1008 e_law_1009 e_law_1011 e_law_1012 e_law_1013 (by decide) rfl rfl (by omega) hN ?_
  refine pw_arg (k := 2) e_law_1014 e_law_1015 e_law_1017 e_law_1018 e_law_1019 (by decide) rfl rfl (by omega) hN ?_
  obtain ⟨fs, hb⟩ := L2.atB
  refine pw_detV (As := [.int (gsx g (i + 1)), .int (gsx g (i + 2))]) e_law_1020 li_Law_128 rfl hb (q_Mod_lost hst L2.md (gsx g (i + 1)) (gsx g (i + 2)) W L2.2.1 okM.1) rfl (by decide) (Nat.le_of_ble_eq_true rfl) rfl ?_
  have L3 := L2.mod (f_Mod_lost (gsx g (i + 1)) (gsx g (i + 2)) W).2
  refine pw_istore (ls2 := [.ref (gsa g), .ref (A 507), .ref (B 100), .ref o, .int (nI i), .int kk, .int (f_Mod_lost (gsx g (i + 1)) (gsx g (i + 2)) W).1]) e_law_1023 (by decide) rfl ?_
  refine pw_aload_n e_law_1025 rfl ?_
  obtain ⟨fs3, hb3⟩ := L3.atB
  refine pw_detV (As := []) e_law_1026 li_Law_70 rfl hb3 (q_Mod_thrown hst L3.md (f_Mod_lost (gsx g (i + 1)) (gsx g (i + 2)) W).2 L3.2.1) rfl (by decide) (Nat.le_of_ble_eq_true rfl) rfl ?_
  refine pw_iload e_law_1029 rfl ?_
  refine pw_icmp_eq (tgt := 1036) e_law_1031 (by decide) (fun _ => ?_) (fun c => absurd ht c)
  have fin : PW g M_law 12 kc ks Q 1053 [.ref (gsa g), .ref (A 507), .ref (B 100), .ref o, .int (nI i), .int kk, .int (f_Mod_lost (gsx g (i + 1)) (gsx g (i + 2)) W).1] [] _ := pw_goto (tgt := 1438) e_law_1053 (by decide) (pw_fgt (ls' := [.ref (gsa g), .ref (A 507), .ref (B 100), .ref o, .int (nI i), .retAddr 0, .retAddr 0]) ⟨Or.inr rfl, Or.inr rfl, Or.inr rfl, Or.inr rfl, Or.inr rfl, Or.inl rfl, Or.inl rfl, trivial⟩ (k _ ⟨A, B, f', S, P, Y, _, _, rfl, rfl, L3, rl⟩))
  refine pw_iload e_law_1036 rfl ?_
  refine pw_if_ne (tgt := 1053) e_law_1038 (by decide) (fun _ => fin) (fun hk0 => ?_)
  refine pw_aload_n e_law_1041 rfl ?_
  refine pw_iconst (v := nI 0) e_law_1042 (by decide) ?_
  refine pw_lald e_law_1043 L3.2.2.1 (vp_in_nI (by decide) (by decide)) ?_
  refine pw_iload e_law_1044 rfl ?_
  refine pw_i2l e_law_1046 ?_
  refine pw_lcmp e_law_1047 ?_
  exact pw_if_eq (tgt := 1053) e_law_1048 (by decide) (fun _ => fin) (fun c => absurd ((lg_cmp_eq _ _).mpr (hf' hk0)) c)
theorem l_toRide {g : GG} {Q : QT} {h : Hp} {a b o i kc ks : Nat} {Rel : RT} (hst : (gl g).stackTraces = false) (ok : EqOk Rel) (E : E_toRide Rel) (hi : i + 6 ≤ gsl g) (hN : gsl g ≤ 3072) (I : LwI Rel g a b o h) (k : ∀ h', LwI Rel g a b o h' → PW g M_law 12 kc ks Q 1438 [.ref (gsa g), .ref a, .ref b, .ref o, .int (nI i), .retAddr 0, .retAddr 0] [] h') : PW g M_law 12 (kc + 82) (ks + 9266) Q 1056 [.ref (gsa g), .ref a, .ref b, .ref o, .int (nI i), .retAddr 0, .retAddr 0] [] h := by
  obtain ⟨A, B, f, S, P, Y, Z, W, rfl, rfl, L, r⟩ := I
  obtain ⟨okC, okM, ok32⟩ := ok r
  refine PW.more (kc' := kc + 0) (ks' := ks + 0) (by omega) (by omega) ?_
  refine pw_aload_n e_law_1056 rfl ?_
  refine PW.more (kc' := kc) (ks' := ks) (Nat.le_refl _) (Nat.le_refl _) ?_
  refine pw_detV (As := []) e_law_1057 li_Law_129 rfl L.at7 (q_Bus_toRide hst L.nd okC.1 Z L.1.1) rfl (by decide) (Nat.le_of_ble_eq_true rfl) rfl ?_
  have L1 := L.put (f_Bus_toRide P Z).2
  have es := E  r
  refine pw_aload_n e_law_1060 rfl ?_
  obtain ⟨fs, hb⟩ := L1.atB
  refine pw_detV (As := []) e_law_1061 li_Law_132 rfl hb (q_Mod_toRide hst L1.md W L1.2.1 okM.1 okM.2.2.2.2.2.2.1) rfl (by decide) (Nat.le_of_ble_eq_true rfl) rfl ?_
  have L2 := L1.mod (f_Mod_toRide W).2
  exact pw_icmp_eq (tgt := 1438) e_law_1064 (by decide) (fun _ => k _ ⟨A, B, f, S, P, Y, _, _, rfl, rfl, L2, es.2⟩) (fun c => absurd es.1 c)
theorem l_toTune {g : GG} {Q : QT} {h : Hp} {a b o i kc ks : Nat} {Rel : RT} (hst : (gl g).stackTraces = false) (ok : EqOk Rel) (E : E_toTune Rel) (hi : i + 6 ≤ gsl g) (hN : gsl g ≤ 3072) (I : LwI Rel g a b o h) (k : ∀ h', LwI Rel g a b o h' → PW g M_law 12 kc ks Q 1438 [.ref (gsa g), .ref a, .ref b, .ref o, .int (nI i), .retAddr 0, .retAddr 0] [] h') : PW g M_law 12 (kc + 82) (ks + 9266) Q 1069 [.ref (gsa g), .ref a, .ref b, .ref o, .int (nI i), .retAddr 0, .retAddr 0] [] h := by
  obtain ⟨A, B, f, S, P, Y, Z, W, rfl, rfl, L, r⟩ := I
  obtain ⟨okC, okM, ok32⟩ := ok r
  refine PW.more (kc' := kc + 3) (ks' := ks + 18) (by omega) (by omega) ?_
  refine pw_aload_n e_law_1069 rfl ?_
  refine pw_arg (k := 1) e_law_1070 e_law_1071 e_law_1073 e_law_1074 e_law_1075 (by decide) rfl rfl (by omega) hN ?_
  refine pw_arg (k := 2) e_law_1076 e_law_1077 e_law_1079 e_law_1080 e_law_1081 (by decide) rfl rfl (by omega) hN ?_
  refine pw_arg (k := 3) e_law_1082 e_law_1083 e_law_1085 e_law_1086 e_law_1087 (by decide) rfl rfl (by omega) hN ?_
  refine pw_aload_n e_law_1088 rfl ?_
  have es := E (gsx g (i + 1)) (gsx g (i + 2)) (gsx g (i + 3)) r
  have L1 := L.put (f_Bus_toTune P (gsx g (i + 1)) (gsx g (i + 2)) (gsx g (i + 3)) Z).2
  have hE : ∀ E h', RetX ((f_Bus_toTune P (gsx g (i + 1)) (gsx g (i + 2)) (gsx g (i + 3)) Z).1) (ov h (gO (bsL g A S P Y) (f_Bus_toTune P (gsx g (i + 1)) (gsx g (i + 2)) (gsx g (i + 3)) Z).2)) (.inr E) h' → E = "java/lang/IllegalArgumentException" ∨ E = "java/util/NoSuchElementException" := fun E h' q => by
    exact (rx_e es.1 q).imp And.left And.left
  refine pw_callSH (kc' := 3) (ks' := 18) (As := [.ref (A 507), .int (gsx g (i + 1)), .int (gsx g (i + 2)), .int (gsx g (i + 3)), .ref o]) e_law_1089 ls_Law_133 (q_Law_toTune hst (gsx g (i + 1)) (gsx g (i + 2)) (gsx g (i + 3)) L.at7 (q_Bus_toTune hst L.nd okC.1 (gsx g (i + 1)) (gsx g (i + 2)) (gsx g (i + 3)) Z L.1.1) (fun r h' q => by rw [q.2]; exact L1.2.2.1) (fun v h' q => rx_v q) hE) rfl (by decide) (Nat.le_of_ble_eq_true rfl) (fun E h' q => (wr_no q).elim) (fun v h1 q => ?_)
  obtain ⟨kk, f', rfl, hh, ht, hf'⟩ := wr_X es.1 q
  have L2 := L1.wr hh
  have rl := es.2
  refine pw_istore (ls2 := [.ref (gsa g), .ref (A 507), .ref (B 100), .ref o, .int (nI i), .int kk, .retAddr 0]) e_law_1092 (by decide) rfl ?_
  refine pw_aload_n e_law_1094 rfl ?_
  refine pw_arg (k := 1) e_law_1095 e_law_1096 e_law_1098 e_law_1099 e_law_1100 (by decide) rfl rfl (by omega) hN ?_
  refine pw_arg (k := 2) e_law_1101 e_law_1102 e_law_1104 e_law_1105 e_law_1106 (by decide) rfl rfl (by omega) hN ?_
  refine pw_arg (k := 3) e_law_1107 e_law_1108 e_law_1110 e_law_1111 e_law_1112 (by decide) rfl rfl (by omega) hN ?_
  obtain ⟨fs, hb⟩ := L2.atB
  refine pw_detV (As := [.int (gsx g (i + 1)), .int (gsx g (i + 2)), .int (gsx g (i + 3))]) e_law_1113 li_Law_135 rfl hb (q_Mod_toTune hst L2.md (gsx g (i + 1)) (gsx g (i + 2)) (gsx g (i + 3)) W L2.2.1 okM.1) rfl (by decide) (Nat.le_of_ble_eq_true rfl) rfl ?_
  have L3 := L2.mod (f_Mod_toTune (gsx g (i + 1)) (gsx g (i + 2)) (gsx g (i + 3)) W).2
  refine pw_istore (ls2 := [.ref (gsa g), .ref (A 507), .ref (B 100), .ref o, .int (nI i), .int kk, .int (f_Mod_toTune (gsx g (i + 1)) (gsx g (i + 2)) (gsx g (i + 3)) W).1]) e_law_1116 (by decide) rfl ?_
  refine pw_aload_n e_law_1118 rfl ?_
  obtain ⟨fs3, hb3⟩ := L3.atB
  refine pw_detV (As := []) e_law_1119 li_Law_70 rfl hb3 (q_Mod_thrown hst L3.md (f_Mod_toTune (gsx g (i + 1)) (gsx g (i + 2)) (gsx g (i + 3)) W).2 L3.2.1) rfl (by decide) (Nat.le_of_ble_eq_true rfl) rfl ?_
  refine pw_iload e_law_1122 rfl ?_
  refine pw_icmp_eq (tgt := 1129) e_law_1124 (by decide) (fun _ => ?_) (fun c => absurd ht c)
  have fin : PW g M_law 12 kc ks Q 1146 [.ref (gsa g), .ref (A 507), .ref (B 100), .ref o, .int (nI i), .int kk, .int (f_Mod_toTune (gsx g (i + 1)) (gsx g (i + 2)) (gsx g (i + 3)) W).1] [] _ := pw_goto (tgt := 1438) e_law_1146 (by decide) (pw_fgt (ls' := [.ref (gsa g), .ref (A 507), .ref (B 100), .ref o, .int (nI i), .retAddr 0, .retAddr 0]) ⟨Or.inr rfl, Or.inr rfl, Or.inr rfl, Or.inr rfl, Or.inr rfl, Or.inl rfl, Or.inl rfl, trivial⟩ (k _ ⟨A, B, f', S, P, Y, _, _, rfl, rfl, L3, rl⟩))
  refine pw_iload e_law_1129 rfl ?_
  refine pw_if_ne (tgt := 1146) e_law_1131 (by decide) (fun _ => fin) (fun hk0 => ?_)
  refine pw_aload_n e_law_1134 rfl ?_
  refine pw_iconst (v := nI 0) e_law_1135 (by decide) ?_
  refine pw_lald e_law_1136 L3.2.2.1 (vp_in_nI (by decide) (by decide)) ?_
  refine pw_iload e_law_1137 rfl ?_
  refine pw_i2l e_law_1139 ?_
  refine pw_lcmp e_law_1140 ?_
  exact pw_if_eq (tgt := 1146) e_law_1141 (by decide) (fun _ => fin) (fun c => absurd ((lg_cmp_eq _ _).mpr (hf' hk0)) c)
theorem l_slack {g : GG} {Q : QT} {h : Hp} {a b o i kc ks : Nat} {Rel : RT} (hst : (gl g).stackTraces = false) (ok : EqOk Rel) (E : E_slack Rel) (hi : i + 6 ≤ gsl g) (hN : gsl g ≤ 3072) (I : LwI Rel g a b o h) (k : ∀ h', LwI Rel g a b o h' → PW g M_law 12 kc ks Q 1438 [.ref (gsa g), .ref a, .ref b, .ref o, .int (nI i), .retAddr 0, .retAddr 0] [] h') : PW g M_law 12 (kc + 82) (ks + 9266) Q 1149 [.ref (gsa g), .ref a, .ref b, .ref o, .int (nI i), .retAddr 0, .retAddr 0] [] h := by
  obtain ⟨A, B, f, S, P, Y, Z, W, rfl, rfl, L, r⟩ := I
  obtain ⟨okC, okM, ok32⟩ := ok r
  refine PW.more (kc' := kc + 1) (ks' := ks + 6) (by omega) (by omega) ?_
  refine pw_aload_n e_law_1149 rfl ?_
  refine pw_arg (k := 1) e_law_1150 e_law_1151 e_law_1153 e_law_1154 e_law_1155 (by decide) rfl rfl (by omega) hN ?_
  refine pw_aload_n e_law_1156 rfl ?_
  have es := E (gsx g (i + 1)) r
  have L1 := L.put (f_Bus_slack P (gsx g (i + 1)) Z).2
  have hE : ∀ E h', RetX ((f_Bus_slack P (gsx g (i + 1)) Z).1) (ov h (gO (bsL g A S P Y) (f_Bus_slack P (gsx g (i + 1)) Z).2)) (.inr E) h' → E = "java/util/NoSuchElementException" := fun E h' q => by
    rcases rx_e es.1 q with z | z
    · exact absurd rfl z.2
    · exact z.1
  refine pw_callSH (kc' := 1) (ks' := 6) (As := [.ref (A 507), .int (gsx g (i + 1)), .ref o]) e_law_1157 ls_Law_136 (q_Law_slack hst (gsx g (i + 1)) L.at7 (q_Bus_slack hst L.nd okC.1 (gsx g (i + 1)) Z L.1.1) (fun r h' q => by rw [q.2]; exact L1.2.2.1) (fun v h' q => rx_v q) hE) rfl (by decide) (Nat.le_of_ble_eq_true rfl) (fun E h' q => (wr_no q).elim) (fun v h1 q => ?_)
  obtain ⟨kk, f', rfl, hh, ht, hf'⟩ := wr_X es.1 q
  have L2 := L1.wr hh
  have rl := es.2
  refine pw_istore (ls2 := [.ref (gsa g), .ref (A 507), .ref (B 100), .ref o, .int (nI i), .int kk, .retAddr 0]) e_law_1160 (by decide) rfl ?_
  refine pw_aload_n e_law_1162 rfl ?_
  refine pw_arg (k := 1) e_law_1163 e_law_1164 e_law_1166 e_law_1167 e_law_1168 (by decide) rfl rfl (by omega) hN ?_
  obtain ⟨fs, hb⟩ := L2.atB
  refine pw_detV (As := [.int (gsx g (i + 1))]) e_law_1169 li_Law_138 rfl hb (q_Mod_slack hst L2.md (gsx g (i + 1)) W L2.2.1 okM.1 okM.2.2.2.2.1 okM.2.2.2.2.2.1) rfl (by decide) (Nat.le_of_ble_eq_true rfl) rfl ?_
  have L3 := L2.mod (f_Mod_slack (gsx g (i + 1)) W).2
  refine pw_istore (ls2 := [.ref (gsa g), .ref (A 507), .ref (B 100), .ref o, .int (nI i), .int kk, .int (f_Mod_slack (gsx g (i + 1)) W).1]) e_law_1172 (by decide) rfl ?_
  refine pw_aload_n e_law_1174 rfl ?_
  obtain ⟨fs3, hb3⟩ := L3.atB
  refine pw_detV (As := []) e_law_1175 li_Law_70 rfl hb3 (q_Mod_thrown hst L3.md (f_Mod_slack (gsx g (i + 1)) W).2 L3.2.1) rfl (by decide) (Nat.le_of_ble_eq_true rfl) rfl ?_
  refine pw_iload e_law_1178 rfl ?_
  refine pw_icmp_eq (tgt := 1185) e_law_1180 (by decide) (fun _ => ?_) (fun c => absurd ht c)
  have fin : PW g M_law 12 kc ks Q 1202 [.ref (gsa g), .ref (A 507), .ref (B 100), .ref o, .int (nI i), .int kk, .int (f_Mod_slack (gsx g (i + 1)) W).1] [] _ := pw_goto (tgt := 1438) e_law_1202 (by decide) (pw_fgt (ls' := [.ref (gsa g), .ref (A 507), .ref (B 100), .ref o, .int (nI i), .retAddr 0, .retAddr 0]) ⟨Or.inr rfl, Or.inr rfl, Or.inr rfl, Or.inr rfl, Or.inr rfl, Or.inl rfl, Or.inl rfl, trivial⟩ (k _ ⟨A, B, f', S, P, Y, _, _, rfl, rfl, L3, rl⟩))
  refine pw_iload e_law_1185 rfl ?_
  refine pw_if_ne (tgt := 1202) e_law_1187 (by decide) (fun _ => fin) (fun hk0 => ?_)
  refine pw_aload_n e_law_1190 rfl ?_
  refine pw_iconst (v := nI 0) e_law_1191 (by decide) ?_
  refine pw_lald e_law_1192 L3.2.2.1 (vp_in_nI (by decide) (by decide)) ?_
  refine pw_iload e_law_1193 rfl ?_
  refine pw_i2l e_law_1195 ?_
  refine pw_lcmp e_law_1196 ?_
  exact pw_if_eq (tgt := 1202) e_law_1197 (by decide) (fun _ => fin) (fun c => absurd ((lg_cmp_eq _ _).mpr (hf' hk0)) c)
theorem l_note {g : GG} {Q : QT} {h : Hp} {a b o i kc ks : Nat} {Rel : RT} (hst : (gl g).stackTraces = false) (ok : EqOk Rel) (E : E_note Rel) (hi : i + 6 ≤ gsl g) (hN : gsl g ≤ 3072) (I : LwI Rel g a b o h) (k : ∀ h', LwI Rel g a b o h' → PW g M_law 12 kc ks Q 1438 [.ref (gsa g), .ref a, .ref b, .ref o, .int (nI i), .retAddr 0, .retAddr 0] [] h') : PW g M_law 12 (kc + 82) (ks + 9266) Q 1205 [.ref (gsa g), .ref a, .ref b, .ref o, .int (nI i), .retAddr 0, .retAddr 0] [] h := by
  obtain ⟨A, B, f, S, P, Y, Z, W, rfl, rfl, L, r⟩ := I
  obtain ⟨okC, okM, ok32⟩ := ok r
  refine PW.more (kc' := kc + 0) (ks' := ks + 0) (by omega) (by omega) ?_
  refine pw_aload_n e_law_1205 rfl ?_
  refine pw_arg (k := 1) e_law_1206 e_law_1207 e_law_1209 e_law_1210 e_law_1211 (by decide) rfl rfl (by omega) hN ?_
  refine pw_arg (k := 2) e_law_1212 e_law_1213 e_law_1215 e_law_1216 e_law_1217 (by decide) rfl rfl (by omega) hN ?_
  refine pw_arg (k := 3) e_law_1218 e_law_1219 e_law_1221 e_law_1222 e_law_1223 (by decide) rfl rfl (by omega) hN ?_
  refine PW.more (kc' := kc) (ks' := ks) (Nat.le_refl _) (Nat.le_refl _) ?_
  refine pw_detV (As := [.int (gsx g (i + 1)), .int (gsx g (i + 2)), .int (gsx g (i + 3))]) e_law_1224 li_Law_139 rfl L.at7 (q_Bus_note hst L.nd okC.1 (gsx g (i + 1)) (gsx g (i + 2)) (gsx g (i + 3)) Z L.1.1 okC.2.1) rfl (by decide) (Nat.le_of_ble_eq_true rfl) rfl ?_
  have L1 := L.put (f_Bus_note P (gsx g (i + 1)) (gsx g (i + 2)) (gsx g (i + 3)) Z).2
  have es := E (gsx g (i + 1)) (gsx g (i + 2)) (gsx g (i + 3)) r
  refine pw_aload_n e_law_1227 rfl ?_
  refine pw_arg (k := 1) e_law_1228 e_law_1229 e_law_1231 e_law_1232 e_law_1233 (by decide) rfl rfl (by omega) hN ?_
  refine pw_arg (k := 2) e_law_1234 e_law_1235 e_law_1237 e_law_1238 e_law_1239 (by decide) rfl rfl (by omega) hN ?_
  refine pw_arg (k := 3) e_law_1240 e_law_1241 e_law_1243 e_law_1244 e_law_1245 (by decide) rfl rfl (by omega) hN ?_
  obtain ⟨fs, hb⟩ := L1.atB
  refine pw_detV (As := [.int (gsx g (i + 1)), .int (gsx g (i + 2)), .int (gsx g (i + 3))]) e_law_1246 li_Law_142 rfl hb (q_Mod_note hst L1.md (gsx g (i + 1)) (gsx g (i + 2)) (gsx g (i + 3)) W L1.2.1 okM.1 okM.2.2.2.1) rfl (by decide) (Nat.le_of_ble_eq_true rfl) rfl ?_
  have L2 := L1.mod (f_Mod_note (gsx g (i + 1)) (gsx g (i + 2)) (gsx g (i + 3)) W).2
  exact pw_icmp_eq (tgt := 1438) e_law_1249 (by decide) (fun _ => k _ ⟨A, B, f, S, P, Y, _, _, rfl, rfl, L2, es.2⟩) (fun c => absurd es.1 c)
theorem l_fits {g : GG} {Q : QT} {h : Hp} {a b o i kc ks : Nat} {Rel : RT} (hst : (gl g).stackTraces = false) (ok : EqOk Rel) (E : E_fits Rel) (hi : i + 6 ≤ gsl g) (hN : gsl g ≤ 3072) (I : LwI Rel g a b o h) (k : ∀ h', LwI Rel g a b o h' → PW g M_law 12 kc ks Q 1438 [.ref (gsa g), .ref a, .ref b, .ref o, .int (nI i), .retAddr 0, .retAddr 0] [] h') : PW g M_law 12 (kc + 82) (ks + 9266) Q 1254 [.ref (gsa g), .ref a, .ref b, .ref o, .int (nI i), .retAddr 0, .retAddr 0] [] h := by
  obtain ⟨A, B, f, S, P, Y, Z, W, rfl, rfl, L, r⟩ := I
  obtain ⟨okC, okM, ok32⟩ := ok r
  refine PW.more (kc' := kc + 0) (ks' := ks + 0) (by omega) (by omega) ?_
  refine pw_aload_n e_law_1254 rfl ?_
  refine PW.more (kc' := kc) (ks' := ks) (Nat.le_refl _) (Nat.le_refl _) ?_
  refine pw_detV (As := []) e_law_1255 li_Law_143 rfl L.at7 (q_Bus_fits hst L.nd okC.1 Z L.1.1 okC.2.1) rfl (by decide) (Nat.le_of_ble_eq_true rfl) rfl ?_
  have L1 := L.put (f_Bus_fits P Z).2
  have es := E  r
  refine pw_aload_n e_law_1258 rfl ?_
  obtain ⟨fs, hb⟩ := L1.atB
  refine pw_detV (As := []) e_law_1259 li_Law_146 rfl hb (q_Mod_fits hst L1.md W L1.2.1 okM.1 okM.2.2.2.1) rfl (by decide) (Nat.le_of_ble_eq_true rfl) rfl ?_
  have L2 := L1.mod (f_Mod_fits W).2
  exact pw_icmp_eq (tgt := 1438) e_law_1262 (by decide) (fun _ => k _ ⟨A, B, f, S, P, Y, _, _, rfl, rfl, L2, es.2⟩) (fun c => absurd es.1 c)
theorem l_look {g : GG} {Q : QT} {h : Hp} {a b o i kc ks : Nat} {Rel : RT} (hst : (gl g).stackTraces = false) (ok : EqOk Rel) (E : E_look Rel) (hi : i + 6 ≤ gsl g) (hN : gsl g ≤ 3072) (I : LwI Rel g a b o h) (k : ∀ h', LwI Rel g a b o h' → PW g M_law 12 kc ks Q 1438 [.ref (gsa g), .ref a, .ref b, .ref o, .int (nI i), .retAddr 0, .retAddr 0] [] h') : PW g M_law 12 (kc + 82) (ks + 9266) Q 1267 [.ref (gsa g), .ref a, .ref b, .ref o, .int (nI i), .retAddr 0, .retAddr 0] [] h := by
  obtain ⟨A, B, f, S, P, Y, Z, W, rfl, rfl, L, r⟩ := I
  obtain ⟨okC, okM, ok32⟩ := ok r
  refine PW.more (kc' := kc + 1) (ks' := ks + 6) (by omega) (by omega) ?_
  refine pw_aload_n e_law_1267 rfl ?_
  refine pw_arg (k := 1) e_law_1268 e_law_1269 e_law_1271 e_law_1272 e_law_1273 (by decide) rfl rfl (by omega) hN ?_
  refine pw_aload_n e_law_1274 rfl ?_
  have es := E (gsx g (i + 1)) r
  have L1 := L.put (f_Bus_look P (gsx g (i + 1)) Z).2
  have hE : ∀ E h', RetX ((f_Bus_look P (gsx g (i + 1)) Z).1) (ov h (gO (bsL g A S P Y) (f_Bus_look P (gsx g (i + 1)) Z).2)) (.inr E) h' → E = "java/util/NoSuchElementException" := fun E h' q => by
    rcases rx_e es.1 q with z | z
    · exact absurd rfl z.2
    · exact z.1
  refine pw_callSH (kc' := 1) (ks' := 6) (As := [.ref (A 507), .int (gsx g (i + 1)), .ref o]) e_law_1275 ls_Law_147 (q_Law_look hst (gsx g (i + 1)) L.at7 (q_Bus_look hst L.nd okC.1 (gsx g (i + 1)) Z L.1.1 okC.2.1) (fun r h' q => by rw [q.2]; exact L1.2.2.1) (fun v h' q => rx_v q) hE) rfl (by decide) (Nat.le_of_ble_eq_true rfl) (fun E h' q => (wr_no q).elim) (fun v h1 q => ?_)
  obtain ⟨kk, f', rfl, hh, ht, hf'⟩ := wr_X es.1 q
  have L2 := L1.wr hh
  have rl := es.2
  refine pw_istore (ls2 := [.ref (gsa g), .ref (A 507), .ref (B 100), .ref o, .int (nI i), .int kk, .retAddr 0]) e_law_1278 (by decide) rfl ?_
  refine pw_aload_n e_law_1280 rfl ?_
  refine pw_arg (k := 1) e_law_1281 e_law_1282 e_law_1284 e_law_1285 e_law_1286 (by decide) rfl rfl (by omega) hN ?_
  obtain ⟨fs, hb⟩ := L2.atB
  refine pw_detV (As := [.int (gsx g (i + 1))]) e_law_1287 li_Law_149 rfl hb (q_Mod_look hst L2.md (gsx g (i + 1)) W L2.2.1 okM.1 okM.2.2.2.1) rfl (by decide) (Nat.le_of_ble_eq_true rfl) rfl ?_
  have L3 := L2.mod (f_Mod_look (gsx g (i + 1)) W).2
  refine pw_istore (ls2 := [.ref (gsa g), .ref (A 507), .ref (B 100), .ref o, .int (nI i), .int kk, .int (f_Mod_look (gsx g (i + 1)) W).1]) e_law_1290 (by decide) rfl ?_
  refine pw_aload_n e_law_1292 rfl ?_
  obtain ⟨fs3, hb3⟩ := L3.atB
  refine pw_detV (As := []) e_law_1293 li_Law_70 rfl hb3 (q_Mod_thrown hst L3.md (f_Mod_look (gsx g (i + 1)) W).2 L3.2.1) rfl (by decide) (Nat.le_of_ble_eq_true rfl) rfl ?_
  refine pw_iload e_law_1296 rfl ?_
  refine pw_icmp_eq (tgt := 1303) e_law_1298 (by decide) (fun _ => ?_) (fun c => absurd ht c)
  have fin : PW g M_law 12 kc ks Q 1320 [.ref (gsa g), .ref (A 507), .ref (B 100), .ref o, .int (nI i), .int kk, .int (f_Mod_look (gsx g (i + 1)) W).1] [] _ := pw_goto (tgt := 1438) e_law_1320 (by decide) (pw_fgt (ls' := [.ref (gsa g), .ref (A 507), .ref (B 100), .ref o, .int (nI i), .retAddr 0, .retAddr 0]) ⟨Or.inr rfl, Or.inr rfl, Or.inr rfl, Or.inr rfl, Or.inr rfl, Or.inl rfl, Or.inl rfl, trivial⟩ (k _ ⟨A, B, f', S, P, Y, _, _, rfl, rfl, L3, rl⟩))
  refine pw_iload e_law_1303 rfl ?_
  refine pw_if_ne (tgt := 1320) e_law_1305 (by decide) (fun _ => fin) (fun hk0 => ?_)
  refine pw_aload_n e_law_1308 rfl ?_
  refine pw_iconst (v := nI 0) e_law_1309 (by decide) ?_
  refine pw_lald e_law_1310 L3.2.2.1 (vp_in_nI (by decide) (by decide)) ?_
  refine pw_iload e_law_1311 rfl ?_
  refine pw_i2l e_law_1313 ?_
  refine pw_lcmp e_law_1314 ?_
  exact pw_if_eq (tgt := 1320) e_law_1315 (by decide) (fun _ => fin) (fun c => absurd ((lg_cmp_eq _ _).mpr (hf' hk0)) c)
theorem l_forget {g : GG} {Q : QT} {h : Hp} {a b o i kc ks : Nat} {Rel : RT} (hst : (gl g).stackTraces = false) (ok : EqOk Rel) (E : E_forget Rel) (hi : i + 6 ≤ gsl g) (hN : gsl g ≤ 3072) (I : LwI Rel g a b o h) (k : ∀ h', LwI Rel g a b o h' → PW g M_law 12 kc ks Q 1438 [.ref (gsa g), .ref a, .ref b, .ref o, .int (nI i), .retAddr 0, .retAddr 0] [] h') : PW g M_law 12 (kc + 82) (ks + 9266) Q 1323 [.ref (gsa g), .ref a, .ref b, .ref o, .int (nI i), .retAddr 0, .retAddr 0] [] h := by
  obtain ⟨A, B, f, S, P, Y, Z, W, rfl, rfl, L, r⟩ := I
  obtain ⟨okC, okM, ok32⟩ := ok r
  refine PW.more (kc' := kc + 0) (ks' := ks + 0) (by omega) (by omega) ?_
  refine pw_aload_n e_law_1323 rfl ?_
  refine PW.more (kc' := kc) (ks' := ks) (Nat.le_refl _) (Nat.le_refl _) ?_
  refine pw_detV (As := []) e_law_1324 li_Law_150 rfl L.at7 (q_Bus_forget hst L.nd okC.1 Z L.1.1) rfl (by decide) (Nat.le_of_ble_eq_true rfl) rfl ?_
  have L1 := L.put (f_Bus_forget P Z)
  have es := E  r
  refine pw_aload_n e_law_1327 rfl ?_
  obtain ⟨fs, hb⟩ := L1.atB
  refine pw_detV (As := []) e_law_1328 li_Law_153 rfl hb (q_Mod_forget hst L1.md W L1.2.1 ) rfl (by decide) (Nat.le_of_ble_eq_true rfl) rfl ?_
  have L2 := L1.mod (f_Mod_forget W)
  exact pw_goto (tgt := 1438) e_law_1331 (by decide) (k _ ⟨A, B, f, S, P, Y, _, _, rfl, rfl, L2, es⟩)
theorem l_years {g : GG} {Q : QT} {h : Hp} {a b o i kc ks : Nat} {Rel : RT} (hst : (gl g).stackTraces = false) (ok : EqOk Rel) (E : E_years Rel) (hi : i + 6 ≤ gsl g) (hN : gsl g ≤ 3072) (I : LwI Rel g a b o h) (k : ∀ h', LwI Rel g a b o h' → PW g M_law 12 kc ks Q 1438 [.ref (gsa g), .ref a, .ref b, .ref o, .int (nI i), .retAddr 0, .retAddr 0] [] h') : PW g M_law 12 (kc + 82) (ks + 9266) Q 1334 [.ref (gsa g), .ref a, .ref b, .ref o, .int (nI i), .retAddr 0, .retAddr 0] [] h := by
  obtain ⟨A, B, f, S, P, Y, Z, W, rfl, rfl, L, r⟩ := I
  obtain ⟨okC, okM, ok32⟩ := ok r
  refine PW.more (kc' := kc + 1) (ks' := ks + 6) (by omega) (by omega) ?_
  refine pw_aload_n e_law_1334 rfl ?_
  refine pw_arg (k := 1) e_law_1335 e_law_1336 e_law_1338 e_law_1339 e_law_1340 (by decide) rfl rfl (by omega) hN ?_
  refine pw_arg (k := 2) e_law_1341 e_law_1342 e_law_1344 e_law_1345 e_law_1346 (by decide) rfl rfl (by omega) hN ?_
  refine pw_arg (k := 3) e_law_1347 e_law_1348 e_law_1350 e_law_1351 e_law_1352 (by decide) rfl rfl (by omega) hN ?_
  refine pw_aload_n e_law_1353 rfl ?_
  have es := E (gsx g (i + 1)) (gsx g (i + 2)) (gsx g (i + 3)) r
  have L1 := L.put (f_Bus_years P (gsx g (i + 1)) (gsx g (i + 2)) (gsx g (i + 3)) Z).2
  have hE : ∀ E h', RetX ((f_Bus_years P (gsx g (i + 1)) (gsx g (i + 2)) (gsx g (i + 3)) Z).1) (ov h (gO (bsL g A S P Y) (f_Bus_years P (gsx g (i + 1)) (gsx g (i + 2)) (gsx g (i + 3)) Z).2)) (.inr E) h' → E = "java/lang/IllegalArgumentException" ∨ E = "java/util/NoSuchElementException" := fun E h' q => by
    exact (rx_e es.1 q).imp And.left And.left
  refine pw_callSH (kc' := 1) (ks' := 6) (As := [.ref (A 507), .int (gsx g (i + 1)), .int (gsx g (i + 2)), .int (gsx g (i + 3)), .ref o]) e_law_1354 ls_Law_154 (q_Law_years hst (gsx g (i + 1)) (gsx g (i + 2)) (gsx g (i + 3)) L.at7 (q_Bus_years hst L.nd okC.1 (gsx g (i + 1)) (gsx g (i + 2)) (gsx g (i + 3)) okC.2.2.2.2.1 Z L.1.1) (fun r h' q => by rw [q.2]; exact L1.2.2.1) (fun v h' q => rx_v q) hE) rfl (by decide) (Nat.le_of_ble_eq_true rfl) (fun E h' q => (wr_no q).elim) (fun v h1 q => ?_)
  obtain ⟨kk, f', rfl, hh, ht, hf'⟩ := wr_X es.1 q
  have L2 := L1.wr hh
  have rl := es.2
  refine pw_istore (ls2 := [.ref (gsa g), .ref (A 507), .ref (B 100), .ref o, .int (nI i), .int kk, .retAddr 0]) e_law_1357 (by decide) rfl ?_
  refine pw_aload_n e_law_1359 rfl ?_
  refine pw_arg (k := 1) e_law_1360 e_law_1361 e_law_1363 e_law_1364 e_law_1365 (by decide) rfl rfl (by omega) hN ?_
  refine pw_arg (k := 2) e_law_1366 e_law_1367 e_law_1369 e_law_1370 e_law_1371 (by decide) rfl rfl (by omega) hN ?_
  refine pw_arg (k := 3) e_law_1372 e_law_1373 e_law_1375 e_law_1376 e_law_1377 (by decide) rfl rfl (by omega) hN ?_
  obtain ⟨fs, hb⟩ := L2.atB
  refine pw_detV (As := [.int (gsx g (i + 1)), .int (gsx g (i + 2)), .int (gsx g (i + 3))]) e_law_1378 li_Law_156 rfl hb (q_Mod_years hst L2.md (gsx g (i + 1)) (gsx g (i + 2)) (gsx g (i + 3)) W L2.2.1 okM.1 okM.2.2.2.2.2.2.2.1) rfl (by decide) (Nat.le_of_ble_eq_true rfl) rfl ?_
  have L3 := L2.mod (f_Mod_years (gsx g (i + 1)) (gsx g (i + 2)) (gsx g (i + 3)) W).2
  refine pw_istore (ls2 := [.ref (gsa g), .ref (A 507), .ref (B 100), .ref o, .int (nI i), .int kk, .int (f_Mod_years (gsx g (i + 1)) (gsx g (i + 2)) (gsx g (i + 3)) W).1]) e_law_1381 (by decide) rfl ?_
  refine pw_aload_n e_law_1383 rfl ?_
  obtain ⟨fs3, hb3⟩ := L3.atB
  refine pw_detV (As := []) e_law_1384 li_Law_70 rfl hb3 (q_Mod_thrown hst L3.md (f_Mod_years (gsx g (i + 1)) (gsx g (i + 2)) (gsx g (i + 3)) W).2 L3.2.1) rfl (by decide) (Nat.le_of_ble_eq_true rfl) rfl ?_
  refine pw_iload e_law_1387 rfl ?_
  refine pw_icmp_eq (tgt := 1394) e_law_1389 (by decide) (fun _ => ?_) (fun c => absurd ht c)
  have fin : PW g M_law 12 kc ks Q 1411 [.ref (gsa g), .ref (A 507), .ref (B 100), .ref o, .int (nI i), .int kk, .int (f_Mod_years (gsx g (i + 1)) (gsx g (i + 2)) (gsx g (i + 3)) W).1] [] _ := pw_goto (tgt := 1438) e_law_1411 (by decide) (pw_fgt (ls' := [.ref (gsa g), .ref (A 507), .ref (B 100), .ref o, .int (nI i), .retAddr 0, .retAddr 0]) ⟨Or.inr rfl, Or.inr rfl, Or.inr rfl, Or.inr rfl, Or.inr rfl, Or.inl rfl, Or.inl rfl, trivial⟩ (k _ ⟨A, B, f', S, P, Y, _, _, rfl, rfl, L3, rl⟩))
  refine pw_iload e_law_1394 rfl ?_
  refine pw_if_ne (tgt := 1411) e_law_1396 (by decide) (fun _ => fin) (fun hk0 => ?_)
  refine pw_aload_n e_law_1399 rfl ?_
  refine pw_iconst (v := nI 0) e_law_1400 (by decide) ?_
  refine pw_lald e_law_1401 L3.2.2.1 (vp_in_nI (by decide) (by decide)) ?_
  refine pw_iload e_law_1402 rfl ?_
  refine pw_i2l e_law_1404 ?_
  refine pw_lcmp e_law_1405 ?_
  exact pw_if_eq (tgt := 1411) e_law_1406 (by decide) (fun _ => fin) (fun c => absurd ((lg_cmp_eq _ _).mpr (hf' hk0)) c)
theorem l_image {g : GG} {Q : QT} {h : Hp} {a b o i kc ks : Nat} {Rel : RT} (hst : (gl g).stackTraces = false) (ok : EqOk Rel) (E : E_image Rel) (hi : i + 6 ≤ gsl g) (hN : gsl g ≤ 3072) (I : LwI Rel g a b o h) (k : ∀ h', LwI Rel g a b o h' → PW g M_law 12 kc ks Q 1438 [.ref (gsa g), .ref a, .ref b, .ref o, .int (nI i), .retAddr 0, .retAddr 0] [] h') : PW g M_law 12 (kc + 82) (ks + 9266) Q 1414 [.ref (gsa g), .ref a, .ref b, .ref o, .int (nI i), .retAddr 0, .retAddr 0] [] h := by
  obtain ⟨A, B, f, S, P, Y, Z, W, rfl, rfl, L, r⟩ := I
  obtain ⟨okC, okM, ok32⟩ := ok r
  refine PW.more (kc' := kc + 82) (ks' := ks + 9266) (by omega) (by omega) ?_
  refine pw_aload_n e_law_1414 rfl ?_
  refine pw_callV (kc' := 82) (ks' := 9266) (As := []) e_law_1415 li_Law_157 rfl L.at7 (q_Bus_image hst L.nd okC.1 L.1 okC.2.2.1 okC.2.2.2.2.2.1 okC.2.1.1) rfl (by decide) (Nat.le_of_ble_eq_true rfl) (fun E h' q => absurd q.1 (by simp)) (fun v h1 q => ?_)
  obtain ⟨hv, s1, W1, F1, hL1⟩ := q
  cases hv
  have L1 := L.cls W1 F1 (fun _ z => z) L.2.2.2.1
  have es := E s1 r hL1
  refine pw_aload_n e_law_1418 rfl ?_
  obtain ⟨fs, hb⟩ := L1.atB
  refine pw_detV (As := []) e_law_1419 li_Law_160 rfl hb (q_Mod_image hst L1.md W L1.2.1 okM.1) rfl (by decide) (Nat.le_of_ble_eq_true rfl) rfl ?_
  have L2 := L1.mod (f_Mod_image W)
  exact pw_goto (tgt := 1438) e_law_1422 (by decide) (k _ ⟨A, B, f, _, P, Y, _, _, rfl, rfl, L2, es⟩)
theorem l_restore {g : GG} {Q : QT} {h : Hp} {a b o i kc ks : Nat} {Rel : RT} (hst : (gl g).stackTraces = false) (ok : EqOk Rel) (E : E_restore Rel) (hi : i + 6 ≤ gsl g) (hN : gsl g ≤ 3072) (I : LwI Rel g a b o h) (k : ∀ h', LwI Rel g a b o h' → PW g M_law 12 kc ks Q 1438 [.ref (gsa g), .ref a, .ref b, .ref o, .int (nI i), .retAddr 0, .retAddr 0] [] h') : PW g M_law 12 (kc + 82) (ks + 9266) Q 1425 [.ref (gsa g), .ref a, .ref b, .ref o, .int (nI i), .retAddr 0, .retAddr 0] [] h := by
  obtain ⟨A, B, f, S, P, Y, Z, W, rfl, rfl, L, r⟩ := I
  obtain ⟨okC, okM, ok32⟩ := ok r
  refine PW.more (kc' := kc + 82) (ks' := ks + 9266) (by omega) (by omega) ?_
  refine pw_aload_n e_law_1425 rfl ?_
  refine pw_callV (kc' := 82) (ks' := 9266) (As := []) e_law_1426 li_Law_161 rfl L.at7 (q_Bus_restore hst L.nd okC.1 L.1 okC.2.2.2.2.2.2.1 (fun z => (okC.2.2.2.2.2.2.2.1 z).1) (fun z => (okC.2.2.2.2.2.2.2.1 z).2.1) (fun z => (okC.2.2.2.2.2.2.2.1 z).2.2)) rfl (by decide) (Nat.le_of_ble_eq_true rfl) (fun E h' q => by obtain ⟨_, q, _⟩ := q; cases q) (fun v h1 q => ?_)
  obtain ⟨S', hv, W1, F1, hL1, hS1⟩ := q
  cases hv
  have L1 := L.cls W1 F1 (fun _ z => z) L.2.2.2.1
  have es := E  r hL1 hS1
  refine pw_aload_n e_law_1429 rfl ?_
  obtain ⟨fs, hb⟩ := L1.atB
  refine pw_detV (As := []) e_law_1430 li_Law_165 rfl hb (q_Mod_restore hst L1.md W L1.2.1 okM.1) rfl (by decide) (Nat.le_of_ble_eq_true rfl) rfl ?_
  have L2 := L1.mod (f_Mod_restore W).2
  exact pw_icmp_eq (tgt := 1438) e_law_1433 (by decide) (fun _ => k _ ⟨A, B, f, S', P, Y, _, _, rfl, rfl, L2, es.2⟩) (fun c => absurd es.1 c)
