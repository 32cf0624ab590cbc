/-! THE LAW'S OWN SMALL METHODS: a call, its answer stored, its exception told by a number -/
section ROWS9
variable {X : zX} {Y Y2 : zY} {d pc : Nat} {ls : List (Nat × Value)} {st av : List Value} {M : zM} {r r1 : Option (zOut × zM)} {Sh : zSh} {D : zD}
theorem z_bodyH {n : Nat} (hC : zCk Y n) (hE : (yE Y).isEmpty = false) (hsz : (lg_sl av).length ≤ yL Y) (hO : yO Y = (yN Y).cls) (hst : (zl X).stackTraces = false) (k : Rn X Y d 0 (lv_args 0 av) [] M r) : Sd X Y d av M r := by
  intro o M' hr mc ms b1 b2 b3 b4
  obtain ⟨h1, h2, h3, h4, h5, h6⟩ := hC
  have ec : yC Y = .codeWith (yN Y) (yB Y) (yL Y) (yR Y) (yE Y) := by rw [yC, hE]; rfl
  refine vx_ofWH (cc := yB Y) (maxL := yL Y) (ret := yR Y) (hh := yE Y) h3 (by rw [ec]) ?_
  intro p e s m args below meth c s₁ B hml hv
  obtain ⟨rfl, hH, hK⟩ := hv
  have hts := atoms_spec (ws := yC Y :: z_T) B.pre
  have hown : s.vm.findClass (yO Y) = some m.cls := by rw [hO]; exact findClass_of_methodNamed B.named
  have hname : meth.name = (yN Y).name := (name_of_methodNamed B.named B.method).1
  have htb : c.exceptionTable.toList = tableOf (yE Y) := by
    have h := hts _ List.mem_cons_self
    rw [ec] at h
    exact vx_table (x := yN Y) B h
  have Ev : zEv X Y d mc ms p (zRm d mc ms) s m ((av.map (zrv X)).toArray) meth c := by
    refine ⟨B.exec, B.bytes, B.returns, hml, hown, fun w hw => hts w (List.mem_cons_of_mem _ hw), B.notSynchronized, hname, hK, htb, Nat.le_refl _, Nat.le_refl _, Nat.le_refl _, Nat.le_refl _, hst, Nat.le_trans (Nat.le_add_right _ _) hH.1, hH.2.2.2.1⟩
  have hlen := z_lgl (X := X) av
  have hl := lv_entry (av.map (zrv X)) (n := yL Y) (by rw [hlen]; exact hsz)
  rw [lg_entry_eq]
  rw [z_lva] at hl
  exact k o M' hr p e (zRm d mc ms) s m _ below meth c mc ms Ev s.heap [] 0 0 _ ⟨hH, Nat.le_refl _, (fun z hz => by cases hz), hl, by omega, by omega, b3, b4⟩
theorem x_catchW {E name : String} (i : Nat) (pre : List ExceptionTableEntry) (x : ExceptionTableEntry) (suf : List ExceptionTableEntry) (hs : tableOf (yE Y) = pre ++ x :: suf) (hp : ∀ z ∈ pre, covers z pc = false ∨ (z.catchType ≠ 0 ∧ ∃ nm : String, Cond.classLink (yO Y) z.catchType nm ∈ z_T ∧ (E, nm) ∈ z_nc)) (hx : covers x pc = true) (h0 : x.catchType ≠ 0) (hl : Cond.classLink (yO Y) x.catchType name ∈ z_T) (hc : Cond.castable E name ∈ z_N)
    (hn : i < yL Y) (dg : decode (yB Y) x.handlerPc = .ok (.astore i, 2)) {ls' : List (Nat × Value)} (hls : ls.filter (fun q => !(q.1 == i) && !(q.1 + 1 == i && q.2.category == 2)) = ls') (k : Rn X Y d (x.handlerPc + 2) ls' [] M r) : RnX X Y d pc ls st M E r := by
  subst hls
  intro o M' hr p e Rm s m args below meth c mc ms Ev H locs cells slots la q ce S h1 h2 h3
  have hts := Ev.2.2.2.2.2.1
  have hKK := Ev.2.2.2.2.2.2.2.2.1
  refine vx_catch Ev.2.2.2.2.1 pre x suf (Ev.2.2.2.2.2.2.2.2.2.1.trans hs) (fun z hz => ?_) hx h0 (hts _ hl) (va_Nw.use rfl (hKK.2.2.2.2.1 _ hc)) h1 h2 h3 ?_
  · rcases hp z hz with h | ⟨g1, nm, g2, g3⟩
    · exact Or.inl h
    · exact Or.inr ⟨g1, nm, hts _ g2, hKK.2.2.2.2.2 _ g3⟩
  · refine lv_astore Ev.1 Ev.2.1 dg S.2.2.2.1 hn rfl (fun la' hla => ?_)
    have hla2 : lv_has la' (yL Y) ((ls.filter (fun q => !(q.1 == i) && !(q.1 + 1 == i && q.2.category == 2))).map (fun q => (q.1, zrv X q.2))) := by
      refine ⟨hla.1, hla.2.1, fun w hw => hla.2.2 w (List.mem_cons_of_mem _ ?_)⟩
      have e := z_set1 (X := X) (ls := ls) i .null
      have e2 := (List.cons.inj e).2
      rw [e2]
      exact hw
    exact k o M' hr p e Rm s m args below meth c mc ms Ev H locs cells slots la' ⟨S.1, S.2.1, S.2.2.1, hla2, S.2.2.2.2⟩
end ROWS9
def wk1 (a e : Nat) : Option Int32 := if e = a then some 1 else none
def wk2 (a b e : Nat) : Option Int32 := if e = a then some 1 else if e = b then some 2 else none
def wP (D : zD) (c : Option (Nat ⊕ Int32)) : Option ((Nat ⊕ Int32) × zD) := c.map fun q => (q, D)
theorem wP_eq {Sh : zSh} {D : zD} {c : Option (Nat ⊕ Int32)} : oXP Sh D c = oXI Sh (wP D c) := by
  rcases c with _ | q
  · rfl
  · rcases q with q | q <;> rfl
/-- what such a method leaves: its number, the exceptions made more, the data -/
def fW (g : Nat → Option Int32) (c : Option ((Nat ⊕ Int32) × zD)) : Option (Int32 × Nat × zD) := c.bind fun q => match q.1 with
  | .inr v => some (0, 0, sL q.2 206 0 v.toInt64)
  | .inl e => (g e).map fun k => (k, 1, q.2)
def shx (Sh : zSh) (x : Nat) : zSh := (Sh.1, Sh.2.1, Sh.2.2 + x)
def oW (Sh : zSh) (c : Option (Int32 × Nat × zD)) : Option (zOut × zM) := c.map fun q => (.inl (some (.int q.1)), (shx Sh q.2.1, q.2.2))
section ROWS9b
variable {X : zX} {Y Y2 : zY} {d pc : Nat} {ls : List (Nat × Value)} {st av : List Value} {Sh : zSh} {D : zD}
theorem q_wcall {d2 : Nat} {g : Nat → Option Int32} {c : Option ((Nat ⊕ Int32) × zD)} (hR : zRun X Y d pc av st Y2 (Sh, D)) (hS : Sd X Y2 d av (Sh, D) (oXI Sh c))
    (kv : ∀ v D', Rn X Y (d + 1) (pc + 3) ls (.int v :: st) (Sh, D') (some (.inl (some (.int 0)), (Sh, sL D' 206 0 v.toInt64))))
    (kx : ∀ e D' k, g e = some k → RnX X Y (d + 1) pc ls st (zEx (Sh, D')) (zexn e) (some (.inl (some (.int k)), zEx (Sh, D')))) : Rn X Y (d + 1) pc ls (av.reverse ++ st) (Sh, D) (oW Sh (fW g c)) := by
  rcases c with _ | ⟨e | v, D'⟩
  · exact Rn_none rfl
  · cases hg : g e with
    | none => exact Rn_none (by simp [fW, oW, hg])
    | some k =>
      have e1 : oW Sh (fW g (some (.inl e, D'))) = some (.inl (some (.int k)), zEx (Sh, D')) := by
        simp [fW, oW, hg, shx, zEx]
      rw [e1]
      refine r_call (d2 := 0) hR hS (fun h => by cases h) (fun v M1 h => by cases h) (fun E M1 h => ?_)
      cases h
      refine ⟨⟨Nat.le_succ _, ?_⟩, zGr.same, kx e D' k hg⟩
      show (Sh.1.map (fun q => q.2)).sum + 6 * Sh.2.2 ≤ (Sh.1.map (fun q => q.2)).sum + 6 * (Sh.2.2 + 1)
      omega
  · have e1 : oW Sh (fW g (some (.inr v, D'))) = some (.inl (some (.int 0)), (Sh, sL D' 206 0 v.toInt64)) := rfl
    rw [e1]
    refine r_call (d2 := 0) hR hS (fun h => by cases h) (fun v M1 h => ?_) (fun E M1 h => by cases h)
    cases h
    exact ⟨⟨Nat.le_refl _, Nat.le_refl _⟩, fun o' M' h => by cases h; exact ⟨Nat.le_refl _, Nat.le_refl _⟩, kv _ D'⟩
end ROWS9b

theorem d_L_alphabet_0 : decode (yB m_L_alphabet) 0 = .ok (.aload_n 2, 1) := by decide +kernel
theorem d_L_alphabet_1 : decode (yB m_L_alphabet) 1 = .ok (.iconst 0, 1) := by decide +kernel
theorem d_L_alphabet_2 : decode (yB m_L_alphabet) 2 = .ok (.aload_n 0, 1) := by decide +kernel
theorem d_L_alphabet_3 : decode (yB m_L_alphabet) 3 = .ok (.iload_n 1, 1) := by decide +kernel
theorem d_L_alphabet_4 : decode (yB m_L_alphabet) 4 = .ok (.invokevirtual 7, 3) := by decide +kernel
theorem d_L_alphabet_7 : decode (yB m_L_alphabet) 7 = .ok (.i2l, 1) := by decide +kernel
theorem d_L_alphabet_8 : decode (yB m_L_alphabet) 8 = .ok (.lastore, 1) := by decide +kernel
theorem d_L_alphabet_9 : decode (yB m_L_alphabet) 9 = .ok (.goto 6, 3) := by decide +kernel
theorem d_L_alphabet_12 : decode (yB m_L_alphabet) 12 = .ok (.astore_n 3, 1) := by decide +kernel
theorem d_L_alphabet_13 : decode (yB m_L_alphabet) 13 = .ok (.iconst 1, 1) := by decide +kernel
theorem d_L_alphabet_14 : decode (yB m_L_alphabet) 14 = .ok (.ireturn, 1) := by decide +kernel
theorem d_L_alphabet_15 : decode (yB m_L_alphabet) 15 = .ok (.iconst 0, 1) := by decide +kernel
theorem d_L_alphabet_16 : decode (yB m_L_alphabet) 16 = .ok (.ireturn, 1) := by decide +kernel
def fw_L_alphabet (v1 : Int32) (D : zD) : Option (Int32 × Nat × zD) := fW (wk1 1) (fn_X11_alphabet v1 D)
theorem w_L_alphabet {X : zX} {Sh : zSh} {d : Nat} (hst : (zl X).stackTraces = false) (h0 : zSh0 Sh) (hd : 10 ≤ d) {v1 : Int32}  {D : zD} : Sd X m_L_alphabet d [.ref 0, .int v1, .ref 206] (Sh, D) (oW Sh (fw_L_alphabet v1 D)) := by
  obtain ⟨d, rfl⟩ : ∃ e, d = e + 1 := ⟨d - 1, by omega⟩
  replace hd : 9 ≤ d := by omega
  refine z_bodyH ck_L_alphabet rfl (Nat.le_of_ble_eq_true rfl) rfl hst ?_
  show Rn X m_L_alphabet (d + 1) 0 [(0, .ref 0), (1, .int v1), (2, .ref 206)] [] (Sh, D) _
  unfold fw_L_alphabet
  refine r_aload_n 2 d_L_alphabet_0 rfl rfl ?_
  refine r_iconst (0 : Int32) d_L_alphabet_1 rfl ?_
  refine r_aload_n 0 d_L_alphabet_2 rfl rfl ?_
  refine r_iload_n 1 d_L_alphabet_3 rfl rfl ?_
  refine q_wcall (d2 := 0) (av := [.ref 0, .int v1]) (st := [.int 0, .ref 206]) (z_runV (ci := 11) ck_X11_alphabet rfl ml_L_7 ci_X11_alphabet cv_X11_alphabet (K_0 h0) (T := zT11) rfl rfl (Nat.le_of_ble_eq_true rfl) d_L_alphabet_4) (s_X11_alphabet hst h0 (by omega)) (fun v D1 => ?_) (fun e D1 k hk => ?_)
  · refine r_i2l d_L_alphabet_7 ?_
    refine q_last (j := 0) (K_206 h0) (by unfold vp_in; decide) rfl d_L_alphabet_8 ?_
    refine r_goto 15 d_L_alphabet_9 (by decide) ?_
    refine r_iconst (0 : Int32) d_L_alphabet_15 rfl ?_
    exact r_iret rfl d_L_alphabet_16
  · unfold wk1 at hk
    by_cases h0 : e = 1
    · subst h0
      cases hk
      refine x_catch (name := "java/lang/IllegalArgumentException") 3 [] ⟨0, 9, 12, 13⟩ [] rfl (fun z hz => by cases hz) (by decide) (by decide) cl_L_13 ca_856 rfl (Nat.le_of_ble_eq_true rfl) d_L_alphabet_12 (ls' := [(0, .ref 0), (1, .int v1), (2, .ref 206)]) rfl ?_
      refine r_iconst (1 : Int32) d_L_alphabet_13 rfl ?_
      exact r_iret rfl d_L_alphabet_14
    · simp [h0] at hk
theorem d_L_rule_0 : decode (yB m_L_rule) 0 = .ok (.aload_n 2, 1) := by decide +kernel
theorem d_L_rule_1 : decode (yB m_L_rule) 1 = .ok (.iconst 0, 1) := by decide +kernel
theorem d_L_rule_2 : decode (yB m_L_rule) 2 = .ok (.aload_n 0, 1) := by decide +kernel
theorem d_L_rule_3 : decode (yB m_L_rule) 3 = .ok (.iload_n 1, 1) := by decide +kernel
theorem d_L_rule_4 : decode (yB m_L_rule) 4 = .ok (.invokevirtual 15, 3) := by decide +kernel
theorem d_L_rule_7 : decode (yB m_L_rule) 7 = .ok (.i2l, 1) := by decide +kernel
theorem d_L_rule_8 : decode (yB m_L_rule) 8 = .ok (.lastore, 1) := by decide +kernel
theorem d_L_rule_9 : decode (yB m_L_rule) 9 = .ok (.goto 6, 3) := by decide +kernel
theorem d_L_rule_12 : decode (yB m_L_rule) 12 = .ok (.astore_n 3, 1) := by decide +kernel
theorem d_L_rule_13 : decode (yB m_L_rule) 13 = .ok (.iconst 1, 1) := by decide +kernel
theorem d_L_rule_14 : decode (yB m_L_rule) 14 = .ok (.ireturn, 1) := by decide +kernel
theorem d_L_rule_15 : decode (yB m_L_rule) 15 = .ok (.iconst 0, 1) := by decide +kernel
theorem d_L_rule_16 : decode (yB m_L_rule) 16 = .ok (.ireturn, 1) := by decide +kernel
def fw_L_rule (v1 : Int32) (D : zD) : Option (Int32 × Nat × zD) := fW (wk1 1) (fn_X11_rule v1 D)
theorem w_L_rule {X : zX} {Sh : zSh} {d : Nat} (hst : (zl X).stackTraces = false) (h0 : zSh0 Sh) (hd : 52 ≤ d) {v1 : Int32}  {D : zD} : Sd X m_L_rule d [.ref 0, .int v1, .ref 206] (Sh, D) (oW Sh (fw_L_rule v1 D)) := by
  obtain ⟨d, rfl⟩ : ∃ e, d = e + 1 := ⟨d - 1, by omega⟩
  replace hd : 51 ≤ d := by omega
  refine z_bodyH ck_L_rule rfl (Nat.le_of_ble_eq_true rfl) rfl hst ?_
  show Rn X m_L_rule (d + 1) 0 [(0, .ref 0), (1, .int v1), (2, .ref 206)] [] (Sh, D) _
  unfold fw_L_rule
  refine r_aload_n 2 d_L_rule_0 rfl rfl ?_
  refine r_iconst (0 : Int32) d_L_rule_1 rfl ?_
  refine r_aload_n 0 d_L_rule_2 rfl rfl ?_
  refine r_iload_n 1 d_L_rule_3 rfl rfl ?_
  refine q_wcall (d2 := 0) (av := [.ref 0, .int v1]) (st := [.int 0, .ref 206]) (z_runV (ci := 11) ck_X11_rule rfl ml_L_15 ci_X11_rule cv_X11_rule (K_0 h0) (T := zT11) rfl rfl (Nat.le_of_ble_eq_true rfl) d_L_rule_4) (s_X11_rule hst h0 (by omega)) (fun v D1 => ?_) (fun e D1 k hk => ?_)
  · refine r_i2l d_L_rule_7 ?_
    refine q_last (j := 0) (K_206 h0) (by unfold vp_in; decide) rfl d_L_rule_8 ?_
    refine r_goto 15 d_L_rule_9 (by decide) ?_
    refine r_iconst (0 : Int32) d_L_rule_15 rfl ?_
    exact r_iret rfl d_L_rule_16
  · unfold wk1 at hk
    by_cases h0 : e = 1
    · subst h0
      cases hk
      refine x_catch (name := "java/lang/IllegalArgumentException") 3 [] ⟨0, 9, 12, 13⟩ [] rfl (fun z hz => by cases hz) (by decide) (by decide) cl_L_13 ca_856 rfl (Nat.le_of_ble_eq_true rfl) d_L_rule_12 (ls' := [(0, .ref 0), (1, .int v1), (2, .ref 206)]) rfl ?_
      refine r_iconst (1 : Int32) d_L_rule_13 rfl ?_
      exact r_iret rfl d_L_rule_14
    · simp [h0] at hk
theorem d_L_told_0 : decode (yB m_L_told) 0 = .ok (.aload_n 2, 1) := by decide +kernel
theorem d_L_told_1 : decode (yB m_L_told) 1 = .ok (.iconst 0, 1) := by decide +kernel
theorem d_L_told_2 : decode (yB m_L_told) 2 = .ok (.aload_n 0, 1) := by decide +kernel
theorem d_L_told_3 : decode (yB m_L_told) 3 = .ok (.iload_n 1, 1) := by decide +kernel
theorem d_L_told_4 : decode (yB m_L_told) 4 = .ok (.invokevirtual 18, 3) := by decide +kernel
theorem d_L_told_7 : decode (yB m_L_told) 7 = .ok (.i2l, 1) := by decide +kernel
theorem d_L_told_8 : decode (yB m_L_told) 8 = .ok (.lastore, 1) := by decide +kernel
theorem d_L_told_9 : decode (yB m_L_told) 9 = .ok (.goto 6, 3) := by decide +kernel
theorem d_L_told_12 : decode (yB m_L_told) 12 = .ok (.astore_n 3, 1) := by decide +kernel
theorem d_L_told_13 : decode (yB m_L_told) 13 = .ok (.iconst 1, 1) := by decide +kernel
theorem d_L_told_14 : decode (yB m_L_told) 14 = .ok (.ireturn, 1) := by decide +kernel
theorem d_L_told_15 : decode (yB m_L_told) 15 = .ok (.iconst 0, 1) := by decide +kernel
theorem d_L_told_16 : decode (yB m_L_told) 16 = .ok (.ireturn, 1) := by decide +kernel
def fw_L_told (v1 : Int32) (D : zD) : Option (Int32 × Nat × zD) := fW (wk1 1) (wP D (fn_X11_told v1 D))
theorem w_L_told {X : zX} {Sh : zSh} {d : Nat} (hst : (zl X).stackTraces = false) (h0 : zSh0 Sh) (hd : 9 ≤ d) {v1 : Int32}  {D : zD} : Sd X m_L_told d [.ref 0, .int v1, .ref 206] (Sh, D) (oW Sh (fw_L_told v1 D)) := by
  obtain ⟨d, rfl⟩ : ∃ e, d = e + 1 := ⟨d - 1, by omega⟩
  replace hd : 8 ≤ d := by omega
  refine z_bodyH ck_L_told rfl (Nat.le_of_ble_eq_true rfl) rfl hst ?_
  show Rn X m_L_told (d + 1) 0 [(0, .ref 0), (1, .int v1), (2, .ref 206)] [] (Sh, D) _
  unfold fw_L_told
  refine r_aload_n 2 d_L_told_0 rfl rfl ?_
  refine r_iconst (0 : Int32) d_L_told_1 rfl ?_
  refine r_aload_n 0 d_L_told_2 rfl rfl ?_
  refine r_iload_n 1 d_L_told_3 rfl rfl ?_
  refine q_wcall (d2 := 0) (av := [.ref 0, .int v1]) (st := [.int 0, .ref 206]) (z_runV (ci := 11) ck_X11_told rfl ml_L_18 ci_X11_told cv_X11_told (K_0 h0) (T := zT11) rfl rfl (Nat.le_of_ble_eq_true rfl) d_L_told_4) (by rw [← wP_eq]; exact s_X11_told hst h0 (by omega)) (fun v D1 => ?_) (fun e D1 k hk => ?_)
  · refine r_i2l d_L_told_7 ?_
    refine q_last (j := 0) (K_206 h0) (by unfold vp_in; decide) rfl d_L_told_8 ?_
    refine r_goto 15 d_L_told_9 (by decide) ?_
    refine r_iconst (0 : Int32) d_L_told_15 rfl ?_
    exact r_iret rfl d_L_told_16
  · unfold wk1 at hk
    by_cases h0 : e = 1
    · subst h0
      cases hk
      refine x_catch (name := "java/lang/IllegalArgumentException") 3 [] ⟨0, 9, 12, 13⟩ [] rfl (fun z hz => by cases hz) (by decide) (by decide) cl_L_13 ca_856 rfl (Nat.le_of_ble_eq_true rfl) d_L_told_12 (ls' := [(0, .ref 0), (1, .int v1), (2, .ref 206)]) rfl ?_
      refine r_iconst (1 : Int32) d_L_told_13 rfl ?_
      exact r_iret rfl d_L_told_14
    · simp [h0] at hk
theorem d_L_sign_0 : decode (yB m_L_sign) 0 = .ok (.aload_n 2, 1) := by decide +kernel
theorem d_L_sign_1 : decode (yB m_L_sign) 1 = .ok (.iconst 0, 1) := by decide +kernel
theorem d_L_sign_2 : decode (yB m_L_sign) 2 = .ok (.aload_n 0, 1) := by decide +kernel
theorem d_L_sign_3 : decode (yB m_L_sign) 3 = .ok (.iload_n 1, 1) := by decide +kernel
theorem d_L_sign_4 : decode (yB m_L_sign) 4 = .ok (.invokevirtual 21, 3) := by decide +kernel
theorem d_L_sign_7 : decode (yB m_L_sign) 7 = .ok (.i2l, 1) := by decide +kernel
theorem d_L_sign_8 : decode (yB m_L_sign) 8 = .ok (.lastore, 1) := by decide +kernel
theorem d_L_sign_9 : decode (yB m_L_sign) 9 = .ok (.goto 6, 3) := by decide +kernel
theorem d_L_sign_12 : decode (yB m_L_sign) 12 = .ok (.astore_n 3, 1) := by decide +kernel
theorem d_L_sign_13 : decode (yB m_L_sign) 13 = .ok (.iconst 1, 1) := by decide +kernel
theorem d_L_sign_14 : decode (yB m_L_sign) 14 = .ok (.ireturn, 1) := by decide +kernel
theorem d_L_sign_15 : decode (yB m_L_sign) 15 = .ok (.iconst 0, 1) := by decide +kernel
theorem d_L_sign_16 : decode (yB m_L_sign) 16 = .ok (.ireturn, 1) := by decide +kernel
def fw_L_sign (v1 : Int32) (D : zD) : Option (Int32 × Nat × zD) := fW (wk1 3) (wP D (fn_X11_sign v1 D))
theorem w_L_sign {X : zX} {Sh : zSh} {d : Nat} (hst : (zl X).stackTraces = false) (h0 : zSh0 Sh) (hd : 10 ≤ d) {v1 : Int32}  {D : zD} : Sd X m_L_sign d [.ref 0, .int v1, .ref 206] (Sh, D) (oW Sh (fw_L_sign v1 D)) := by
  obtain ⟨d, rfl⟩ : ∃ e, d = e + 1 := ⟨d - 1, by omega⟩
  replace hd : 9 ≤ d := by omega
  refine z_bodyH ck_L_sign rfl (Nat.le_of_ble_eq_true rfl) rfl hst ?_
  show Rn X m_L_sign (d + 1) 0 [(0, .ref 0), (1, .int v1), (2, .ref 206)] [] (Sh, D) _
  unfold fw_L_sign
  refine r_aload_n 2 d_L_sign_0 rfl rfl ?_
  refine r_iconst (0 : Int32) d_L_sign_1 rfl ?_
  refine r_aload_n 0 d_L_sign_2 rfl rfl ?_
  refine r_iload_n 1 d_L_sign_3 rfl rfl ?_
  refine q_wcall (d2 := 0) (av := [.ref 0, .int v1]) (st := [.int 0, .ref 206]) (z_runV (ci := 11) ck_X11_sign rfl ml_L_21 ci_X11_sign cv_X11_sign (K_0 h0) (T := zT11) rfl rfl (Nat.le_of_ble_eq_true rfl) d_L_sign_4) (by rw [← wP_eq]; exact s_X11_sign hst h0 (by omega)) (fun v D1 => ?_) (fun e D1 k hk => ?_)
  · refine r_i2l d_L_sign_7 ?_
    refine q_last (j := 0) (K_206 h0) (by unfold vp_in; decide) rfl d_L_sign_8 ?_
    refine r_goto 15 d_L_sign_9 (by decide) ?_
    refine r_iconst (0 : Int32) d_L_sign_15 rfl ?_
    exact r_iret rfl d_L_sign_16
  · unfold wk1 at hk
    by_cases h0 : e = 3
    · subst h0
      cases hk
      refine x_catch (name := "java/util/NoSuchElementException") 3 [] ⟨0, 9, 12, 24⟩ [] rfl (fun z hz => by cases hz) (by decide) (by decide) cl_L_24 ca_1261 rfl (Nat.le_of_ble_eq_true rfl) d_L_sign_12 (ls' := [(0, .ref 0), (1, .int v1), (2, .ref 206)]) rfl ?_
      refine r_iconst (1 : Int32) d_L_sign_13 rfl ?_
      exact r_iret rfl d_L_sign_14
    · simp [h0] at hk
theorem d_L_family_0 : decode (yB m_L_family) 0 = .ok (.aload_n 2, 1) := by decide +kernel
theorem d_L_family_1 : decode (yB m_L_family) 1 = .ok (.iconst 0, 1) := by decide +kernel
theorem d_L_family_2 : decode (yB m_L_family) 2 = .ok (.aload_n 0, 1) := by decide +kernel
theorem d_L_family_3 : decode (yB m_L_family) 3 = .ok (.iload_n 1, 1) := by decide +kernel
theorem d_L_family_4 : decode (yB m_L_family) 4 = .ok (.invokevirtual 26, 3) := by decide +kernel
theorem d_L_family_7 : decode (yB m_L_family) 7 = .ok (.i2l, 1) := by decide +kernel
theorem d_L_family_8 : decode (yB m_L_family) 8 = .ok (.lastore, 1) := by decide +kernel
theorem d_L_family_9 : decode (yB m_L_family) 9 = .ok (.goto 6, 3) := by decide +kernel
theorem d_L_family_12 : decode (yB m_L_family) 12 = .ok (.astore_n 3, 1) := by decide +kernel
theorem d_L_family_13 : decode (yB m_L_family) 13 = .ok (.iconst 1, 1) := by decide +kernel
theorem d_L_family_14 : decode (yB m_L_family) 14 = .ok (.ireturn, 1) := by decide +kernel
theorem d_L_family_15 : decode (yB m_L_family) 15 = .ok (.iconst 0, 1) := by decide +kernel
theorem d_L_family_16 : decode (yB m_L_family) 16 = .ok (.ireturn, 1) := by decide +kernel
def fw_L_family (v1 : Int32) (D : zD) : Option (Int32 × Nat × zD) := fW (wk1 3) (wP D (fn_X11_family v1 D))
theorem w_L_family {X : zX} {Sh : zSh} {d : Nat} (hst : (zl X).stackTraces = false) (h0 : zSh0 Sh) (hd : 10 ≤ d) {v1 : Int32}  {D : zD} : Sd X m_L_family d [.ref 0, .int v1, .ref 206] (Sh, D) (oW Sh (fw_L_family v1 D)) := by
  obtain ⟨d, rfl⟩ : ∃ e, d = e + 1 := ⟨d - 1, by omega⟩
  replace hd : 9 ≤ d := by omega
  refine z_bodyH ck_L_family rfl (Nat.le_of_ble_eq_true rfl) rfl hst ?_
  show Rn X m_L_family (d + 1) 0 [(0, .ref 0), (1, .int v1), (2, .ref 206)] [] (Sh, D) _
  unfold fw_L_family
  refine r_aload_n 2 d_L_family_0 rfl rfl ?_
  refine r_iconst (0 : Int32) d_L_family_1 rfl ?_
  refine r_aload_n 0 d_L_family_2 rfl rfl ?_
  refine r_iload_n 1 d_L_family_3 rfl rfl ?_
  refine q_wcall (d2 := 0) (av := [.ref 0, .int v1]) (st := [.int 0, .ref 206]) (z_runV (ci := 11) ck_X11_family rfl ml_L_26 ci_X11_family cv_X11_family (K_0 h0) (T := zT11) rfl rfl (Nat.le_of_ble_eq_true rfl) d_L_family_4) (by rw [← wP_eq]; exact s_X11_family hst h0 (by omega)) (fun v D1 => ?_) (fun e D1 k hk => ?_)
  · refine r_i2l d_L_family_7 ?_
    refine q_last (j := 0) (K_206 h0) (by unfold vp_in; decide) rfl d_L_family_8 ?_
    refine r_goto 15 d_L_family_9 (by decide) ?_
    refine r_iconst (0 : Int32) d_L_family_15 rfl ?_
    exact r_iret rfl d_L_family_16
  · unfold wk1 at hk
    by_cases h0 : e = 3
    · subst h0
      cases hk
      refine x_catch (name := "java/util/NoSuchElementException") 3 [] ⟨0, 9, 12, 24⟩ [] rfl (fun z hz => by cases hz) (by decide) (by decide) cl_L_24 ca_1261 rfl (Nat.le_of_ble_eq_true rfl) d_L_family_12 (ls' := [(0, .ref 0), (1, .int v1), (2, .ref 206)]) rfl ?_
      refine r_iconst (1 : Int32) d_L_family_13 rfl ?_
      exact r_iret rfl d_L_family_14
    · simp [h0] at hk
theorem d_L_word_0 : decode (yB m_L_word) 0 = .ok (.aload_n 3, 1) := by decide +kernel
theorem d_L_word_1 : decode (yB m_L_word) 1 = .ok (.iconst 0, 1) := by decide +kernel
theorem d_L_word_2 : decode (yB m_L_word) 2 = .ok (.aload_n 0, 1) := by decide +kernel
theorem d_L_word_3 : decode (yB m_L_word) 3 = .ok (.iload_n 1, 1) := by decide +kernel
theorem d_L_word_4 : decode (yB m_L_word) 4 = .ok (.iload_n 2, 1) := by decide +kernel
theorem d_L_word_5 : decode (yB m_L_word) 5 = .ok (.invokevirtual 29, 3) := by decide +kernel
theorem d_L_word_8 : decode (yB m_L_word) 8 = .ok (.i2l, 1) := by decide +kernel
theorem d_L_word_9 : decode (yB m_L_word) 9 = .ok (.lastore, 1) := by decide +kernel
theorem d_L_word_10 : decode (yB m_L_word) 10 = .ok (.goto 11, 3) := by decide +kernel
theorem d_L_word_13 : decode (yB m_L_word) 13 = .ok (.astore 4, 2) := by decide +kernel
theorem d_L_word_15 : decode (yB m_L_word) 15 = .ok (.iconst 1, 1) := by decide +kernel
theorem d_L_word_16 : decode (yB m_L_word) 16 = .ok (.ireturn, 1) := by decide +kernel
theorem d_L_word_17 : decode (yB m_L_word) 17 = .ok (.astore 4, 2) := by decide +kernel
theorem d_L_word_19 : decode (yB m_L_word) 19 = .ok (.iconst 2, 1) := by decide +kernel
theorem d_L_word_20 : decode (yB m_L_word) 20 = .ok (.ireturn, 1) := by decide +kernel
theorem d_L_word_21 : decode (yB m_L_word) 21 = .ok (.iconst 0, 1) := by decide +kernel
theorem d_L_word_22 : decode (yB m_L_word) 22 = .ok (.ireturn, 1) := by decide +kernel
def fw_L_word (v1 : Int32) (v2 : Int32) (D : zD) : Option (Int32 × Nat × zD) := fW (wk2 2 1) (wP D (fn_X11_word v1 v2 D))
theorem w_L_word {X : zX} {Sh : zSh} {d : Nat} (hst : (zl X).stackTraces = false) (h0 : zSh0 Sh) (hd : 9 ≤ d) {v1 : Int32} {v2 : Int32}  {D : zD} : Sd X m_L_word d [.ref 0, .int v1, .int v2, .ref 206] (Sh, D) (oW Sh (fw_L_word v1 v2 D)) := by
  obtain ⟨d, rfl⟩ : ∃ e, d = e + 1 := ⟨d - 1, by omega⟩
  replace hd : 8 ≤ d := by omega
  refine z_bodyH ck_L_word rfl (Nat.le_of_ble_eq_true rfl) rfl hst ?_
  show Rn X m_L_word (d + 1) 0 [(0, .ref 0), (1, .int v1), (2, .int v2), (3, .ref 206)] [] (Sh, D) _
  unfold fw_L_word
  refine r_aload_n 3 d_L_word_0 rfl rfl ?_
  refine r_iconst (0 : Int32) d_L_word_1 rfl ?_
  refine r_aload_n 0 d_L_word_2 rfl rfl ?_
  refine r_iload_n 1 d_L_word_3 rfl rfl ?_
  refine r_iload_n 2 d_L_word_4 rfl rfl ?_
  refine q_wcall (d2 := 0) (av := [.ref 0, .int v1, .int v2]) (st := [.int 0, .ref 206]) (z_runV (ci := 11) ck_X11_word rfl ml_L_29 ci_X11_word cv_X11_word (K_0 h0) (T := zT11) rfl rfl (Nat.le_of_ble_eq_true rfl) d_L_word_5) (by rw [← wP_eq]; exact s_X11_word hst h0 (by omega)) (fun v D1 => ?_) (fun e D1 k hk => ?_)
  · refine r_i2l d_L_word_8 ?_
    refine q_last (j := 0) (K_206 h0) (by unfold vp_in; decide) rfl d_L_word_9 ?_
    refine r_goto 21 d_L_word_10 (by decide) ?_
    refine r_iconst (0 : Int32) d_L_word_21 rfl ?_
    exact r_iret rfl d_L_word_22
  · unfold wk2 at hk
    by_cases h0 : e = 2
    · subst h0
      cases hk
      refine x_catchW (name := "java/lang/IndexOutOfBoundsException") 4 [] ⟨0, 10, 13, 33⟩ [⟨0, 10, 17, 13⟩] rfl (fun z hz => by cases hz) (by decide) (by decide) cl_L_33 ca_1293 (Nat.le_of_ble_eq_true rfl) d_L_word_13 (ls' := [(0, .ref 0), (1, .int v1), (2, .int v2), (3, .ref 206)]) rfl ?_
      refine r_iconst (1 : Int32) d_L_word_15 rfl ?_
      exact r_iret rfl d_L_word_16
    rw [if_neg h0] at hk
    by_cases h1 : e = 1
    · subst h1
      cases hk
      refine x_catchW (name := "java/lang/IllegalArgumentException") 4 [⟨0, 10, 13, 33⟩] ⟨0, 10, 17, 13⟩ [] rfl (fun z hz => by rw [List.mem_singleton.mp hz]; exact Or.inr ⟨by decide, "java/lang/IndexOutOfBoundsException", cl_L_33, by decide⟩) (by decide) (by decide) cl_L_13 ca_856 (Nat.le_of_ble_eq_true rfl) d_L_word_17 (ls' := [(0, .ref 0), (1, .int v1), (2, .int v2), (3, .ref 206)]) rfl ?_
      refine r_iconst (2 : Int32) d_L_word_19 rfl ?_
      exact r_iret rfl d_L_word_20
    · simp [h0, h1] at hk
theorem d_L_cover_0 : decode (yB m_L_cover) 0 = .ok (.aload_n 2, 1) := by decide +kernel
theorem d_L_cover_1 : decode (yB m_L_cover) 1 = .ok (.iconst 0, 1) := by decide +kernel
theorem d_L_cover_2 : decode (yB m_L_cover) 2 = .ok (.aload_n 0, 1) := by decide +kernel
theorem d_L_cover_3 : decode (yB m_L_cover) 3 = .ok (.iload_n 1, 1) := by decide +kernel
theorem d_L_cover_4 : decode (yB m_L_cover) 4 = .ok (.invokevirtual 35, 3) := by decide +kernel
theorem d_L_cover_7 : decode (yB m_L_cover) 7 = .ok (.i2l, 1) := by decide +kernel
theorem d_L_cover_8 : decode (yB m_L_cover) 8 = .ok (.lastore, 1) := by decide +kernel
theorem d_L_cover_9 : decode (yB m_L_cover) 9 = .ok (.goto 6, 3) := by decide +kernel
theorem d_L_cover_12 : decode (yB m_L_cover) 12 = .ok (.astore_n 3, 1) := by decide +kernel
theorem d_L_cover_13 : decode (yB m_L_cover) 13 = .ok (.iconst 1, 1) := by decide +kernel
theorem d_L_cover_14 : decode (yB m_L_cover) 14 = .ok (.ireturn, 1) := by decide +kernel
theorem d_L_cover_15 : decode (yB m_L_cover) 15 = .ok (.iconst 0, 1) := by decide +kernel
theorem d_L_cover_16 : decode (yB m_L_cover) 16 = .ok (.ireturn, 1) := by decide +kernel
def fw_L_cover (v1 : Int32) (D : zD) : Option (Int32 × Nat × zD) := fW (wk1 2) (wP D (fn_X11_cover v1 D))
theorem w_L_cover {X : zX} {Sh : zSh} {d : Nat} (hst : (zl X).stackTraces = false) (h0 : zSh0 Sh) (hd : 10 ≤ d) {v1 : Int32}  {D : zD} : Sd X m_L_cover d [.ref 0, .int v1, .ref 206] (Sh, D) (oW Sh (fw_L_cover v1 D)) := by
  obtain ⟨d, rfl⟩ : ∃ e, d = e + 1 := ⟨d - 1, by omega⟩
  replace hd : 9 ≤ d := by omega
  refine z_bodyH ck_L_cover rfl (Nat.le_of_ble_eq_true rfl) rfl hst ?_
  show Rn X m_L_cover (d + 1) 0 [(0, .ref 0), (1, .int v1), (2, .ref 206)] [] (Sh, D) _
  unfold fw_L_cover
  refine r_aload_n 2 d_L_cover_0 rfl rfl ?_
  refine r_iconst (0 : Int32) d_L_cover_1 rfl ?_
  refine r_aload_n 0 d_L_cover_2 rfl rfl ?_
  refine r_iload_n 1 d_L_cover_3 rfl rfl ?_
  refine q_wcall (d2 := 0) (av := [.ref 0, .int v1]) (st := [.int 0, .ref 206]) (z_runV (ci := 11) ck_X11_cover rfl ml_L_35 ci_X11_cover cv_X11_cover (K_0 h0) (T := zT11) rfl rfl (Nat.le_of_ble_eq_true rfl) d_L_cover_4) (by rw [← wP_eq]; exact s_X11_cover hst h0 (by omega)) (fun v D1 => ?_) (fun e D1 k hk => ?_)
  · refine r_i2l d_L_cover_7 ?_
    refine q_last (j := 0) (K_206 h0) (by unfold vp_in; decide) rfl d_L_cover_8 ?_
    refine r_goto 15 d_L_cover_9 (by decide) ?_
    refine r_iconst (0 : Int32) d_L_cover_15 rfl ?_
    exact r_iret rfl d_L_cover_16
  · unfold wk1 at hk
    by_cases h0 : e = 2
    · subst h0
      cases hk
      refine x_catch (name := "java/lang/IndexOutOfBoundsException") 3 [] ⟨0, 9, 12, 33⟩ [] rfl (fun z hz => by cases hz) (by decide) (by decide) cl_L_33 ca_1293 rfl (Nat.le_of_ble_eq_true rfl) d_L_cover_12 (ls' := [(0, .ref 0), (1, .int v1), (2, .ref 206)]) rfl ?_
      refine r_iconst (1 : Int32) d_L_cover_13 rfl ?_
      exact r_iret rfl d_L_cover_14
    · simp [h0] at hk
theorem d_L_dirt_0 : decode (yB m_L_dirt) 0 = .ok (.aload_n 2, 1) := by decide +kernel
theorem d_L_dirt_1 : decode (yB m_L_dirt) 1 = .ok (.iconst 0, 1) := by decide +kernel
theorem d_L_dirt_2 : decode (yB m_L_dirt) 2 = .ok (.aload_n 0, 1) := by decide +kernel
theorem d_L_dirt_3 : decode (yB m_L_dirt) 3 = .ok (.iload_n 1, 1) := by decide +kernel
theorem d_L_dirt_4 : decode (yB m_L_dirt) 4 = .ok (.invokevirtual 38, 3) := by decide +kernel
theorem d_L_dirt_7 : decode (yB m_L_dirt) 7 = .ok (.i2l, 1) := by decide +kernel
theorem d_L_dirt_8 : decode (yB m_L_dirt) 8 = .ok (.lastore, 1) := by decide +kernel
theorem d_L_dirt_9 : decode (yB m_L_dirt) 9 = .ok (.goto 6, 3) := by decide +kernel
theorem d_L_dirt_12 : decode (yB m_L_dirt) 12 = .ok (.astore_n 3, 1) := by decide +kernel
theorem d_L_dirt_13 : decode (yB m_L_dirt) 13 = .ok (.iconst 1, 1) := by decide +kernel
theorem d_L_dirt_14 : decode (yB m_L_dirt) 14 = .ok (.ireturn, 1) := by decide +kernel
theorem d_L_dirt_15 : decode (yB m_L_dirt) 15 = .ok (.iconst 0, 1) := by decide +kernel
theorem d_L_dirt_16 : decode (yB m_L_dirt) 16 = .ok (.ireturn, 1) := by decide +kernel
def fw_L_dirt (v1 : Int32) (D : zD) : Option (Int32 × Nat × zD) := fW (wk1 1) (fn_X11_dirt v1 D)
theorem w_L_dirt {X : zX} {Sh : zSh} {d : Nat} (hst : (zl X).stackTraces = false) (h0 : zSh0 Sh) (hd : 9 ≤ d) {v1 : Int32}  {D : zD} : Sd X m_L_dirt d [.ref 0, .int v1, .ref 206] (Sh, D) (oW Sh (fw_L_dirt v1 D)) := by
  obtain ⟨d, rfl⟩ : ∃ e, d = e + 1 := ⟨d - 1, by omega⟩
  replace hd : 8 ≤ d := by omega
  refine z_bodyH ck_L_dirt rfl (Nat.le_of_ble_eq_true rfl) rfl hst ?_
  show Rn X m_L_dirt (d + 1) 0 [(0, .ref 0), (1, .int v1), (2, .ref 206)] [] (Sh, D) _
  unfold fw_L_dirt
  refine r_aload_n 2 d_L_dirt_0 rfl rfl ?_
  refine r_iconst (0 : Int32) d_L_dirt_1 rfl ?_
  refine r_aload_n 0 d_L_dirt_2 rfl rfl ?_
  refine r_iload_n 1 d_L_dirt_3 rfl rfl ?_
  refine q_wcall (d2 := 0) (av := [.ref 0, .int v1]) (st := [.int 0, .ref 206]) (z_runV (ci := 11) ck_X11_dirt rfl ml_L_38 ci_X11_dirt cv_X11_dirt (K_0 h0) (T := zT11) rfl rfl (Nat.le_of_ble_eq_true rfl) d_L_dirt_4) (s_X11_dirt hst h0 (by omega)) (fun v D1 => ?_) (fun e D1 k hk => ?_)
  · refine r_i2l d_L_dirt_7 ?_
    refine q_last (j := 0) (K_206 h0) (by unfold vp_in; decide) rfl d_L_dirt_8 ?_
    refine r_goto 15 d_L_dirt_9 (by decide) ?_
    refine r_iconst (0 : Int32) d_L_dirt_15 rfl ?_
    exact r_iret rfl d_L_dirt_16
  · unfold wk1 at hk
    by_cases h0 : e = 1
    · subst h0
      cases hk
      refine x_catch (name := "java/lang/IllegalArgumentException") 3 [] ⟨0, 9, 12, 13⟩ [] rfl (fun z hz => by cases hz) (by decide) (by decide) cl_L_13 ca_856 rfl (Nat.le_of_ble_eq_true rfl) d_L_dirt_12 (ls' := [(0, .ref 0), (1, .int v1), (2, .ref 206)]) rfl ?_
      refine r_iconst (1 : Int32) d_L_dirt_13 rfl ?_
      exact r_iret rfl d_L_dirt_14
    · simp [h0] at hk
theorem d_L_confused_0 : decode (yB m_L_confused) 0 = .ok (.aload_n 3, 1) := by decide +kernel
theorem d_L_confused_1 : decode (yB m_L_confused) 1 = .ok (.iconst 0, 1) := by decide +kernel
theorem d_L_confused_2 : decode (yB m_L_confused) 2 = .ok (.aload_n 0, 1) := by decide +kernel
theorem d_L_confused_3 : decode (yB m_L_confused) 3 = .ok (.iload_n 1, 1) := by decide +kernel
theorem d_L_confused_4 : decode (yB m_L_confused) 4 = .ok (.iload_n 2, 1) := by decide +kernel
theorem d_L_confused_5 : decode (yB m_L_confused) 5 = .ok (.invokevirtual 41, 3) := by decide +kernel
theorem d_L_confused_8 : decode (yB m_L_confused) 8 = .ok (.i2l, 1) := by decide +kernel
theorem d_L_confused_9 : decode (yB m_L_confused) 9 = .ok (.lastore, 1) := by decide +kernel
theorem d_L_confused_10 : decode (yB m_L_confused) 10 = .ok (.goto 11, 3) := by decide +kernel
theorem d_L_confused_13 : decode (yB m_L_confused) 13 = .ok (.astore 4, 2) := by decide +kernel
theorem d_L_confused_15 : decode (yB m_L_confused) 15 = .ok (.iconst 1, 1) := by decide +kernel
theorem d_L_confused_16 : decode (yB m_L_confused) 16 = .ok (.ireturn, 1) := by decide +kernel
theorem d_L_confused_17 : decode (yB m_L_confused) 17 = .ok (.astore 4, 2) := by decide +kernel
theorem d_L_confused_19 : decode (yB m_L_confused) 19 = .ok (.iconst 2, 1) := by decide +kernel
theorem d_L_confused_20 : decode (yB m_L_confused) 20 = .ok (.ireturn, 1) := by decide +kernel
theorem d_L_confused_21 : decode (yB m_L_confused) 21 = .ok (.iconst 0, 1) := by decide +kernel
theorem d_L_confused_22 : decode (yB m_L_confused) 22 = .ok (.ireturn, 1) := by decide +kernel
def fw_L_confused (v1 : Int32) (v2 : Int32) (D : zD) : Option (Int32 × Nat × zD) := fW (wk2 3 1) (wP D (fn_X11_confused v1 v2 D))
theorem w_L_confused {X : zX} {Sh : zSh} {d : Nat} (hst : (zl X).stackTraces = false) (h0 : zSh0 Sh) (hd : 10 ≤ d) {v1 : Int32} {v2 : Int32}  {D : zD} : Sd X m_L_confused d [.ref 0, .int v1, .int v2, .ref 206] (Sh, D) (oW Sh (fw_L_confused v1 v2 D)) := by
  obtain ⟨d, rfl⟩ : ∃ e, d = e + 1 := ⟨d - 1, by omega⟩
  replace hd : 9 ≤ d := by omega
  refine z_bodyH ck_L_confused rfl (Nat.le_of_ble_eq_true rfl) rfl hst ?_
  show Rn X m_L_confused (d + 1) 0 [(0, .ref 0), (1, .int v1), (2, .int v2), (3, .ref 206)] [] (Sh, D) _
  unfold fw_L_confused
  refine r_aload_n 3 d_L_confused_0 rfl rfl ?_
  refine r_iconst (0 : Int32) d_L_confused_1 rfl ?_
  refine r_aload_n 0 d_L_confused_2 rfl rfl ?_
  refine r_iload_n 1 d_L_confused_3 rfl rfl ?_
  refine r_iload_n 2 d_L_confused_4 rfl rfl ?_
  refine q_wcall (d2 := 0) (av := [.ref 0, .int v1, .int v2]) (st := [.int 0, .ref 206]) (z_runV (ci := 11) ck_X11_confused rfl ml_L_41 ci_X11_confused cv_X11_confused (K_0 h0) (T := zT11) rfl rfl (Nat.le_of_ble_eq_true rfl) d_L_confused_5) (by rw [← wP_eq]; exact s_X11_confused hst h0 (by omega)) (fun v D1 => ?_) (fun e D1 k hk => ?_)
  · refine r_i2l d_L_confused_8 ?_
    refine q_last (j := 0) (K_206 h0) (by unfold vp_in; decide) rfl d_L_confused_9 ?_
    refine r_goto 21 d_L_confused_10 (by decide) ?_
    refine r_iconst (0 : Int32) d_L_confused_21 rfl ?_
    exact r_iret rfl d_L_confused_22
  · unfold wk2 at hk
    by_cases h0 : e = 3
    · subst h0
      cases hk
      refine x_catchW (name := "java/util/NoSuchElementException") 4 [] ⟨0, 10, 13, 24⟩ [⟨0, 10, 17, 13⟩] rfl (fun z hz => by cases hz) (by decide) (by decide) cl_L_24 ca_1261 (Nat.le_of_ble_eq_true rfl) d_L_confused_13 (ls' := [(0, .ref 0), (1, .int v1), (2, .int v2), (3, .ref 206)]) rfl ?_
      refine r_iconst (1 : Int32) d_L_confused_15 rfl ?_
      exact r_iret rfl d_L_confused_16
    rw [if_neg h0] at hk
    by_cases h1 : e = 1
    · subst h1
      cases hk
      refine x_catchW (name := "java/lang/IllegalArgumentException") 4 [⟨0, 10, 13, 24⟩] ⟨0, 10, 17, 13⟩ [] rfl (fun z hz => by rw [List.mem_singleton.mp hz]; exact Or.inr ⟨by decide, "java/util/NoSuchElementException", cl_L_24, by decide⟩) (by decide) (by decide) cl_L_13 ca_856 (Nat.le_of_ble_eq_true rfl) d_L_confused_17 (ls' := [(0, .ref 0), (1, .int v1), (2, .int v2), (3, .ref 206)]) rfl ?_
      refine r_iconst (2 : Int32) d_L_confused_19 rfl ?_
      exact r_iret rfl d_L_confused_20
    · simp [h0, h1] at hk
theorem d_L_blind_0 : decode (yB m_L_blind) 0 = .ok (.aload_n 2, 1) := by decide +kernel
theorem d_L_blind_1 : decode (yB m_L_blind) 1 = .ok (.iconst 0, 1) := by decide +kernel
theorem d_L_blind_2 : decode (yB m_L_blind) 2 = .ok (.aload_n 0, 1) := by decide +kernel
theorem d_L_blind_3 : decode (yB m_L_blind) 3 = .ok (.iload_n 1, 1) := by decide +kernel
theorem d_L_blind_4 : decode (yB m_L_blind) 4 = .ok (.invokevirtual 44, 3) := by decide +kernel
theorem d_L_blind_7 : decode (yB m_L_blind) 7 = .ok (.i2l, 1) := by decide +kernel
theorem d_L_blind_8 : decode (yB m_L_blind) 8 = .ok (.lastore, 1) := by decide +kernel
theorem d_L_blind_9 : decode (yB m_L_blind) 9 = .ok (.goto 6, 3) := by decide +kernel
theorem d_L_blind_12 : decode (yB m_L_blind) 12 = .ok (.astore_n 3, 1) := by decide +kernel
theorem d_L_blind_13 : decode (yB m_L_blind) 13 = .ok (.iconst 1, 1) := by decide +kernel
theorem d_L_blind_14 : decode (yB m_L_blind) 14 = .ok (.ireturn, 1) := by decide +kernel
theorem d_L_blind_15 : decode (yB m_L_blind) 15 = .ok (.iconst 0, 1) := by decide +kernel
theorem d_L_blind_16 : decode (yB m_L_blind) 16 = .ok (.ireturn, 1) := by decide +kernel
def fw_L_blind (v1 : Int32) (D : zD) : Option (Int32 × Nat × zD) := fW (wk1 1) (fn_X11_blind v1 D)
theorem w_L_blind {X : zX} {Sh : zSh} {d : Nat} (hst : (zl X).stackTraces = false) (h0 : zSh0 Sh) (hd : 10 ≤ d) {v1 : Int32}  {D : zD} : Sd X m_L_blind d [.ref 0, .int v1, .ref 206] (Sh, D) (oW Sh (fw_L_blind v1 D)) := by
  obtain ⟨d, rfl⟩ : ∃ e, d = e + 1 := ⟨d - 1, by omega⟩
  replace hd : 9 ≤ d := by omega
  refine z_bodyH ck_L_blind rfl (Nat.le_of_ble_eq_true rfl) rfl hst ?_
  show Rn X m_L_blind (d + 1) 0 [(0, .ref 0), (1, .int v1), (2, .ref 206)] [] (Sh, D) _
  unfold fw_L_blind
  refine r_aload_n 2 d_L_blind_0 rfl rfl ?_
  refine r_iconst (0 : Int32) d_L_blind_1 rfl ?_
  refine r_aload_n 0 d_L_blind_2 rfl rfl ?_
  refine r_iload_n 1 d_L_blind_3 rfl rfl ?_
  refine q_wcall (d2 := 0) (av := [.ref 0, .int v1]) (st := [.int 0, .ref 206]) (z_runV (ci := 11) ck_X11_blind rfl ml_L_44 ci_X11_blind cv_X11_blind (K_0 h0) (T := zT11) rfl rfl (Nat.le_of_ble_eq_true rfl) d_L_blind_4) (s_X11_blind hst h0 (by omega)) (fun v D1 => ?_) (fun e D1 k hk => ?_)
  · refine r_i2l d_L_blind_7 ?_
    refine q_last (j := 0) (K_206 h0) (by unfold vp_in; decide) rfl d_L_blind_8 ?_
    refine r_goto 15 d_L_blind_9 (by decide) ?_
    refine r_iconst (0 : Int32) d_L_blind_15 rfl ?_
    exact r_iret rfl d_L_blind_16
  · unfold wk1 at hk
    by_cases h0 : e = 1
    · subst h0
      cases hk
      refine x_catch (name := "java/lang/IllegalArgumentException") 3 [] ⟨0, 9, 12, 13⟩ [] rfl (fun z hz => by cases hz) (by decide) (by decide) cl_L_13 ca_856 rfl (Nat.le_of_ble_eq_true rfl) d_L_blind_12 (ls' := [(0, .ref 0), (1, .int v1), (2, .ref 206)]) rfl ?_
      refine r_iconst (1 : Int32) d_L_blind_13 rfl ?_
      exact r_iret rfl d_L_blind_14
    · simp [h0] at hk
theorem d_L_may_0 : decode (yB m_L_may) 0 = .ok (.aload_n 3, 1) := by decide +kernel
theorem d_L_may_1 : decode (yB m_L_may) 1 = .ok (.iconst 0, 1) := by decide +kernel
theorem d_L_may_2 : decode (yB m_L_may) 2 = .ok (.aload_n 0, 1) := by decide +kernel
theorem d_L_may_3 : decode (yB m_L_may) 3 = .ok (.iload_n 1, 1) := by decide +kernel
theorem d_L_may_4 : decode (yB m_L_may) 4 = .ok (.iload_n 2, 1) := by decide +kernel
theorem d_L_may_5 : decode (yB m_L_may) 5 = .ok (.invokevirtual 47, 3) := by decide +kernel
theorem d_L_may_8 : decode (yB m_L_may) 8 = .ok (.i2l, 1) := by decide +kernel
theorem d_L_may_9 : decode (yB m_L_may) 9 = .ok (.lastore, 1) := by decide +kernel
theorem d_L_may_10 : decode (yB m_L_may) 10 = .ok (.goto 11, 3) := by decide +kernel
theorem d_L_may_13 : decode (yB m_L_may) 13 = .ok (.astore 4, 2) := by decide +kernel
theorem d_L_may_15 : decode (yB m_L_may) 15 = .ok (.iconst 1, 1) := by decide +kernel
theorem d_L_may_16 : decode (yB m_L_may) 16 = .ok (.ireturn, 1) := by decide +kernel
theorem d_L_may_17 : decode (yB m_L_may) 17 = .ok (.astore 4, 2) := by decide +kernel
theorem d_L_may_19 : decode (yB m_L_may) 19 = .ok (.iconst 2, 1) := by decide +kernel
theorem d_L_may_20 : decode (yB m_L_may) 20 = .ok (.ireturn, 1) := by decide +kernel
theorem d_L_may_21 : decode (yB m_L_may) 21 = .ok (.iconst 0, 1) := by decide +kernel
theorem d_L_may_22 : decode (yB m_L_may) 22 = .ok (.ireturn, 1) := by decide +kernel
def fw_L_may (v1 : Int32) (v2 : Int32) (D : zD) : Option (Int32 × Nat × zD) := fW (wk2 2 1) (wP D (fn_X11_may v1 v2 D))
theorem w_L_may {X : zX} {Sh : zSh} {d : Nat} (hst : (zl X).stackTraces = false) (h0 : zSh0 Sh) (hd : 11 ≤ d) {v1 : Int32} {v2 : Int32}  {D : zD} : Sd X m_L_may d [.ref 0, .int v1, .int v2, .ref 206] (Sh, D) (oW Sh (fw_L_may v1 v2 D)) := by
  obtain ⟨d, rfl⟩ : ∃ e, d = e + 1 := ⟨d - 1, by omega⟩
  replace hd : 10 ≤ d := by omega
  refine z_bodyH ck_L_may rfl (Nat.le_of_ble_eq_true rfl) rfl hst ?_
  show Rn X m_L_may (d + 1) 0 [(0, .ref 0), (1, .int v1), (2, .int v2), (3, .ref 206)] [] (Sh, D) _
  unfold fw_L_may
  refine r_aload_n 3 d_L_may_0 rfl rfl ?_
  refine r_iconst (0 : Int32) d_L_may_1 rfl ?_
  refine r_aload_n 0 d_L_may_2 rfl rfl ?_
  refine r_iload_n 1 d_L_may_3 rfl rfl ?_
  refine r_iload_n 2 d_L_may_4 rfl rfl ?_
  refine q_wcall (d2 := 0) (av := [.ref 0, .int v1, .int v2]) (st := [.int 0, .ref 206]) (z_runV (ci := 11) ck_X11_may rfl ml_L_47 ci_X11_may cv_X11_may (K_0 h0) (T := zT11) rfl rfl (Nat.le_of_ble_eq_true rfl) d_L_may_5) (by rw [← wP_eq]; exact s_X11_may hst h0 (by omega)) (fun v D1 => ?_) (fun e D1 k hk => ?_)
  · refine r_i2l d_L_may_8 ?_
    refine q_last (j := 0) (K_206 h0) (by unfold vp_in; decide) rfl d_L_may_9 ?_
    refine r_goto 21 d_L_may_10 (by decide) ?_
    refine r_iconst (0 : Int32) d_L_may_21 rfl ?_
    exact r_iret rfl d_L_may_22
  · unfold wk2 at hk
    by_cases h0 : e = 2
    · subst h0
      cases hk
      refine x_catchW (name := "java/lang/IndexOutOfBoundsException") 4 [] ⟨0, 10, 13, 33⟩ [⟨0, 10, 17, 13⟩] rfl (fun z hz => by cases hz) (by decide) (by decide) cl_L_33 ca_1293 (Nat.le_of_ble_eq_true rfl) d_L_may_13 (ls' := [(0, .ref 0), (1, .int v1), (2, .int v2), (3, .ref 206)]) rfl ?_
      refine r_iconst (1 : Int32) d_L_may_15 rfl ?_
      exact r_iret rfl d_L_may_16
    rw [if_neg h0] at hk
    by_cases h1 : e = 1
    · subst h1
      cases hk
      refine x_catchW (name := "java/lang/IllegalArgumentException") 4 [⟨0, 10, 13, 33⟩] ⟨0, 10, 17, 13⟩ [] rfl (fun z hz => by rw [List.mem_singleton.mp hz]; exact Or.inr ⟨by decide, "java/lang/IndexOutOfBoundsException", cl_L_33, by decide⟩) (by decide) (by decide) cl_L_13 ca_856 (Nat.le_of_ble_eq_true rfl) d_L_may_17 (ls' := [(0, .ref 0), (1, .int v1), (2, .int v2), (3, .ref 206)]) rfl ?_
      refine r_iconst (2 : Int32) d_L_may_19 rfl ?_
      exact r_iret rfl d_L_may_20
    · simp [h0, h1] at hk
theorem d_L_read_0 : decode (yB m_L_read) 0 = .ok (.aload_n 3, 1) := by decide +kernel
theorem d_L_read_1 : decode (yB m_L_read) 1 = .ok (.iconst 0, 1) := by decide +kernel
theorem d_L_read_2 : decode (yB m_L_read) 2 = .ok (.aload_n 0, 1) := by decide +kernel
theorem d_L_read_3 : decode (yB m_L_read) 3 = .ok (.iload_n 1, 1) := by decide +kernel
theorem d_L_read_4 : decode (yB m_L_read) 4 = .ok (.iload_n 2, 1) := by decide +kernel
theorem d_L_read_5 : decode (yB m_L_read) 5 = .ok (.invokevirtual 50, 3) := by decide +kernel
theorem d_L_read_8 : decode (yB m_L_read) 8 = .ok (.i2l, 1) := by decide +kernel
theorem d_L_read_9 : decode (yB m_L_read) 9 = .ok (.lastore, 1) := by decide +kernel
theorem d_L_read_10 : decode (yB m_L_read) 10 = .ok (.goto 11, 3) := by decide +kernel
theorem d_L_read_13 : decode (yB m_L_read) 13 = .ok (.astore 4, 2) := by decide +kernel
theorem d_L_read_15 : decode (yB m_L_read) 15 = .ok (.iconst 1, 1) := by decide +kernel
theorem d_L_read_16 : decode (yB m_L_read) 16 = .ok (.ireturn, 1) := by decide +kernel
theorem d_L_read_17 : decode (yB m_L_read) 17 = .ok (.astore 4, 2) := by decide +kernel
theorem d_L_read_19 : decode (yB m_L_read) 19 = .ok (.iconst 2, 1) := by decide +kernel
theorem d_L_read_20 : decode (yB m_L_read) 20 = .ok (.ireturn, 1) := by decide +kernel
theorem d_L_read_21 : decode (yB m_L_read) 21 = .ok (.iconst 0, 1) := by decide +kernel
theorem d_L_read_22 : decode (yB m_L_read) 22 = .ok (.ireturn, 1) := by decide +kernel
def fw_L_read (v1 : Int32) (v2 : Int32) (D : zD) : Option (Int32 × Nat × zD) := fW (wk2 2 1) (wP D (fn_X11_read v1 v2 D))
theorem w_L_read {X : zX} {Sh : zSh} {d : Nat} (hst : (zl X).stackTraces = false) (h0 : zSh0 Sh) (hd : 11 ≤ d) {v1 : Int32} {v2 : Int32}  {D : zD} : Sd X m_L_read d [.ref 0, .int v1, .int v2, .ref 206] (Sh, D) (oW Sh (fw_L_read v1 v2 D)) := by
  obtain ⟨d, rfl⟩ : ∃ e, d = e + 1 := ⟨d - 1, by omega⟩
  replace hd : 10 ≤ d := by omega
  refine z_bodyH ck_L_read rfl (Nat.le_of_ble_eq_true rfl) rfl hst ?_
  show Rn X m_L_read (d + 1) 0 [(0, .ref 0), (1, .int v1), (2, .int v2), (3, .ref 206)] [] (Sh, D) _
  unfold fw_L_read
  refine r_aload_n 3 d_L_read_0 rfl rfl ?_
  refine r_iconst (0 : Int32) d_L_read_1 rfl ?_
  refine r_aload_n 0 d_L_read_2 rfl rfl ?_
  refine r_iload_n 1 d_L_read_3 rfl rfl ?_
  refine r_iload_n 2 d_L_read_4 rfl rfl ?_
  refine q_wcall (d2 := 0) (av := [.ref 0, .int v1, .int v2]) (st := [.int 0, .ref 206]) (z_runV (ci := 11) ck_X11_read rfl ml_L_50 ci_X11_read cv_X11_read (K_0 h0) (T := zT11) rfl rfl (Nat.le_of_ble_eq_true rfl) d_L_read_5) (by rw [← wP_eq]; exact s_X11_read hst h0 (by omega)) (fun v D1 => ?_) (fun e D1 k hk => ?_)
  · refine r_i2l d_L_read_8 ?_
    refine q_last (j := 0) (K_206 h0) (by unfold vp_in; decide) rfl d_L_read_9 ?_
    refine r_goto 21 d_L_read_10 (by decide) ?_
    refine r_iconst (0 : Int32) d_L_read_21 rfl ?_
    exact r_iret rfl d_L_read_22
  · unfold wk2 at hk
    by_cases h0 : e = 2
    · subst h0
      cases hk
      refine x_catchW (name := "java/lang/IndexOutOfBoundsException") 4 [] ⟨0, 10, 13, 33⟩ [⟨0, 10, 17, 13⟩] rfl (fun z hz => by cases hz) (by decide) (by decide) cl_L_33 ca_1293 (Nat.le_of_ble_eq_true rfl) d_L_read_13 (ls' := [(0, .ref 0), (1, .int v1), (2, .int v2), (3, .ref 206)]) rfl ?_
      refine r_iconst (1 : Int32) d_L_read_15 rfl ?_
      exact r_iret rfl d_L_read_16
    rw [if_neg h0] at hk
    by_cases h1 : e = 1
    · subst h1
      cases hk
      refine x_catchW (name := "java/lang/IllegalArgumentException") 4 [⟨0, 10, 13, 33⟩] ⟨0, 10, 17, 13⟩ [] rfl (fun z hz => by rw [List.mem_singleton.mp hz]; exact Or.inr ⟨by decide, "java/lang/IndexOutOfBoundsException", cl_L_33, by decide⟩) (by decide) (by decide) cl_L_13 ca_856 (Nat.le_of_ble_eq_true rfl) d_L_read_17 (ls' := [(0, .ref 0), (1, .int v1), (2, .int v2), (3, .ref 206)]) rfl ?_
      refine r_iconst (2 : Int32) d_L_read_19 rfl ?_
      exact r_iret rfl d_L_read_20
    · simp [h0, h1] at hk
theorem d_L_nearest_0 : decode (yB m_L_nearest) 0 = .ok (.aload_n 3, 1) := by decide +kernel
theorem d_L_nearest_1 : decode (yB m_L_nearest) 1 = .ok (.iconst 0, 1) := by decide +kernel
theorem d_L_nearest_2 : decode (yB m_L_nearest) 2 = .ok (.aload_n 0, 1) := by decide +kernel
theorem d_L_nearest_3 : decode (yB m_L_nearest) 3 = .ok (.iload_n 1, 1) := by decide +kernel
theorem d_L_nearest_4 : decode (yB m_L_nearest) 4 = .ok (.iload_n 2, 1) := by decide +kernel
theorem d_L_nearest_5 : decode (yB m_L_nearest) 5 = .ok (.invokevirtual 53, 3) := by decide +kernel
theorem d_L_nearest_8 : decode (yB m_L_nearest) 8 = .ok (.i2l, 1) := by decide +kernel
theorem d_L_nearest_9 : decode (yB m_L_nearest) 9 = .ok (.lastore, 1) := by decide +kernel
theorem d_L_nearest_10 : decode (yB m_L_nearest) 10 = .ok (.goto 11, 3) := by decide +kernel
theorem d_L_nearest_13 : decode (yB m_L_nearest) 13 = .ok (.astore 4, 2) := by decide +kernel
theorem d_L_nearest_15 : decode (yB m_L_nearest) 15 = .ok (.iconst 1, 1) := by decide +kernel
theorem d_L_nearest_16 : decode (yB m_L_nearest) 16 = .ok (.ireturn, 1) := by decide +kernel
theorem d_L_nearest_17 : decode (yB m_L_nearest) 17 = .ok (.astore 4, 2) := by decide +kernel
theorem d_L_nearest_19 : decode (yB m_L_nearest) 19 = .ok (.iconst 2, 1) := by decide +kernel
theorem d_L_nearest_20 : decode (yB m_L_nearest) 20 = .ok (.ireturn, 1) := by decide +kernel
theorem d_L_nearest_21 : decode (yB m_L_nearest) 21 = .ok (.iconst 0, 1) := by decide +kernel
theorem d_L_nearest_22 : decode (yB m_L_nearest) 22 = .ok (.ireturn, 1) := by decide +kernel
def fw_L_nearest (v1 : Int32) (v2 : Int32) (D : zD) : Option (Int32 × Nat × zD) := fW (wk2 2 1) (wP D (fn_X11_nearest v1 v2 D))
theorem w_L_nearest {X : zX} {Sh : zSh} {d : Nat} (hst : (zl X).stackTraces = false) (h0 : zSh0 Sh) (hd : 11 ≤ d) {v1 : Int32} {v2 : Int32}  {D : zD} : Sd X m_L_nearest d [.ref 0, .int v1, .int v2, .ref 206] (Sh, D) (oW Sh (fw_L_nearest v1 v2 D)) := by
  obtain ⟨d, rfl⟩ : ∃ e, d = e + 1 := ⟨d - 1, by omega⟩
  replace hd : 10 ≤ d := by omega
  refine z_bodyH ck_L_nearest rfl (Nat.le_of_ble_eq_true rfl) rfl hst ?_
  show Rn X m_L_nearest (d + 1) 0 [(0, .ref 0), (1, .int v1), (2, .int v2), (3, .ref 206)] [] (Sh, D) _
  unfold fw_L_nearest
  refine r_aload_n 3 d_L_nearest_0 rfl rfl ?_
  refine r_iconst (0 : Int32) d_L_nearest_1 rfl ?_
  refine r_aload_n 0 d_L_nearest_2 rfl rfl ?_
  refine r_iload_n 1 d_L_nearest_3 rfl rfl ?_
  refine r_iload_n 2 d_L_nearest_4 rfl rfl ?_
  refine q_wcall (d2 := 0) (av := [.ref 0, .int v1, .int v2]) (st := [.int 0, .ref 206]) (z_runV (ci := 11) ck_X11_nearest rfl ml_L_53 ci_X11_nearest cv_X11_nearest (K_0 h0) (T := zT11) rfl rfl (Nat.le_of_ble_eq_true rfl) d_L_nearest_5) (by rw [← wP_eq]; exact s_X11_nearest hst h0 (by omega)) (fun v D1 => ?_) (fun e D1 k hk => ?_)
  · refine r_i2l d_L_nearest_8 ?_
    refine q_last (j := 0) (K_206 h0) (by unfold vp_in; decide) rfl d_L_nearest_9 ?_
    refine r_goto 21 d_L_nearest_10 (by decide) ?_
    refine r_iconst (0 : Int32) d_L_nearest_21 rfl ?_
    exact r_iret rfl d_L_nearest_22
  · unfold wk2 at hk
    by_cases h0 : e = 2
    · subst h0
      cases hk
      refine x_catchW (name := "java/lang/IndexOutOfBoundsException") 4 [] ⟨0, 10, 13, 33⟩ [⟨0, 10, 17, 13⟩] rfl (fun z hz => by cases hz) (by decide) (by decide) cl_L_33 ca_1293 (Nat.le_of_ble_eq_true rfl) d_L_nearest_13 (ls' := [(0, .ref 0), (1, .int v1), (2, .int v2), (3, .ref 206)]) rfl ?_
      refine r_iconst (1 : Int32) d_L_nearest_15 rfl ?_
      exact r_iret rfl d_L_nearest_16
    rw [if_neg h0] at hk
    by_cases h1 : e = 1
    · subst h1
      cases hk
      refine x_catchW (name := "java/lang/IllegalArgumentException") 4 [⟨0, 10, 13, 33⟩] ⟨0, 10, 17, 13⟩ [] rfl (fun z hz => by rw [List.mem_singleton.mp hz]; exact Or.inr ⟨by decide, "java/lang/IndexOutOfBoundsException", cl_L_33, by decide⟩) (by decide) (by decide) cl_L_13 ca_856 (Nat.le_of_ble_eq_true rfl) d_L_nearest_17 (ls' := [(0, .ref 0), (1, .int v1), (2, .int v2), (3, .ref 206)]) rfl ?_
      refine r_iconst (2 : Int32) d_L_nearest_19 rfl ?_
      exact r_iret rfl d_L_nearest_20
    · simp [h0, h1] at hk
theorem d_L_part_0 : decode (yB m_L_part) 0 = .ok (.aload_n 3, 1) := by decide +kernel
theorem d_L_part_1 : decode (yB m_L_part) 1 = .ok (.iconst 0, 1) := by decide +kernel
theorem d_L_part_2 : decode (yB m_L_part) 2 = .ok (.aload_n 0, 1) := by decide +kernel
theorem d_L_part_3 : decode (yB m_L_part) 3 = .ok (.iload_n 1, 1) := by decide +kernel
theorem d_L_part_4 : decode (yB m_L_part) 4 = .ok (.iload_n 2, 1) := by decide +kernel
theorem d_L_part_5 : decode (yB m_L_part) 5 = .ok (.invokevirtual 56, 3) := by decide +kernel
theorem d_L_part_8 : decode (yB m_L_part) 8 = .ok (.i2l, 1) := by decide +kernel
theorem d_L_part_9 : decode (yB m_L_part) 9 = .ok (.lastore, 1) := by decide +kernel
theorem d_L_part_10 : decode (yB m_L_part) 10 = .ok (.goto 11, 3) := by decide +kernel
theorem d_L_part_13 : decode (yB m_L_part) 13 = .ok (.astore 4, 2) := by decide +kernel
theorem d_L_part_15 : decode (yB m_L_part) 15 = .ok (.iconst 1, 1) := by decide +kernel
theorem d_L_part_16 : decode (yB m_L_part) 16 = .ok (.ireturn, 1) := by decide +kernel
theorem d_L_part_17 : decode (yB m_L_part) 17 = .ok (.astore 4, 2) := by decide +kernel
theorem d_L_part_19 : decode (yB m_L_part) 19 = .ok (.iconst 2, 1) := by decide +kernel
theorem d_L_part_20 : decode (yB m_L_part) 20 = .ok (.ireturn, 1) := by decide +kernel
theorem d_L_part_21 : decode (yB m_L_part) 21 = .ok (.iconst 0, 1) := by decide +kernel
theorem d_L_part_22 : decode (yB m_L_part) 22 = .ok (.ireturn, 1) := by decide +kernel
def fw_L_part (v1 : Int32) (v2 : Int32) (D : zD) : Option (Int32 × Nat × zD) := fW (wk2 2 1) (fn_X11_part v1 v2 D)
theorem w_L_part {X : zX} {Sh : zSh} {d : Nat} (hst : (zl X).stackTraces = false) (h0 : zSh0 Sh) (hd : 11 ≤ d) {v1 : Int32} {v2 : Int32}  {D : zD} : Sd X m_L_part d [.ref 0, .int v1, .int v2, .ref 206] (Sh, D) (oW Sh (fw_L_part v1 v2 D)) := by
  obtain ⟨d, rfl⟩ : ∃ e, d = e + 1 := ⟨d - 1, by omega⟩
  replace hd : 10 ≤ d := by omega
  refine z_bodyH ck_L_part rfl (Nat.le_of_ble_eq_true rfl) rfl hst ?_
  show Rn X m_L_part (d + 1) 0 [(0, .ref 0), (1, .int v1), (2, .int v2), (3, .ref 206)] [] (Sh, D) _
  unfold fw_L_part
  refine r_aload_n 3 d_L_part_0 rfl rfl ?_
  refine r_iconst (0 : Int32) d_L_part_1 rfl ?_
  refine r_aload_n 0 d_L_part_2 rfl rfl ?_
  refine r_iload_n 1 d_L_part_3 rfl rfl ?_
  refine r_iload_n 2 d_L_part_4 rfl rfl ?_
  refine q_wcall (d2 := 0) (av := [.ref 0, .int v1, .int v2]) (st := [.int 0, .ref 206]) (z_runV (ci := 11) ck_X11_part rfl ml_L_56 ci_X11_part cv_X11_part (K_0 h0) (T := zT11) rfl rfl (Nat.le_of_ble_eq_true rfl) d_L_part_5) (s_X11_part hst h0 (by omega)) (fun v D1 => ?_) (fun e D1 k hk => ?_)
  · refine r_i2l d_L_part_8 ?_
    refine q_last (j := 0) (K_206 h0) (by unfold vp_in; decide) rfl d_L_part_9 ?_
    refine r_goto 21 d_L_part_10 (by decide) ?_
    refine r_iconst (0 : Int32) d_L_part_21 rfl ?_
    exact r_iret rfl d_L_part_22
  · unfold wk2 at hk
    by_cases h0 : e = 2
    · subst h0
      cases hk
      refine x_catchW (name := "java/lang/IndexOutOfBoundsException") 4 [] ⟨0, 10, 13, 33⟩ [⟨0, 10, 17, 13⟩] rfl (fun z hz => by cases hz) (by decide) (by decide) cl_L_33 ca_1293 (Nat.le_of_ble_eq_true rfl) d_L_part_13 (ls' := [(0, .ref 0), (1, .int v1), (2, .int v2), (3, .ref 206)]) rfl ?_
      refine r_iconst (1 : Int32) d_L_part_15 rfl ?_
      exact r_iret rfl d_L_part_16
    rw [if_neg h0] at hk
    by_cases h1 : e = 1
    · subst h1
      cases hk
      refine x_catchW (name := "java/lang/IllegalArgumentException") 4 [⟨0, 10, 13, 33⟩] ⟨0, 10, 17, 13⟩ [] rfl (fun z hz => by rw [List.mem_singleton.mp hz]; exact Or.inr ⟨by decide, "java/lang/IndexOutOfBoundsException", cl_L_33, by decide⟩) (by decide) (by decide) cl_L_13 ca_856 (Nat.le_of_ble_eq_true rfl) d_L_part_17 (ls' := [(0, .ref 0), (1, .int v1), (2, .int v2), (3, .ref 206)]) rfl ?_
      refine r_iconst (2 : Int32) d_L_part_19 rfl ?_
      exact r_iret rfl d_L_part_20
    · simp [h0, h1] at hk
theorem d_L_least_0 : decode (yB m_L_least) 0 = .ok (.aload_n 3, 1) := by decide +kernel
theorem d_L_least_1 : decode (yB m_L_least) 1 = .ok (.iconst 0, 1) := by decide +kernel
theorem d_L_least_2 : decode (yB m_L_least) 2 = .ok (.aload_n 0, 1) := by decide +kernel
theorem d_L_least_3 : decode (yB m_L_least) 3 = .ok (.iload_n 1, 1) := by decide +kernel
theorem d_L_least_4 : decode (yB m_L_least) 4 = .ok (.iload_n 2, 1) := by decide +kernel
theorem d_L_least_5 : decode (yB m_L_least) 5 = .ok (.invokevirtual 59, 3) := by decide +kernel
theorem d_L_least_8 : decode (yB m_L_least) 8 = .ok (.i2l, 1) := by decide +kernel
theorem d_L_least_9 : decode (yB m_L_least) 9 = .ok (.lastore, 1) := by decide +kernel
theorem d_L_least_10 : decode (yB m_L_least) 10 = .ok (.goto 11, 3) := by decide +kernel
theorem d_L_least_13 : decode (yB m_L_least) 13 = .ok (.astore 4, 2) := by decide +kernel
theorem d_L_least_15 : decode (yB m_L_least) 15 = .ok (.iconst 1, 1) := by decide +kernel
theorem d_L_least_16 : decode (yB m_L_least) 16 = .ok (.ireturn, 1) := by decide +kernel
theorem d_L_least_17 : decode (yB m_L_least) 17 = .ok (.astore 4, 2) := by decide +kernel
theorem d_L_least_19 : decode (yB m_L_least) 19 = .ok (.iconst 2, 1) := by decide +kernel
theorem d_L_least_20 : decode (yB m_L_least) 20 = .ok (.ireturn, 1) := by decide +kernel
theorem d_L_least_21 : decode (yB m_L_least) 21 = .ok (.iconst 0, 1) := by decide +kernel
theorem d_L_least_22 : decode (yB m_L_least) 22 = .ok (.ireturn, 1) := by decide +kernel
def fw_L_least (v1 : Int32) (v2 : Int32) (D : zD) : Option (Int32 × Nat × zD) := fW (wk2 3 1) (fn_X11_least v1 v2 D)
theorem w_L_least {X : zX} {Sh : zSh} {d : Nat} (hst : (zl X).stackTraces = false) (h0 : zSh0 Sh) (hd : 105 ≤ d) {v1 : Int32} {v2 : Int32}  {D : zD} : Sd X m_L_least d [.ref 0, .int v1, .int v2, .ref 206] (Sh, D) (oW Sh (fw_L_least v1 v2 D)) := by
  obtain ⟨d, rfl⟩ : ∃ e, d = e + 1 := ⟨d - 1, by omega⟩
  replace hd : 104 ≤ d := by omega
  refine z_bodyH ck_L_least rfl (Nat.le_of_ble_eq_true rfl) rfl hst ?_
  show Rn X m_L_least (d + 1) 0 [(0, .ref 0), (1, .int v1), (2, .int v2), (3, .ref 206)] [] (Sh, D) _
  unfold fw_L_least
  refine r_aload_n 3 d_L_least_0 rfl rfl ?_
  refine r_iconst (0 : Int32) d_L_least_1 rfl ?_
  refine r_aload_n 0 d_L_least_2 rfl rfl ?_
  refine r_iload_n 1 d_L_least_3 rfl rfl ?_
  refine r_iload_n 2 d_L_least_4 rfl rfl ?_
  refine q_wcall (d2 := 0) (av := [.ref 0, .int v1, .int v2]) (st := [.int 0, .ref 206]) (z_runV (ci := 11) ck_X11_least rfl ml_L_59 ci_X11_least cv_X11_least (K_0 h0) (T := zT11) rfl rfl (Nat.le_of_ble_eq_true rfl) d_L_least_5) (s_X11_least hst h0 (by omega)) (fun v D1 => ?_) (fun e D1 k hk => ?_)
  · refine r_i2l d_L_least_8 ?_
    refine q_last (j := 0) (K_206 h0) (by unfold vp_in; decide) rfl d_L_least_9 ?_
    refine r_goto 21 d_L_least_10 (by decide) ?_
    refine r_iconst (0 : Int32) d_L_least_21 rfl ?_
    exact r_iret rfl d_L_least_22
  · unfold wk2 at hk
    by_cases h0 : e = 3
    · subst h0
      cases hk
      refine x_catchW (name := "java/util/NoSuchElementException") 4 [] ⟨0, 10, 13, 24⟩ [⟨0, 10, 17, 13⟩] rfl (fun z hz => by cases hz) (by decide) (by decide) cl_L_24 ca_1261 (Nat.le_of_ble_eq_true rfl) d_L_least_13 (ls' := [(0, .ref 0), (1, .int v1), (2, .int v2), (3, .ref 206)]) rfl ?_
      refine r_iconst (1 : Int32) d_L_least_15 rfl ?_
      exact r_iret rfl d_L_least_16
    rw [if_neg h0] at hk
    by_cases h1 : e = 1
    · subst h1
      cases hk
      refine x_catchW (name := "java/lang/IllegalArgumentException") 4 [⟨0, 10, 13, 24⟩] ⟨0, 10, 17, 13⟩ [] rfl (fun z hz => by rw [List.mem_singleton.mp hz]; exact Or.inr ⟨by decide, "java/util/NoSuchElementException", cl_L_24, by decide⟩) (by decide) (by decide) cl_L_13 ca_856 (Nat.le_of_ble_eq_true rfl) d_L_least_17 (ls' := [(0, .ref 0), (1, .int v1), (2, .int v2), (3, .ref 206)]) rfl ?_
      refine r_iconst (2 : Int32) d_L_least_19 rfl ?_
      exact r_iret rfl d_L_least_20
    · simp [h0, h1] at hk
theorem d_L_strokes_0 : decode (yB m_L_strokes) 0 = .ok (.aload_n 2, 1) := by decide +kernel
theorem d_L_strokes_1 : decode (yB m_L_strokes) 1 = .ok (.iconst 0, 1) := by decide +kernel
theorem d_L_strokes_2 : decode (yB m_L_strokes) 2 = .ok (.aload_n 0, 1) := by decide +kernel
theorem d_L_strokes_3 : decode (yB m_L_strokes) 3 = .ok (.iload_n 1, 1) := by decide +kernel
theorem d_L_strokes_4 : decode (yB m_L_strokes) 4 = .ok (.invokevirtual 62, 3) := by decide +kernel
theorem d_L_strokes_7 : decode (yB m_L_strokes) 7 = .ok (.i2l, 1) := by decide +kernel
theorem d_L_strokes_8 : decode (yB m_L_strokes) 8 = .ok (.lastore, 1) := by decide +kernel
theorem d_L_strokes_9 : decode (yB m_L_strokes) 9 = .ok (.goto 6, 3) := by decide +kernel
theorem d_L_strokes_12 : decode (yB m_L_strokes) 12 = .ok (.astore_n 3, 1) := by decide +kernel
theorem d_L_strokes_13 : decode (yB m_L_strokes) 13 = .ok (.iconst 1, 1) := by decide +kernel
theorem d_L_strokes_14 : decode (yB m_L_strokes) 14 = .ok (.ireturn, 1) := by decide +kernel
theorem d_L_strokes_15 : decode (yB m_L_strokes) 15 = .ok (.iconst 0, 1) := by decide +kernel
theorem d_L_strokes_16 : decode (yB m_L_strokes) 16 = .ok (.ireturn, 1) := by decide +kernel
def fw_L_strokes (v1 : Int32) (D : zD) : Option (Int32 × Nat × zD) := fW (wk1 3) (fn_X11_strokes v1 D)
theorem w_L_strokes {X : zX} {Sh : zSh} {d : Nat} (hst : (zl X).stackTraces = false) (h0 : zSh0 Sh) (hd : 103 ≤ d) {v1 : Int32}  {D : zD} : Sd X m_L_strokes d [.ref 0, .int v1, .ref 206] (Sh, D) (oW Sh (fw_L_strokes v1 D)) := by
  obtain ⟨d, rfl⟩ : ∃ e, d = e + 1 := ⟨d - 1, by omega⟩
  replace hd : 102 ≤ d := by omega
  refine z_bodyH ck_L_strokes rfl (Nat.le_of_ble_eq_true rfl) rfl hst ?_
  show Rn X m_L_strokes (d + 1) 0 [(0, .ref 0), (1, .int v1), (2, .ref 206)] [] (Sh, D) _
  unfold fw_L_strokes
  refine r_aload_n 2 d_L_strokes_0 rfl rfl ?_
  refine r_iconst (0 : Int32) d_L_strokes_1 rfl ?_
  refine r_aload_n 0 d_L_strokes_2 rfl rfl ?_
  refine r_iload_n 1 d_L_strokes_3 rfl rfl ?_
  refine q_wcall (d2 := 0) (av := [.ref 0, .int v1]) (st := [.int 0, .ref 206]) (z_runV (ci := 11) ck_X11_strokes rfl ml_L_62 ci_X11_strokes cv_X11_strokes (K_0 h0) (T := zT11) rfl rfl (Nat.le_of_ble_eq_true rfl) d_L_strokes_4) (s_X11_strokes hst h0 (by omega)) (fun v D1 => ?_) (fun e D1 k hk => ?_)
  · refine r_i2l d_L_strokes_7 ?_
    refine q_last (j := 0) (K_206 h0) (by unfold vp_in; decide) rfl d_L_strokes_8 ?_
    refine r_goto 15 d_L_strokes_9 (by decide) ?_
    refine r_iconst (0 : Int32) d_L_strokes_15 rfl ?_
    exact r_iret rfl d_L_strokes_16
  · unfold wk1 at hk
    by_cases h0 : e = 3
    · subst h0
      cases hk
      refine x_catch (name := "java/util/NoSuchElementException") 3 [] ⟨0, 9, 12, 24⟩ [] rfl (fun z hz => by cases hz) (by decide) (by decide) cl_L_24 ca_1261 rfl (Nat.le_of_ble_eq_true rfl) d_L_strokes_12 (ls' := [(0, .ref 0), (1, .int v1), (2, .ref 206)]) rfl ?_
      refine r_iconst (1 : Int32) d_L_strokes_13 rfl ?_
      exact r_iret rfl d_L_strokes_14
    · simp [h0] at hk
theorem d_L_akin_0 : decode (yB m_L_akin) 0 = .ok (.aload_n 3, 1) := by decide +kernel
theorem d_L_akin_1 : decode (yB m_L_akin) 1 = .ok (.iconst 0, 1) := by decide +kernel
theorem d_L_akin_2 : decode (yB m_L_akin) 2 = .ok (.aload_n 0, 1) := by decide +kernel
theorem d_L_akin_3 : decode (yB m_L_akin) 3 = .ok (.iload_n 1, 1) := by decide +kernel
theorem d_L_akin_4 : decode (yB m_L_akin) 4 = .ok (.iload_n 2, 1) := by decide +kernel
theorem d_L_akin_5 : decode (yB m_L_akin) 5 = .ok (.invokevirtual 65, 3) := by decide +kernel
theorem d_L_akin_8 : decode (yB m_L_akin) 8 = .ok (.i2l, 1) := by decide +kernel
theorem d_L_akin_9 : decode (yB m_L_akin) 9 = .ok (.lastore, 1) := by decide +kernel
theorem d_L_akin_10 : decode (yB m_L_akin) 10 = .ok (.goto 7, 3) := by decide +kernel
theorem d_L_akin_13 : decode (yB m_L_akin) 13 = .ok (.astore 4, 2) := by decide +kernel
theorem d_L_akin_15 : decode (yB m_L_akin) 15 = .ok (.iconst 1, 1) := by decide +kernel
theorem d_L_akin_16 : decode (yB m_L_akin) 16 = .ok (.ireturn, 1) := by decide +kernel
theorem d_L_akin_17 : decode (yB m_L_akin) 17 = .ok (.iconst 0, 1) := by decide +kernel
theorem d_L_akin_18 : decode (yB m_L_akin) 18 = .ok (.ireturn, 1) := by decide +kernel
def fw_L_akin (v1 : Int32) (v2 : Int32) (D : zD) : Option (Int32 × Nat × zD) := fW (wk1 1) (wP D (fn_X11_akin v1 v2 D))
theorem w_L_akin {X : zX} {Sh : zSh} {d : Nat} (hst : (zl X).stackTraces = false) (h0 : zSh0 Sh) (hd : 10 ≤ d) {v1 : Int32} {v2 : Int32}  {D : zD} : Sd X m_L_akin d [.ref 0, .int v1, .int v2, .ref 206] (Sh, D) (oW Sh (fw_L_akin v1 v2 D)) := by
  obtain ⟨d, rfl⟩ : ∃ e, d = e + 1 := ⟨d - 1, by omega⟩
  replace hd : 9 ≤ d := by omega
  refine z_bodyH ck_L_akin rfl (Nat.le_of_ble_eq_true rfl) rfl hst ?_
  show Rn X m_L_akin (d + 1) 0 [(0, .ref 0), (1, .int v1), (2, .int v2), (3, .ref 206)] [] (Sh, D) _
  unfold fw_L_akin
  refine r_aload_n 3 d_L_akin_0 rfl rfl ?_
  refine r_iconst (0 : Int32) d_L_akin_1 rfl ?_
  refine r_aload_n 0 d_L_akin_2 rfl rfl ?_
  refine r_iload_n 1 d_L_akin_3 rfl rfl ?_
  refine r_iload_n 2 d_L_akin_4 rfl rfl ?_
  refine q_wcall (d2 := 0) (av := [.ref 0, .int v1, .int v2]) (st := [.int 0, .ref 206]) (z_runV (ci := 11) ck_X11_akin rfl ml_L_65 ci_X11_akin cv_X11_akin (K_0 h0) (T := zT11) rfl rfl (Nat.le_of_ble_eq_true rfl) d_L_akin_5) (by rw [← wP_eq]; exact s_X11_akin hst h0 (by omega)) (fun v D1 => ?_) (fun e D1 k hk => ?_)
  · refine r_i2l d_L_akin_8 ?_
    refine q_last (j := 0) (K_206 h0) (by unfold vp_in; decide) rfl d_L_akin_9 ?_
    refine r_goto 17 d_L_akin_10 (by decide) ?_
    refine r_iconst (0 : Int32) d_L_akin_17 rfl ?_
    exact r_iret rfl d_L_akin_18
  · unfold wk1 at hk
    by_cases h0 : e = 1
    · subst h0
      cases hk
      refine x_catchW (name := "java/lang/IllegalArgumentException") 4 [] ⟨0, 10, 13, 13⟩ [] rfl (fun z hz => by cases hz) (by decide) (by decide) cl_L_13 ca_856 (Nat.le_of_ble_eq_true rfl) d_L_akin_13 (ls' := [(0, .ref 0), (1, .int v1), (2, .int v2), (3, .ref 206)]) rfl ?_
      refine r_iconst (1 : Int32) d_L_akin_15 rfl ?_
      exact r_iret rfl d_L_akin_16
    · simp [h0] at hk
theorem d_L_changed_0 : decode (yB m_L_changed) 0 = .ok (.aload_n 2, 1) := by decide +kernel
theorem d_L_changed_1 : decode (yB m_L_changed) 1 = .ok (.iconst 0, 1) := by decide +kernel
theorem d_L_changed_2 : decode (yB m_L_changed) 2 = .ok (.aload_n 0, 1) := by decide +kernel
theorem d_L_changed_3 : decode (yB m_L_changed) 3 = .ok (.iload_n 1, 1) := by decide +kernel
theorem d_L_changed_4 : decode (yB m_L_changed) 4 = .ok (.invokevirtual 68, 3) := by decide +kernel
theorem d_L_changed_7 : decode (yB m_L_changed) 7 = .ok (.i2l, 1) := by decide +kernel
theorem d_L_changed_8 : decode (yB m_L_changed) 8 = .ok (.lastore, 1) := by decide +kernel
theorem d_L_changed_9 : decode (yB m_L_changed) 9 = .ok (.goto 6, 3) := by decide +kernel
theorem d_L_changed_12 : decode (yB m_L_changed) 12 = .ok (.astore_n 3, 1) := by decide +kernel
theorem d_L_changed_13 : decode (yB m_L_changed) 13 = .ok (.iconst 1, 1) := by decide +kernel
theorem d_L_changed_14 : decode (yB m_L_changed) 14 = .ok (.ireturn, 1) := by decide +kernel
theorem d_L_changed_15 : decode (yB m_L_changed) 15 = .ok (.iconst 0, 1) := by decide +kernel
theorem d_L_changed_16 : decode (yB m_L_changed) 16 = .ok (.ireturn, 1) := by decide +kernel
def fw_L_changed (v1 : Int32) (D : zD) : Option (Int32 × Nat × zD) := fW (wk1 1) (fn_X11_changed v1 D)
theorem w_L_changed {X : zX} {Sh : zSh} {d : Nat} (hst : (zl X).stackTraces = false) (h0 : zSh0 Sh) (hd : 10 ≤ d) {v1 : Int32}  {D : zD} : Sd X m_L_changed d [.ref 0, .int v1, .ref 206] (Sh, D) (oW Sh (fw_L_changed v1 D)) := by
  obtain ⟨d, rfl⟩ : ∃ e, d = e + 1 := ⟨d - 1, by omega⟩
  replace hd : 9 ≤ d := by omega
  refine z_bodyH ck_L_changed rfl (Nat.le_of_ble_eq_true rfl) rfl hst ?_
  show Rn X m_L_changed (d + 1) 0 [(0, .ref 0), (1, .int v1), (2, .ref 206)] [] (Sh, D) _
  unfold fw_L_changed
  refine r_aload_n 2 d_L_changed_0 rfl rfl ?_
  refine r_iconst (0 : Int32) d_L_changed_1 rfl ?_
  refine r_aload_n 0 d_L_changed_2 rfl rfl ?_
  refine r_iload_n 1 d_L_changed_3 rfl rfl ?_
  refine q_wcall (d2 := 0) (av := [.ref 0, .int v1]) (st := [.int 0, .ref 206]) (z_runV (ci := 11) ck_X11_changed rfl ml_L_68 ci_X11_changed cv_X11_changed (K_0 h0) (T := zT11) rfl rfl (Nat.le_of_ble_eq_true rfl) d_L_changed_4) (s_X11_changed hst h0 (by omega)) (fun v D1 => ?_) (fun e D1 k hk => ?_)
  · refine r_i2l d_L_changed_7 ?_
    refine q_last (j := 0) (K_206 h0) (by unfold vp_in; decide) rfl d_L_changed_8 ?_
    refine r_goto 15 d_L_changed_9 (by decide) ?_
    refine r_iconst (0 : Int32) d_L_changed_15 rfl ?_
    exact r_iret rfl d_L_changed_16
  · unfold wk1 at hk
    by_cases h0 : e = 1
    · subst h0
      cases hk
      refine x_catch (name := "java/lang/IllegalArgumentException") 3 [] ⟨0, 9, 12, 13⟩ [] rfl (fun z hz => by cases hz) (by decide) (by decide) cl_L_13 ca_856 rfl (Nat.le_of_ble_eq_true rfl) d_L_changed_12 (ls' := [(0, .ref 0), (1, .int v1), (2, .ref 206)]) rfl ?_
      refine r_iconst (1 : Int32) d_L_changed_13 rfl ?_
      exact r_iret rfl d_L_changed_14
    · simp [h0] at hk
theorem d_L_steps_0 : decode (yB m_L_steps) 0 = .ok (.aload_n 2, 1) := by decide +kernel
theorem d_L_steps_1 : decode (yB m_L_steps) 1 = .ok (.iconst 0, 1) := by decide +kernel
theorem d_L_steps_2 : decode (yB m_L_steps) 2 = .ok (.aload_n 0, 1) := by decide +kernel
theorem d_L_steps_3 : decode (yB m_L_steps) 3 = .ok (.iload_n 1, 1) := by decide +kernel
theorem d_L_steps_4 : decode (yB m_L_steps) 4 = .ok (.invokevirtual 71, 3) := by decide +kernel
theorem d_L_steps_7 : decode (yB m_L_steps) 7 = .ok (.i2l, 1) := by decide +kernel
theorem d_L_steps_8 : decode (yB m_L_steps) 8 = .ok (.lastore, 1) := by decide +kernel
theorem d_L_steps_9 : decode (yB m_L_steps) 9 = .ok (.goto 6, 3) := by decide +kernel
theorem d_L_steps_12 : decode (yB m_L_steps) 12 = .ok (.astore_n 3, 1) := by decide +kernel
theorem d_L_steps_13 : decode (yB m_L_steps) 13 = .ok (.iconst 1, 1) := by decide +kernel
theorem d_L_steps_14 : decode (yB m_L_steps) 14 = .ok (.ireturn, 1) := by decide +kernel
theorem d_L_steps_15 : decode (yB m_L_steps) 15 = .ok (.iconst 0, 1) := by decide +kernel
theorem d_L_steps_16 : decode (yB m_L_steps) 16 = .ok (.ireturn, 1) := by decide +kernel
def fw_L_steps (v1 : Int32) (D : zD) : Option (Int32 × Nat × zD) := fW (wk1 1) (fn_X11_steps v1 D)
theorem w_L_steps {X : zX} {Sh : zSh} {d : Nat} (hst : (zl X).stackTraces = false) (h0 : zSh0 Sh) (hd : 10 ≤ d) {v1 : Int32}  {D : zD} : Sd X m_L_steps d [.ref 0, .int v1, .ref 206] (Sh, D) (oW Sh (fw_L_steps v1 D)) := by
  obtain ⟨d, rfl⟩ : ∃ e, d = e + 1 := ⟨d - 1, by omega⟩
  replace hd : 9 ≤ d := by omega
  refine z_bodyH ck_L_steps rfl (Nat.le_of_ble_eq_true rfl) rfl hst ?_
  show Rn X m_L_steps (d + 1) 0 [(0, .ref 0), (1, .int v1), (2, .ref 206)] [] (Sh, D) _
  unfold fw_L_steps
  refine r_aload_n 2 d_L_steps_0 rfl rfl ?_
  refine r_iconst (0 : Int32) d_L_steps_1 rfl ?_
  refine r_aload_n 0 d_L_steps_2 rfl rfl ?_
  refine r_iload_n 1 d_L_steps_3 rfl rfl ?_
  refine q_wcall (d2 := 0) (av := [.ref 0, .int v1]) (st := [.int 0, .ref 206]) (z_runV (ci := 11) ck_X11_steps rfl ml_L_71 ci_X11_steps cv_X11_steps (K_0 h0) (T := zT11) rfl rfl (Nat.le_of_ble_eq_true rfl) d_L_steps_4) (s_X11_steps hst h0 (by omega)) (fun v D1 => ?_) (fun e D1 k hk => ?_)
  · refine r_i2l d_L_steps_7 ?_
    refine q_last (j := 0) (K_206 h0) (by unfold vp_in; decide) rfl d_L_steps_8 ?_
    refine r_goto 15 d_L_steps_9 (by decide) ?_
    refine r_iconst (0 : Int32) d_L_steps_15 rfl ?_
    exact r_iret rfl d_L_steps_16
  · unfold wk1 at hk
    by_cases h0 : e = 1
    · subst h0
      cases hk
      refine x_catch (name := "java/lang/IllegalArgumentException") 3 [] ⟨0, 9, 12, 13⟩ [] rfl (fun z hz => by cases hz) (by decide) (by decide) cl_L_13 ca_856 rfl (Nat.le_of_ble_eq_true rfl) d_L_steps_12 (ls' := [(0, .ref 0), (1, .int v1), (2, .ref 206)]) rfl ?_
      refine r_iconst (1 : Int32) d_L_steps_13 rfl ?_
      exact r_iret rfl d_L_steps_14
    · simp [h0] at hk
theorem d_L_stand_0 : decode (yB m_L_stand) 0 = .ok (.aload 4, 2) := by decide +kernel
theorem d_L_stand_2 : decode (yB m_L_stand) 2 = .ok (.iconst 0, 1) := by decide +kernel
theorem d_L_stand_3 : decode (yB m_L_stand) 3 = .ok (.aload_n 0, 1) := by decide +kernel
theorem d_L_stand_4 : decode (yB m_L_stand) 4 = .ok (.iload_n 1, 1) := by decide +kernel
theorem d_L_stand_5 : decode (yB m_L_stand) 5 = .ok (.iload_n 2, 1) := by decide +kernel
theorem d_L_stand_6 : decode (yB m_L_stand) 6 = .ok (.iload_n 3, 1) := by decide +kernel
theorem d_L_stand_7 : decode (yB m_L_stand) 7 = .ok (.invokevirtual 74, 3) := by decide +kernel
theorem d_L_stand_10 : decode (yB m_L_stand) 10 = .ok (.i2l, 1) := by decide +kernel
theorem d_L_stand_11 : decode (yB m_L_stand) 11 = .ok (.lastore, 1) := by decide +kernel
theorem d_L_stand_12 : decode (yB m_L_stand) 12 = .ok (.goto 11, 3) := by decide +kernel
theorem d_L_stand_15 : decode (yB m_L_stand) 15 = .ok (.astore 5, 2) := by decide +kernel
theorem d_L_stand_17 : decode (yB m_L_stand) 17 = .ok (.iconst 1, 1) := by decide +kernel
theorem d_L_stand_18 : decode (yB m_L_stand) 18 = .ok (.ireturn, 1) := by decide +kernel
theorem d_L_stand_19 : decode (yB m_L_stand) 19 = .ok (.astore 5, 2) := by decide +kernel
theorem d_L_stand_21 : decode (yB m_L_stand) 21 = .ok (.iconst 2, 1) := by decide +kernel
theorem d_L_stand_22 : decode (yB m_L_stand) 22 = .ok (.ireturn, 1) := by decide +kernel
theorem d_L_stand_23 : decode (yB m_L_stand) 23 = .ok (.iconst 0, 1) := by decide +kernel
theorem d_L_stand_24 : decode (yB m_L_stand) 24 = .ok (.ireturn, 1) := by decide +kernel
def fw_L_stand (v1 : Int32) (v2 : Int32) (v3 : Int32) (D : zD) : Option (Int32 × Nat × zD) := fW (wk2 3 1) (fn_X11_stand v1 v2 v3 D)
theorem w_L_stand {X : zX} {Sh : zSh} {d : Nat} (hst : (zl X).stackTraces = false) (h0 : zSh0 Sh) (hd : 10 ≤ d) {v1 : Int32} {v2 : Int32} {v3 : Int32}  {D : zD} : Sd X m_L_stand d [.ref 0, .int v1, .int v2, .int v3, .ref 206] (Sh, D) (oW Sh (fw_L_stand v1 v2 v3 D)) := by
  obtain ⟨d, rfl⟩ : ∃ e, d = e + 1 := ⟨d - 1, by omega⟩
  replace hd : 9 ≤ d := by omega
  refine z_bodyH ck_L_stand rfl (Nat.le_of_ble_eq_true rfl) rfl hst ?_
  show Rn X m_L_stand (d + 1) 0 [(0, .ref 0), (1, .int v1), (2, .int v2), (3, .int v3), (4, .ref 206)] [] (Sh, D) _
  unfold fw_L_stand
  refine r_aload 4 d_L_stand_0 rfl ?_
  refine r_iconst (0 : Int32) d_L_stand_2 rfl ?_
  refine r_aload_n 0 d_L_stand_3 rfl rfl ?_
  refine r_iload_n 1 d_L_stand_4 rfl rfl ?_
  refine r_iload_n 2 d_L_stand_5 rfl rfl ?_
  refine r_iload_n 3 d_L_stand_6 rfl rfl ?_
  refine q_wcall (d2 := 0) (av := [.ref 0, .int v1, .int v2, .int v3]) (st := [.int 0, .ref 206]) (z_runV (ci := 11) ck_X11_stand rfl ml_L_74 ci_X11_stand cv_X11_stand (K_0 h0) (T := zT11) rfl rfl (Nat.le_of_ble_eq_true rfl) d_L_stand_7) (s_X11_stand hst h0 (by omega)) (fun v D1 => ?_) (fun e D1 k hk => ?_)
  · refine r_i2l d_L_stand_10 ?_
    refine q_last (j := 0) (K_206 h0) (by unfold vp_in; decide) rfl d_L_stand_11 ?_
    refine r_goto 23 d_L_stand_12 (by decide) ?_
    refine r_iconst (0 : Int32) d_L_stand_23 rfl ?_
    exact r_iret rfl d_L_stand_24
  · unfold wk2 at hk
    by_cases h0 : e = 3
    · subst h0
      cases hk
      refine x_catchW (name := "java/util/NoSuchElementException") 5 [] ⟨0, 12, 15, 24⟩ [⟨0, 12, 19, 13⟩] rfl (fun z hz => by cases hz) (by decide) (by decide) cl_L_24 ca_1261 (Nat.le_of_ble_eq_true rfl) d_L_stand_15 (ls' := [(0, .ref 0), (1, .int v1), (2, .int v2), (3, .int v3), (4, .ref 206)]) rfl ?_
      refine r_iconst (1 : Int32) d_L_stand_17 rfl ?_
      exact r_iret rfl d_L_stand_18
    rw [if_neg h0] at hk
    by_cases h1 : e = 1
    · subst h1
      cases hk
      refine x_catchW (name := "java/lang/IllegalArgumentException") 5 [⟨0, 12, 15, 24⟩] ⟨0, 12, 19, 13⟩ [] rfl (fun z hz => by rw [List.mem_singleton.mp hz]; exact Or.inr ⟨by decide, "java/util/NoSuchElementException", cl_L_24, by decide⟩) (by decide) (by decide) cl_L_13 ca_856 (Nat.le_of_ble_eq_true rfl) d_L_stand_19 (ls' := [(0, .ref 0), (1, .int v1), (2, .int v2), (3, .int v3), (4, .ref 206)]) rfl ?_
      refine r_iconst (2 : Int32) d_L_stand_21 rfl ?_
      exact r_iret rfl d_L_stand_22
    · simp [h0, h1] at hk
theorem d_L_seen_0 : decode (yB m_L_seen) 0 = .ok (.aload 4, 2) := by decide +kernel
theorem d_L_seen_2 : decode (yB m_L_seen) 2 = .ok (.iconst 0, 1) := by decide +kernel
theorem d_L_seen_3 : decode (yB m_L_seen) 3 = .ok (.aload_n 0, 1) := by decide +kernel
theorem d_L_seen_4 : decode (yB m_L_seen) 4 = .ok (.iload_n 1, 1) := by decide +kernel
theorem d_L_seen_5 : decode (yB m_L_seen) 5 = .ok (.iload_n 2, 1) := by decide +kernel
theorem d_L_seen_6 : decode (yB m_L_seen) 6 = .ok (.iload_n 3, 1) := by decide +kernel
theorem d_L_seen_7 : decode (yB m_L_seen) 7 = .ok (.invokevirtual 78, 3) := by decide +kernel
theorem d_L_seen_10 : decode (yB m_L_seen) 10 = .ok (.i2l, 1) := by decide +kernel
theorem d_L_seen_11 : decode (yB m_L_seen) 11 = .ok (.lastore, 1) := by decide +kernel
theorem d_L_seen_12 : decode (yB m_L_seen) 12 = .ok (.goto 11, 3) := by decide +kernel
theorem d_L_seen_15 : decode (yB m_L_seen) 15 = .ok (.astore 5, 2) := by decide +kernel
theorem d_L_seen_17 : decode (yB m_L_seen) 17 = .ok (.iconst 1, 1) := by decide +kernel
theorem d_L_seen_18 : decode (yB m_L_seen) 18 = .ok (.ireturn, 1) := by decide +kernel
theorem d_L_seen_19 : decode (yB m_L_seen) 19 = .ok (.astore 5, 2) := by decide +kernel
theorem d_L_seen_21 : decode (yB m_L_seen) 21 = .ok (.iconst 2, 1) := by decide +kernel
theorem d_L_seen_22 : decode (yB m_L_seen) 22 = .ok (.ireturn, 1) := by decide +kernel
theorem d_L_seen_23 : decode (yB m_L_seen) 23 = .ok (.iconst 0, 1) := by decide +kernel
theorem d_L_seen_24 : decode (yB m_L_seen) 24 = .ok (.ireturn, 1) := by decide +kernel
def fw_L_seen (v1 : Int32) (v2 : Int32) (v3 : Int32) (D : zD) : Option (Int32 × Nat × zD) := fW (wk2 2 1) (fn_X11_seen v1 v2 v3 D)
theorem w_L_seen {X : zX} {Sh : zSh} {d : Nat} (hst : (zl X).stackTraces = false) (h0 : zSh0 Sh) (hd : 11 ≤ d) {v1 : Int32} {v2 : Int32} {v3 : Int32}  {D : zD} : Sd X m_L_seen d [.ref 0, .int v1, .int v2, .int v3, .ref 206] (Sh, D) (oW Sh (fw_L_seen v1 v2 v3 D)) := by
  obtain ⟨d, rfl⟩ : ∃ e, d = e + 1 := ⟨d - 1, by omega⟩
  replace hd : 10 ≤ d := by omega
  refine z_bodyH ck_L_seen rfl (Nat.le_of_ble_eq_true rfl) rfl hst ?_
  show Rn X m_L_seen (d + 1) 0 [(0, .ref 0), (1, .int v1), (2, .int v2), (3, .int v3), (4, .ref 206)] [] (Sh, D) _
  unfold fw_L_seen
  refine r_aload 4 d_L_seen_0 rfl ?_
  refine r_iconst (0 : Int32) d_L_seen_2 rfl ?_
  refine r_aload_n 0 d_L_seen_3 rfl rfl ?_
  refine r_iload_n 1 d_L_seen_4 rfl rfl ?_
  refine r_iload_n 2 d_L_seen_5 rfl rfl ?_
  refine r_iload_n 3 d_L_seen_6 rfl rfl ?_
  refine q_wcall (d2 := 0) (av := [.ref 0, .int v1, .int v2, .int v3]) (st := [.int 0, .ref 206]) (z_runV (ci := 11) ck_X11_seen rfl ml_L_78 ci_X11_seen cv_X11_seen (K_0 h0) (T := zT11) rfl rfl (Nat.le_of_ble_eq_true rfl) d_L_seen_7) (s_X11_seen hst h0 (by omega)) (fun v D1 => ?_) (fun e D1 k hk => ?_)
  · refine r_i2l d_L_seen_10 ?_
    refine q_last (j := 0) (K_206 h0) (by unfold vp_in; decide) rfl d_L_seen_11 ?_
    refine r_goto 23 d_L_seen_12 (by decide) ?_
    refine r_iconst (0 : Int32) d_L_seen_23 rfl ?_
    exact r_iret rfl d_L_seen_24
  · unfold wk2 at hk
    by_cases h0 : e = 2
    · subst h0
      cases hk
      refine x_catchW (name := "java/lang/IndexOutOfBoundsException") 5 [] ⟨0, 12, 15, 33⟩ [⟨0, 12, 19, 13⟩] rfl (fun z hz => by cases hz) (by decide) (by decide) cl_L_33 ca_1293 (Nat.le_of_ble_eq_true rfl) d_L_seen_15 (ls' := [(0, .ref 0), (1, .int v1), (2, .int v2), (3, .int v3), (4, .ref 206)]) rfl ?_
      refine r_iconst (1 : Int32) d_L_seen_17 rfl ?_
      exact r_iret rfl d_L_seen_18
    rw [if_neg h0] at hk
    by_cases h1 : e = 1
    · subst h1
      cases hk
      refine x_catchW (name := "java/lang/IllegalArgumentException") 5 [⟨0, 12, 15, 33⟩] ⟨0, 12, 19, 13⟩ [] rfl (fun z hz => by rw [List.mem_singleton.mp hz]; exact Or.inr ⟨by decide, "java/lang/IndexOutOfBoundsException", cl_L_33, by decide⟩) (by decide) (by decide) cl_L_13 ca_856 (Nat.le_of_ble_eq_true rfl) d_L_seen_19 (ls' := [(0, .ref 0), (1, .int v1), (2, .int v2), (3, .int v3), (4, .ref 206)]) rfl ?_
      refine r_iconst (2 : Int32) d_L_seen_21 rfl ?_
      exact r_iret rfl d_L_seen_22
    · simp [h0, h1] at hk
theorem d_L_guess_0 : decode (yB m_L_guess) 0 = .ok (.aload 4, 2) := by decide +kernel
theorem d_L_guess_2 : decode (yB m_L_guess) 2 = .ok (.iconst 0, 1) := by decide +kernel
theorem d_L_guess_3 : decode (yB m_L_guess) 3 = .ok (.aload_n 0, 1) := by decide +kernel
theorem d_L_guess_4 : decode (yB m_L_guess) 4 = .ok (.iload_n 1, 1) := by decide +kernel
theorem d_L_guess_5 : decode (yB m_L_guess) 5 = .ok (.iload_n 2, 1) := by decide +kernel
theorem d_L_guess_6 : decode (yB m_L_guess) 6 = .ok (.iload_n 3, 1) := by decide +kernel
theorem d_L_guess_7 : decode (yB m_L_guess) 7 = .ok (.invokevirtual 82, 3) := by decide +kernel
theorem d_L_guess_10 : decode (yB m_L_guess) 10 = .ok (.i2l, 1) := by decide +kernel
theorem d_L_guess_11 : decode (yB m_L_guess) 11 = .ok (.lastore, 1) := by decide +kernel
theorem d_L_guess_12 : decode (yB m_L_guess) 12 = .ok (.goto 11, 3) := by decide +kernel
theorem d_L_guess_15 : decode (yB m_L_guess) 15 = .ok (.astore 5, 2) := by decide +kernel
theorem d_L_guess_17 : decode (yB m_L_guess) 17 = .ok (.iconst 1, 1) := by decide +kernel
theorem d_L_guess_18 : decode (yB m_L_guess) 18 = .ok (.ireturn, 1) := by decide +kernel
theorem d_L_guess_19 : decode (yB m_L_guess) 19 = .ok (.astore 5, 2) := by decide +kernel
theorem d_L_guess_21 : decode (yB m_L_guess) 21 = .ok (.iconst 2, 1) := by decide +kernel
theorem d_L_guess_22 : decode (yB m_L_guess) 22 = .ok (.ireturn, 1) := by decide +kernel
theorem d_L_guess_23 : decode (yB m_L_guess) 23 = .ok (.iconst 0, 1) := by decide +kernel
theorem d_L_guess_24 : decode (yB m_L_guess) 24 = .ok (.ireturn, 1) := by decide +kernel
def fw_L_guess (v1 : Int32) (v2 : Int32) (v3 : Int32) (D : zD) : Option (Int32 × Nat × zD) := fW (wk2 2 1) (fn_X11_guess v1 v2 v3 D)
theorem w_L_guess {X : zX} {Sh : zSh} {d : Nat} (hst : (zl X).stackTraces = false) (h0 : zSh0 Sh) (hd : 11 ≤ d) {v1 : Int32} {v2 : Int32} {v3 : Int32}  {D : zD} : Sd X m_L_guess d [.ref 0, .int v1, .int v2, .int v3, .ref 206] (Sh, D) (oW Sh (fw_L_guess v1 v2 v3 D)) := by
  obtain ⟨d, rfl⟩ : ∃ e, d = e + 1 := ⟨d - 1, by omega⟩
  replace hd : 10 ≤ d := by omega
  refine z_bodyH ck_L_guess rfl (Nat.le_of_ble_eq_true rfl) rfl hst ?_
  show Rn X m_L_guess (d + 1) 0 [(0, .ref 0), (1, .int v1), (2, .int v2), (3, .int v3), (4, .ref 206)] [] (Sh, D) _
  unfold fw_L_guess
  refine r_aload 4 d_L_guess_0 rfl ?_
  refine r_iconst (0 : Int32) d_L_guess_2 rfl ?_
  refine r_aload_n 0 d_L_guess_3 rfl rfl ?_
  refine r_iload_n 1 d_L_guess_4 rfl rfl ?_
  refine r_iload_n 2 d_L_guess_5 rfl rfl ?_
  refine r_iload_n 3 d_L_guess_6 rfl rfl ?_
  refine q_wcall (d2 := 0) (av := [.ref 0, .int v1, .int v2, .int v3]) (st := [.int 0, .ref 206]) (z_runV (ci := 11) ck_X11_guess rfl ml_L_82 ci_X11_guess cv_X11_guess (K_0 h0) (T := zT11) rfl rfl (Nat.le_of_ble_eq_true rfl) d_L_guess_7) (s_X11_guess hst h0 (by omega)) (fun v D1 => ?_) (fun e D1 k hk => ?_)
  · refine r_i2l d_L_guess_10 ?_
    refine q_last (j := 0) (K_206 h0) (by unfold vp_in; decide) rfl d_L_guess_11 ?_
    refine r_goto 23 d_L_guess_12 (by decide) ?_
    refine r_iconst (0 : Int32) d_L_guess_23 rfl ?_
    exact r_iret rfl d_L_guess_24
  · unfold wk2 at hk
    by_cases h0 : e = 2
    · subst h0
      cases hk
      refine x_catchW (name := "java/lang/IndexOutOfBoundsException") 5 [] ⟨0, 12, 15, 33⟩ [⟨0, 12, 19, 13⟩] rfl (fun z hz => by cases hz) (by decide) (by decide) cl_L_33 ca_1293 (Nat.le_of_ble_eq_true rfl) d_L_guess_15 (ls' := [(0, .ref 0), (1, .int v1), (2, .int v2), (3, .int v3), (4, .ref 206)]) rfl ?_
      refine r_iconst (1 : Int32) d_L_guess_17 rfl ?_
      exact r_iret rfl d_L_guess_18
    rw [if_neg h0] at hk
    by_cases h1 : e = 1
    · subst h1
      cases hk
      refine x_catchW (name := "java/lang/IllegalArgumentException") 5 [⟨0, 12, 15, 33⟩] ⟨0, 12, 19, 13⟩ [] rfl (fun z hz => by rw [List.mem_singleton.mp hz]; exact Or.inr ⟨by decide, "java/lang/IndexOutOfBoundsException", cl_L_33, by decide⟩) (by decide) (by decide) cl_L_13 ca_856 (Nat.le_of_ble_eq_true rfl) d_L_guess_19 (ls' := [(0, .ref 0), (1, .int v1), (2, .int v2), (3, .int v3), (4, .ref 206)]) rfl ?_
      refine r_iconst (2 : Int32) d_L_guess_21 rfl ?_
      exact r_iret rfl d_L_guess_22
    · simp [h0, h1] at hk
theorem d_L_known_0 : decode (yB m_L_known) 0 = .ok (.aload_n 3, 1) := by decide +kernel
theorem d_L_known_1 : decode (yB m_L_known) 1 = .ok (.iconst 0, 1) := by decide +kernel
theorem d_L_known_2 : decode (yB m_L_known) 2 = .ok (.aload_n 0, 1) := by decide +kernel
theorem d_L_known_3 : decode (yB m_L_known) 3 = .ok (.iload_n 1, 1) := by decide +kernel
theorem d_L_known_4 : decode (yB m_L_known) 4 = .ok (.iload_n 2, 1) := by decide +kernel
theorem d_L_known_5 : decode (yB m_L_known) 5 = .ok (.invokevirtual 85, 3) := by decide +kernel
theorem d_L_known_8 : decode (yB m_L_known) 8 = .ok (.i2l, 1) := by decide +kernel
theorem d_L_known_9 : decode (yB m_L_known) 9 = .ok (.lastore, 1) := by decide +kernel
theorem d_L_known_10 : decode (yB m_L_known) 10 = .ok (.goto 7, 3) := by decide +kernel
theorem d_L_known_13 : decode (yB m_L_known) 13 = .ok (.astore 4, 2) := by decide +kernel
theorem d_L_known_15 : decode (yB m_L_known) 15 = .ok (.iconst 1, 1) := by decide +kernel
theorem d_L_known_16 : decode (yB m_L_known) 16 = .ok (.ireturn, 1) := by decide +kernel
theorem d_L_known_17 : decode (yB m_L_known) 17 = .ok (.iconst 0, 1) := by decide +kernel
theorem d_L_known_18 : decode (yB m_L_known) 18 = .ok (.ireturn, 1) := by decide +kernel
def fw_L_known (v1 : Int32) (v2 : Int32) (D : zD) : Option (Int32 × Nat × zD) := fW (wk1 2) (fn_X11_known v1 v2 D)
theorem w_L_known {X : zX} {Sh : zSh} {d : Nat} (hst : (zl X).stackTraces = false) (h0 : zSh0 Sh) (hd : 10 ≤ d) {v1 : Int32} {v2 : Int32}  {D : zD} : Sd X m_L_known d [.ref 0, .int v1, .int v2, .ref 206] (Sh, D) (oW Sh (fw_L_known v1 v2 D)) := by
  obtain ⟨d, rfl⟩ : ∃ e, d = e + 1 := ⟨d - 1, by omega⟩
  replace hd : 9 ≤ d := by omega
  refine z_bodyH ck_L_known rfl (Nat.le_of_ble_eq_true rfl) rfl hst ?_
  show Rn X m_L_known (d + 1) 0 [(0, .ref 0), (1, .int v1), (2, .int v2), (3, .ref 206)] [] (Sh, D) _
  unfold fw_L_known
  refine r_aload_n 3 d_L_known_0 rfl rfl ?_
  refine r_iconst (0 : Int32) d_L_known_1 rfl ?_
  refine r_aload_n 0 d_L_known_2 rfl rfl ?_
  refine r_iload_n 1 d_L_known_3 rfl rfl ?_
  refine r_iload_n 2 d_L_known_4 rfl rfl ?_
  refine q_wcall (d2 := 0) (av := [.ref 0, .int v1, .int v2]) (st := [.int 0, .ref 206]) (z_runV (ci := 11) ck_X11_known rfl ml_L_85 ci_X11_known cv_X11_known (K_0 h0) (T := zT11) rfl rfl (Nat.le_of_ble_eq_true rfl) d_L_known_5) (s_X11_known hst h0 (by omega)) (fun v D1 => ?_) (fun e D1 k hk => ?_)
  · refine r_i2l d_L_known_8 ?_
    refine q_last (j := 0) (K_206 h0) (by unfold vp_in; decide) rfl d_L_known_9 ?_
    refine r_goto 17 d_L_known_10 (by decide) ?_
    refine r_iconst (0 : Int32) d_L_known_17 rfl ?_
    exact r_iret rfl d_L_known_18
  · unfold wk1 at hk
    by_cases h0 : e = 2
    · subst h0
      cases hk
      refine x_catchW (name := "java/lang/IndexOutOfBoundsException") 4 [] ⟨0, 10, 13, 33⟩ [] rfl (fun z hz => by cases hz) (by decide) (by decide) cl_L_33 ca_1293 (Nat.le_of_ble_eq_true rfl) d_L_known_13 (ls' := [(0, .ref 0), (1, .int v1), (2, .int v2), (3, .ref 206)]) rfl ?_
      refine r_iconst (1 : Int32) d_L_known_15 rfl ?_
      exact r_iret rfl d_L_known_16
    · simp [h0] at hk
