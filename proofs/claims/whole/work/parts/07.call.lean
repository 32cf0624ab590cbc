/-! the mini machine: calls and ends -/
section ROWS4
variable {X : zX} {Y Y2 : zY} {d pc : Nat} {ls : List (Nat × Value)} {st av : List Value} {M : zM} {r r1 : Option (zOut × zM)} {Sh : zSh} {D : zD}
/-- what a callee is, by the tables; it takes n arguments beside its object -/
def zCk (Y2 : zY) (n : Nat) : Prop := yC Y2 ∈ z_T ∧ Cond.initialized (yN Y2).cls ∈ z_T ∧ plainName (yN Y2).cls = true ∧ ((yN Y2).cls ≠ "java/lang/invoke/MethodHandle" ∧ (yN Y2).cls ≠ "java/lang/invoke/VarHandle") ∧ (parseMethodDescriptor (yN Y2).desc).map (fun d => d.parameters.length) = some n ∧ yL Y2 ≤ 21
theorem zts_pay {args : Array Value} {s : State} (h : ∀ w ∈ z_T, w.before args s = true) {w0 : Cond} (h0 : w0 ∈ z_T) : ∀ w ∈ w0 :: z_T, ∀ (a' : Array Value) (U : State), s.WarmedH U.vm → w.before a' U = true := by
  intro w hw a' U hW
  have hw2 : w ∈ z_T := (List.mem_cons.mp hw).elim (fun e => e ▸ h0) id
  exact word_at hW (good_of_word (z_in_good hw2)) (h w hw2)
theorem z_Nw {s U : State} (hW : s.WarmedH U.vm) {w : Cond} (hw : w ∈ z_N) (h : va_Nw w s) : va_Nw w U := by
  have hk : zNk w = true := (List.mem_filter.mp hw).2
  cases w <;> first | exact va_Nw.warmF hW h | exact va_Nw.warmM hW h | exact va_Nw.warmD hW h | exact va_Nw.warmC hW h | (simp [zNk] at hk)
theorem z_AOw {s U : State} (hW : s.WarmedH U.vm) {ty : FieldType} (h : va_Nw (.arrayOver ty) s) : va_Nw (.arrayOver ty) U := by
  have h1 : (Cond.arrayOver ty).before #[] (s.setVm U.vm) = true := by
    rw [Cond.arrayOver_setVmC hW.alike ty]
    exact h
  exact h1
theorem zKK.warm {s U : State} (hW : s.WarmedH U.vm) (h : zKK X s) : zKK X U :=
  ⟨va_K.moved hW.alike h.1, ⟨vx_Zq.moved hW.alike h.2.1.1, vx_Zq.moved hW.alike h.2.1.2⟩, fun q hq => vk_R.warm hW (h.2.2.1 q hq), ⟨vk_S.moved hW.alike h.2.2.2.1.1, va_Z.moved hW.alike h.2.2.2.1.2.1, h.2.2.2.1.2.2.1.imp (va_Z.moved hW.alike) (va_Z.moved hW.alike), fun ty ht => z_AOw hW (h.2.2.2.1.2.2.2.1 ty ht), va_X.moved hW.alike h.2.2.2.1.2.2.2.2⟩, fun w hw => z_Nw hW hw (h.2.2.2.2.1 w hw), fun q hq => va_Nc.moved hW.alike (h.2.2.2.2.2 q hq)⟩
def zPc (X : zX) (av : List Value) (M : zM) : Array Value → State → Prop := va_Pc (av.map (zrv X)) (fun U => zHR X M U.heap ∧ zKK X U)
theorem zPc.blind : FrameBlind (zPc X av M) := fun a U g mk h => ⟨h.1, h.2.1, zKK.warm (s := U) (U := U.calling g mk a) (State.WarmedH.refl U) h.2.2⟩
theorem zPc.pre {s : State} {H : Heap} (hH : zHR X M H) (hK : zKK X s) : ∀ U : State, U.heap = H → s.WarmedH U.vm → zPc X av M (av.map (zrv X)).toArray U := fun U hU hW => ⟨rfl, by rw [hU]; exact hH, hK.warm hW⟩
/-- a run of a callee, at whatever it ends -/
def zRun (X : zX) (Y : zY) (d pc : Nat) (av st : List Value) (Y2 : zY) (M : zM) : Prop :=
  ∀ (o1 : zOut) (M1 : zM) (p : Program) (e : Env) (Rm : Room) (s : State) (m : MethodId) (args : Array Value) (below : List Frame) (meth : Method) (c : Code) (mc ms mc1 ms1 : Nat), zEv X Y (d + 1) mc ms p Rm s m args meth c →
    vx_Met (zl X) (yN Y2) (yC Y2 :: z_T) (zRm d mc1 ms1) (zPc X av M) (zQc X o1 M1) (zXc X o1 M1) mc1 ms1 (zF X) →
    ∀ (H : Heap) (locs : List Loc) (cells slots : Nat) (la : Array Slot), zHR X M H → la.size = yL Y → cells + mc1 ≤ Rm.cells → slots + ms1 ≤ Rm.slots →
      vx_Run p (zl X) e Rm s m args below meth c H locs cells slots mc1 ms1 (F0 m pc la ((av.reverse ++ st).map (zrv X))) (st.map (zrv X)) (zQc X o1 M1 (av.map (zrv X)).toArray) (zXc X o1 M1) (zF X)
theorem z_stk {Av St : List Value} {f : Value → Value} {b : Value} : ((b :: Av).reverse ++ St).map f = (Av.map f).reverse ++ f b :: St.map f := by
  rw [List.map_append, List.map_reverse, List.map_cons, List.reverse_cons, List.append_assoc]
  rfl
theorem z_stS {Av St : List Value} {f : Value → Value} : (Av.reverse ++ St).map f = (Av.map f).reverse ++ St.map f := by
  rw [List.map_append, List.map_reverse]
theorem z_cat {St : List Value} : ((St.map (zrv X)).map fun v => v.category).sum = (St.map fun v => v.category).sum := by
  rw [List.map_map]
  congr 2
  funext v
  exact zrv_cat v
theorem z_callB {R : Room} {s : State} {args : Array Value} {idx mc1 ms1 n : Nat} {p : Program} {m : MethodId} {meth : Method} {c : Code} {mc ms : Nat} (E : zEv X Y (d + 1) mc ms p R s m args meth c) (hC : zCk Y2 n) (hE : yE Y2 = []) (hl : (Cond.methodLink (yO Y) idx (yN Y2)) ∈ z_T) :
    CallB R s args (yO Y) idx (yN Y2) (yB Y2) (yL Y2) (yR Y2) (yC Y2 :: z_T) (zRm d mc1 ms1) mc1 ms1 n := by
  obtain ⟨h1, h2, h3, h4, h5, h6⟩ := hC
  have ec : yC Y2 = .code (yN Y2) (yB Y2) (yL Y2) (yR Y2) := by rw [yC, hE]; rfl
  have hts := E.2.2.2.2.2.1
  have e1 := E.2.2.2.2.2.2.2.2.2.2.1
  have e2 := E.2.2.2.2.2.2.2.2.2.2.2.1
  refine ⟨rfl, rfl, e1, by show 8 + (yL Y2 + 11) + 40 * d ≤ R.locals; omega, zts_pay hts h1, by rw [ec]; exact List.mem_cons_self, by rw [← ec]; exact hts _ h1, hts _ h2, h4, fun sig h => ?_, hts _ hl⟩
  rw [h] at h5
  exact (Option.some.inj h5).symm
theorem z_callN {R : Room} {s : State} {args : Array Value} {idx mc1 ms1 n : Nat} {host : String} {p : Program} {m : MethodId} {meth : Method} {c : Code} {mc ms : Nat} (E : zEv X Y (d + 1) mc ms p R s m args meth c) (hC : zCk Y2 n) (hE : yE Y2 = []) (hl : (Cond.methodLinkNest (yO Y) idx (yN Y2) host) ∈ z_N) :
    va_CN R s args (yO Y) idx (yN Y2) host (yB Y2) (yL Y2) (yR Y2) (yC Y2 :: z_T) (zRm d mc1 ms1) mc1 ms1 n := by
  obtain ⟨h1, h2, h3, h4, h5, h6⟩ := hC
  have ec : yC Y2 = .code (yN Y2) (yB Y2) (yL Y2) (yR Y2) := by rw [yC, hE]; rfl
  have hts := E.2.2.2.2.2.1
  have e1 := E.2.2.2.2.2.2.2.2.2.2.1
  have e2 := E.2.2.2.2.2.2.2.2.2.2.2.1
  refine ⟨⟨rfl, rfl, e1, by show 8 + (yL Y2 + 11) + 40 * d ≤ R.locals; omega, zts_pay hts h1, by rw [ec]; exact List.mem_cons_self⟩, by rw [← ec]; exact hts _ h1, hts _ h2, h4, fun sig h => ?_, va_Nw.use rfl (E.2.2.2.2.2.2.2.2.1.2.2.2.2.1 _ hl)⟩
  rw [h] at h5
  exact (Option.some.inj h5).symm
theorem z_runV {idx n k ci N : Nat} {Av : List Value} (hC : zCk Y2 n) (hE : yE Y2 = []) (hl : Cond.methodLink (yO Y) idx (yN Y2) ∈ z_T) (hi : Cond.instanceMethod (yN Y2) ∈ z_T) (hs : Cond.selects (yN Y2).cls (yN Y2) (yN Y2) ∈ z_T) (hk : M.1.1[k]? = some (ci + 7, N)) {T : u_T} (hc : z_cl[ci]? = some ((yN Y2).cls, T, N)) (hn : Av.length = n) (hst : (st.map fun v => v.category).sum ≤ 8) (dg : decode (yB Y) pc = .ok (.invokevirtual idx, 3)) : zRun X Y d pc (.ref k :: Av) st Y2 M := by
  intro o1 M1 p e Rm s m args below meth c mc ms mc1 ms1 E hM H locs cells slots la hH hla h1 h2
  have hts := E.2.2.2.2.2.1
  have hrecv : ∃ cellB : Cell, H[zad X k]? = some cellB ∧ cellB.vm.isStatics = false ∧ s.vm.findClass (yN Y2).cls = some cellB.cls := va_recv (q0 := 0) E.2.2.2.2.2.2.2.2.1.1 (hH.at hk) hc rfl
  exact vx_runV (As := Av.map (zrv X)) (b := zad X k) ⟨E.1, E.2.1, E.2.2.2.1, E.2.2.2.2.1, hts⟩ hM ⟨z_callB E hC hE hl, hts _ hi, hts _ hs⟩ ⟨zPc.blind, hrecv, zPc.pre hH E.2.2.2.2.2.2.2.2.1⟩ rfl (by rw [List.length_map]; exact hn) hla z_stk (by rw [z_cat]; show 2 * 0 + _ ≤ 8; omega) dg ⟨h1, h2⟩
theorem z_runS {idx n : Nat} (hC : zCk Y2 n) (hE : yE Y2 = []) (hl : Cond.methodLink (yO Y) idx (yN Y2) ∈ z_T) (hs : Cond.static (yN Y2) ∈ z_T) (hn : av.length = n) (hst : (st.map fun v => v.category).sum ≤ 8) (dg : decode (yB Y) pc = .ok (.invokestatic idx, 3)) : zRun X Y d pc av st Y2 M := by
  intro o1 M1 p e Rm s m args below meth c mc ms mc1 ms1 E hM H locs cells slots la hH hla h1 h2
  have hts := E.2.2.2.2.2.1
  exact vx_runS (As := av.map (zrv X)) ⟨E.1, E.2.1, E.2.2.2.1, E.2.2.2.2.1, hts⟩ hM ⟨z_callB E hC hE hl, hts _ hs⟩ ⟨zPc.blind, zPc.pre hH E.2.2.2.2.2.2.2.2.1⟩ rfl (by rw [List.length_map]; exact hn) hla z_stS (by rw [z_cat]; show 2 * 0 + _ ≤ 8; omega) dg ⟨h1, h2⟩
theorem z_runI {idx n k : Nat} {Av : List Value} (hC : zCk Y2 n) (hE : yE Y2 = []) (hr : yR Y2 = none) (hl : Cond.methodLink (yO Y) idx (yN Y2) ∈ z_T) (hi : Cond.instanceMethod (yN Y2) ∈ z_T) (h0 : (yN Y2).name = "<init>") (hn : Av.length = n) (hst : (st.map fun v => v.category).sum ≤ 8) (dg : decode (yB Y) pc = .ok (.invokespecial idx, 3)) : zRun X Y d pc (.ref k :: Av) st Y2 M := by
  intro o1 M1 p e Rm s m args below meth c mc ms mc1 ms1 E hM H locs cells slots la hH hla h1 h2
  have hts := E.2.2.2.2.2.1
  have hB := z_callB (mc1 := mc1) (ms1 := ms1) E hC hE hl
  rw [hr] at hB
  exact vx_runI (As := Av.map (zrv X)) (b := zad X k) ⟨E.1, E.2.1, E.2.2.2.1, E.2.2.2.2.1, hts⟩ hM ⟨hB, h0, hts _ hi⟩ ⟨zPc.blind, zPc.pre hH E.2.2.2.2.2.2.2.2.1⟩ rfl (by rw [List.length_map]; exact hn) hla z_stk (by rw [z_cat]; show 2 * 0 + _ ≤ 8; omega) dg ⟨h1, h2⟩
theorem z_runIN {idx n k : Nat} {host : String} {Av : List Value} (hC : zCk Y2 n) (hE : yE Y2 = []) (hr : yR Y2 = none) (hl : Cond.methodLinkNest (yO Y) idx (yN Y2) host ∈ z_N) (hi : Cond.instanceMethod (yN Y2) ∈ z_T) (h0 : (yN Y2).name = "<init>") (hn : Av.length = n) (hst : (st.map fun v => v.category).sum ≤ 8) (dg : decode (yB Y) pc = .ok (.invokespecial idx, 3)) : zRun X Y d pc (.ref k :: Av) st Y2 M := by
  intro o1 M1 p e Rm s m args below meth c mc ms mc1 ms1 E hM H locs cells slots la hH hla h1 h2
  have hts := E.2.2.2.2.2.1
  have hB := z_callN (mc1 := mc1) (ms1 := ms1) E hC hE hl
  rw [hr] at hB
  exact vx_runIN (As := Av.map (zrv X)) (b := zad X k) ⟨E.1, E.2.1, E.2.2.2.1, E.2.2.2.2.1, hts⟩ hM ⟨hB, h0, hts _ hi⟩ ⟨zPc.blind, zPc.pre hH E.2.2.2.2.2.2.2.2.1⟩ rfl (by rw [List.length_map]; exact hn) hla z_stk (by rw [z_cat]; show 2 * 0 + _ ≤ 8; omega) dg ⟨h1, h2⟩
theorem z_runSN {idx n : Nat} {host : String} (hC : zCk Y2 n) (hE : yE Y2 = []) (hl : Cond.methodLinkNest (yO Y) idx (yN Y2) host ∈ z_N) (hs : Cond.static (yN Y2) ∈ z_T) (hn : av.length = n) (hst : (st.map fun v => v.category).sum ≤ 8) (dg : decode (yB Y) pc = .ok (.invokestatic idx, 3)) : zRun X Y d pc av st Y2 M := by
  intro o1 M1 p e Rm s m args below meth c mc ms mc1 ms1 E hM H locs cells slots la hH hla h1 h2
  have hts := E.2.2.2.2.2.1
  exact vx_runSN (As := av.map (zrv X)) ⟨E.1, E.2.1, E.2.2.2.1, E.2.2.2.2.1, hts⟩ hM ⟨z_callN E hC hE hl, hts _ hs, trivial⟩ ⟨zPc.blind, zPc.pre hH E.2.2.2.2.2.2.2.2.1⟩ rfl (by rw [List.length_map]; exact hn) hla z_stS (by rw [z_cat]; show 2 * 0 + _ ≤ 8; omega) dg ⟨h1, h2⟩
/-- a static method with a table of handlers -/
theorem z_runSX {idx n : Nat} (hC : zCk Y2 n) (hE : (yE Y2).isEmpty = false) (hl : Cond.methodLink (yO Y) idx (yN Y2) ∈ z_T) (hs : Cond.static (yN Y2) ∈ z_T) (hn : av.length = n) (hst : (st.map fun v => v.category).sum ≤ 8) (dg : decode (yB Y) pc = .ok (.invokestatic idx, 3)) : zRun X Y d pc av st Y2 M := by
  intro o1 M1 p e Rm s m args below meth c mc ms mc1 ms1 E hM H locs cells slots la hH hla h1 h2
  have hts := E.2.2.2.2.2.1
  obtain ⟨g1, g2, g3, g4, g5, g6⟩ := hC
  have ec : yC Y2 = .codeWith (yN Y2) (yB Y2) (yL Y2) (yR Y2) (yE Y2) := by rw [yC, hE]; rfl
  have e1 := E.2.2.2.2.2.2.2.2.2.2.1
  have e2 := E.2.2.2.2.2.2.2.2.2.2.2.1
  have hcw : vx_CSW Rm s args (yO Y) idx (yN Y2) (yB Y2) (yL Y2) (yR Y2) (yE Y2) (yC Y2 :: z_T) (zRm d mc1 ms1) mc1 ms1 n := by
    refine ⟨⟨rfl, rfl, e1, by show 8 + (yL Y2 + 11) + 40 * d ≤ Rm.locals; omega, zts_pay hts g1, by rw [ec]; exact List.mem_cons_self⟩, by rw [← ec]; exact hts _ g1, hts _ g2, g4, fun sig h => ?_, hts _ hl, hts _ hs⟩
    rw [h] at g5
    exact (Option.some.inj g5).symm
  exact vx_runSX (As := av.map (zrv X)) ⟨E.1, E.2.1, E.2.2.2.1, E.2.2.2.2.1, hts⟩ hM hcw ⟨zPc.blind, zPc.pre hH E.2.2.2.2.2.2.2.2.1⟩ rfl (by rw [List.length_map]; exact hn) hla z_stS (by rw [z_cat]; show 2 * 0 + _ ≤ 8; omega) dg ⟨h1, h2⟩
/-- E has been thrown over this point -/
def RnX (X : zX) (Y : zY) (d pc : Nat) (ls : List (Nat × Value)) (st : List Value) (M : zM) (E : String) (r : Option (zOut × zM)) : Prop :=
  ∀ (o : zOut) (M' : zM), r = some (o, M') → ∀ (p : Program) (e : Env) (Rm : Room) (s : State) (m : MethodId) (args : Array Value) (below : List Frame) (meth : Method) (c : Code) (mc ms : Nat), zEv X Y d mc ms p Rm s m args meth c →
    ∀ (H : Heap) (locs : List Loc) (cells slots : Nat) (la : Array Slot) (q : Nat) (ce : Cell), zSt X Y s M M' ls H locs cells slots mc ms la → H[q]? = some ce → ce.vm = .none → s.vm.findClass E = some ce.cls →
      vx_W p (zl X) e Rm s m args below meth c H locs cells slots (vx_MQ below (zQc X o M') (zXc X o M') args s mc ms (zF X)) (F0 m pc la (st.map (zrv X))) q
/-- a call: what it answers is known beforehand (r1) -/
theorem r_call {Y2 : zY} {av : List Value} {d2 : Nat} (hR : zRun X Y d pc av st Y2 M) (hS : Sd X Y2 d av M r1) (hn : r1 = none → r = none)
    (hk : ∀ v M1, r1 = some (.inl v, M1) → (zcc M ≤ zcc M1 ∧ zsc M ≤ zsc M1) ∧ zGr M1 r ∧ Rn X Y (d + 1) (pc + 3) ls (v.toList ++ st) M1 r)
    (hx : ∀ E M1, r1 = some (.inr E, M1) → (zcc M ≤ zcc M1 ∧ zsc M ≤ zsc M1) ∧ zGr M1 r ∧ RnX X Y (d + 1) pc ls st M1 E r) : Rn X Y (d + 1) pc ls (av.reverse ++ st) M r := by
  intro o M' hr p e Rm s m args below meth c mc ms E H locs cells slots la S
  cases h1 : r1 with
  | none => rw [hn h1] at hr; cases hr
  | some q =>
    obtain ⟨o1, M1⟩ := q
    have hmono : (zcc M ≤ zcc M1 ∧ zsc M ≤ zsc M1) ∧ zGr M1 r := by
      cases o1 with
      | inl v => exact ⟨(hk v M1 h1).1, (hk v M1 h1).2.1⟩
      | inr E1 => exact ⟨(hx E1 M1 h1).1, (hx E1 M1 h1).2.1⟩
    obtain ⟨⟨m1, m2⟩, m3⟩ := hmono
    obtain ⟨m3, m4⟩ := m3 o M' hr
    have b1 := S.2.2.2.2.1
    have b2 := S.2.2.2.2.2.1
    have e1 := E.2.2.2.2.2.2.2.2.2.2.2.2.1
    have e2 := E.2.2.2.2.2.2.2.2.2.2.2.2.2.1
    have hM := hS o1 M1 h1 (zcc M1 - zcc M) (zsc M1 - zsc M) (by omega) (by omega) m1 m2
    have run := hR o1 M1 p e Rm s m args below meth c mc ms _ _ E hM H locs cells slots la S.1 S.2.2.2.1.1 (by omega) (by omega)
    intro T hT Xs
    rcases run T hT Xs with ⟨v, st₀, t, T', L, h0, X', hL, f1, f2, ⟨⟨v1, g1, g2⟩, g3, g4⟩, go⟩ | ⟨q, st₀, t, T', L, E1, ce, h0, X', hL, f1, f2, ⟨g1, g3, g4⟩, hce, hcv, hcl, go⟩
    · subst g1
      obtain ⟨-, -, k3⟩ := hk v1 M1 h1
      cases g2
      have hz : H.size ≤ T'.heap.size := by rw [f1, ← h0]; exact g3
      have S' : zSt X Y s M1 M' ls T'.heap (locs ++ L) (cells + (zcc M1 - zcc M)) (slots + (zsc M1 - zsc M)) mc ms la :=
        ⟨by rw [f1]; exact g4, Nat.le_trans S.2.1 hz, fun z hz => (List.mem_append.mp hz).elim (S.2.2.1 z) (hL z), S.2.2.2.1, by omega, by omega, m3, m4⟩
      have kk := k3 o M' hr p e Rm s m args below meth c mc ms E T'.heap _ _ _ la S'
      obtain ⟨t2, a1, b1⟩ := kk T' rfl X'
      refine ⟨t2, go t2 ?_, b1⟩
      have ev : (v1.map (zrv X)).toList ++ st.map (zrv X) = (v1.toList ++ st).map (zrv X) := by
        cases v1 <;> simp
      rw [ev]
      exact a1
    · subst g1
      obtain ⟨-, -, k3⟩ := hx E1 M1 h1
      have hz : H.size ≤ T'.heap.size := by rw [f1, ← h0]; exact g3
      have S' : zSt X Y s M1 M' ls T'.heap (locs ++ L) (cells + (zcc M1 - zcc M)) (slots + (zsc M1 - zsc M)) mc ms la :=
        ⟨by rw [f1]; exact g4, Nat.le_trans S.2.1 hz, fun z hz => (List.mem_append.mp hz).elim (S.2.2.1 z) (hL z), S.2.2.2.1, by omega, by omega, m3, m4⟩
      have kk := k3 o M' hr p e Rm s m args below meth c mc ms E T'.heap _ _ _ la q ce S' (by rw [f1]; exact hce) hcv hcl
      obtain ⟨t2, a1, b1⟩ := kk T' rfl X'
      exact ⟨t2, go.trans a1, b1⟩
/-- not caught here -/
theorem x_out {E : String} (hE : ∀ x ∈ tableOf (yE Y), covers x pc = false) (hr0 : r = some (.inr E, M)) : RnX X Y d pc ls st M E r := by
  intro o M' hr p e Rm s m args below meth c mc ms Ev H locs cells slots la q ce S h1 h2 h3
  rw [hr0] at hr
  cases hr
  have b1 := S.2.2.2.2.1
  have b2 := S.2.2.2.2.2.1
  exact vx_out (E := E) (by rw [Ev.2.2.2.2.2.2.2.2.2.1]; exact hE) Ev.2.2.2.2.2.2.1 h1 h2 h3 (fun t ht hA => ⟨rfl, by rw [ht]; exact S.2.1, by rw [ht]; exact S.1⟩) S.2.2.1 (by omega) (by omega)
/-- caught by the row x; the handler puts the exception into place i first -/
theorem x_catch {E name : String} {n : Fin 4} (i : Nat) (pre : List ExceptionTableEntry) (x : ExceptionTableEntry) (suf : List ExceptionTableEntry) (hs : tableOf (yE Y) = pre ++ x :: suf) (hp : ∀ z ∈ pre, covers z pc = false ∨ (z.catchType ≠ 0 ∧ ∃ nm : String, Cond.classLink (yO Y) z.catchType nm ∈ z_T ∧ (E, nm) ∈ z_nc)) (hx : covers x pc = true) (h0 : x.catchType ≠ 0) (hl : Cond.classLink (yO Y) x.catchType name ∈ z_T) (hc : Cond.castable E name ∈ z_N)
    (hi : (n : Nat) = i) (hn : i < yL Y) (dg : decode (yB Y) x.handlerPc = .ok (.astore_n n, 1)) {ls' : List (Nat × Value)} (hls : ls.filter (fun q => !(q.1 == i) && !(q.1 + 1 == i && q.2.category == 2)) = ls') (k : Rn X Y d (x.handlerPc + 1) ls' [] M r) : RnX X Y d pc ls st M E r := by
  subst hls
  intro o M' hr p e Rm s m args below meth c mc ms Ev H locs cells slots la q ce S h1 h2 h3
  have hts := Ev.2.2.2.2.2.1
  have hKK := Ev.2.2.2.2.2.2.2.2.1
  refine vx_catch Ev.2.2.2.2.1 pre x suf (Ev.2.2.2.2.2.2.2.2.2.1.trans hs) (fun z hz => ?_) hx h0 (hts _ hl) (va_Nw.use rfl (hKK.2.2.2.2.1 _ hc)) h1 h2 h3 ?_
  · rcases hp z hz with h | ⟨g1, nm, g2, g3⟩
    · exact Or.inl h
    · exact Or.inr ⟨g1, nm, hts _ g2, hKK.2.2.2.2.2 _ g3⟩
  · refine lv_astore_n Ev.1 Ev.2.1 dg hi S.2.2.2.1 hn rfl (fun la' hla => ?_)
    have hla2 : lv_has la' (yL Y) ((ls.filter (fun q => !(q.1 == i) && !(q.1 + 1 == i && q.2.category == 2))).map (fun q => (q.1, zrv X q.2))) := by
      refine ⟨hla.1, hla.2.1, fun w hw => hla.2.2 w (List.mem_cons_of_mem _ ?_)⟩
      have e := z_set1 (X := X) (ls := ls) i .null
      have e2 := (List.cons.inj e).2
      rw [e2]
      exact hw
    exact k o M' hr p e Rm s m args below meth c mc ms Ev H locs cells slots la' ⟨S.1, S.2.1, S.2.2.1, hla2, S.2.2.2.2⟩
/-- the ends -/
theorem r_fin {v : Option Value} (ret : ∀ (p : Program) (e : Env) (Rm : Room) (s : State) (m : MethodId) (args : Array Value) (below : List Frame) (meth : Method) (c : Code) (H : Heap) (locs : List Loc) (mc ms : Nat) (la : Array Slot) (Qc : Array Value → State → Outcome → State → Prop), p.tables.exec = Jvm.exec → c.code = yB Y → meth.sig.returnType = yR Y → meth.locks = false → (∀ t : State, t.heap = H → s.WarmedH t.vm → Qc args s (.returned (v.map (zrv X))) t) → (∀ q ∈ locs, zF X q.base) →
      W p (zl X) e Rm s m args below meth c H locs mc ms (MQ below Qc args s mc ms (zF X)) (F0 m pc la (v.toList.map (zrv X)))) : Rn X Y d pc ls v.toList M (some (.inl v, M)) := by
  intro o M' hr p e Rm s m args below meth c mc ms E H locs cells slots la S
  cases hr
  have b1 := S.2.2.2.2.1
  have b2 := S.2.2.2.2.2.1
  refine W.widen (k := mc) (n := ms) (by omega) (by omega) (vx_ret (ret p e Rm s m args below meth c H locs mc ms la _ E.1 E.2.1 E.2.2.1 E.2.2.2.2.2.2.1 (fun t ht hW => ⟨⟨v, rfl, rfl⟩, by rw [ht]; exact S.2.1, by rw [ht]; exact S.1⟩) S.2.2.1))
theorem r_iret {x : Int32} (hr : yR Y = some .int) (dg : decode (yB Y) pc = .ok (.ireturn, 1)) : Rn X Y d pc ls [.int x] M (some (.inl (some (.int x)), M)) :=
  r_fin (v := some (.int x)) (fun p e Rm s m args below meth c H locs mc ms la Qc h1 h2 h3 h4 h5 h6 => W.iret (v := x) h1 h2 (h3.trans hr) h5 h6 dg h4)
theorem r_zret {x : Int32} (hr : yR Y = some .boolean) (hx : x = 0 ∨ x = 1) (dg : decode (yB Y) pc = .ok (.ireturn, 1)) : Rn X Y d pc ls [.int x] M (some (.inl (some (.int x)), M)) :=
  r_fin (v := some (.int x)) (fun p e Rm s m args below meth c H locs mc ms la Qc h1 h2 h3 h4 h5 h6 => W.zret (v := x) (ty := .boolean) h1 h2 (h3.trans hr) (by rcases hx with rfl | rfl <;> rfl) h5 h6 dg h4)
theorem r_vret (hr : yR Y = none) (dg : decode (yB Y) pc = .ok (.return_, 1)) : Rn X Y d pc ls [] M (some (.inl none, M)) :=
  r_fin (v := none) (fun p e Rm s m args below meth c H locs mc ms la Qc h1 h2 h3 h4 h5 h6 => W.vret h1 h2 (h3.trans hr) h5 h6 dg h4)
theorem r_aret {q : Nat} {rt : FieldType} (hr : yR Y = some rt) (hrt : (∃ n, rt = .object n) ∨ ∃ t, rt = .array t) (dg : decode (yB Y) pc = .ok (.areturn, 1)) : Rn X Y d pc ls [.ref q] M (some (.inl (some (.ref q)), M)) :=
  r_fin (v := some (.ref q)) (fun p e Rm s m args below meth c H locs mc ms la Qc h1 h2 h3 h4 h5 h6 => W.aret (v := .ref (zad X q)) h1 h2 (h3.trans hr) hrt (Or.inr ⟨_, rfl⟩) h5 h6 dg h4)
theorem z_lgl (l : List Value) : (lg_sl (l.map (zrv X))).length = (lg_sl l).length := by
  induction l with
  | nil => rfl
  | cons v l ih =>
    simp only [List.map_cons, lg_sl, List.flatMap_cons, List.length_append, zrv_cat] at ih ⊢
    rw [ih]
    by_cases hc : v.category = 2 <;> simp [hc]
theorem z_lva (l : List Value) : ∀ i : Nat, lv_args i (l.map (zrv X)) = (lv_args i l).map (fun q => (q.1, zrv X q.2)) := by
  induction l with
  | nil => intro i; rfl
  | cons v l ih => intro i; simp only [List.map_cons, lv_args, zrv_cat, ih]
/-- a whole method out of its body (no table of handlers) -/
theorem z_body {n : Nat} (hC : zCk Y n) (hE : yE Y = []) (hsz : (lg_sl av).length ≤ yL Y) (hO : yO Y = (yN Y).cls) (hst : (zl X).stackTraces = false) (k : Rn X Y d 0 (lv_args 0 av) [] M r) : Sd X Y d av M r := by
  intro o M' hr mc ms b1 b2 b3 b4
  obtain ⟨h1, h2, h3, h4, h5, h6⟩ := hC
  have ec : yC Y = .code (yN Y) (yB Y) (yL Y) (yR Y) := by rw [yC, hE]; rfl
  refine vx_ofW (cc := yB Y) (maxL := yL Y) (ret := yR Y) h3 (by rw [ec]) ?_
  intro p e s m args below meth c s₁ B hml ht hv
  obtain ⟨rfl, hH, hK⟩ := hv
  have hts := atoms_spec (ws := yC Y :: z_T) B.pre
  have hown : s.vm.findClass (yO Y) = some m.cls := by rw [hO]; exact findClass_of_methodNamed B.named
  have hname : meth.name = (yN Y).name := (name_of_methodNamed B.named B.method).1
  have Ev : zEv X Y d mc ms p (zRm d mc ms) s m ((av.map (zrv X)).toArray) meth c := by
    refine ⟨B.exec, B.bytes, B.returns, hml, hown, fun w hw => hts w (List.mem_cons_of_mem _ hw), B.notSynchronized, hname, hK, ?_, Nat.le_refl _, Nat.le_refl _, Nat.le_refl _, Nat.le_refl _, hst, Nat.le_trans (Nat.le_add_right _ _) hH.1, hH.2.2.2.1⟩
    rw [hE]
    exact List.eq_nil_iff_forall_not_mem.mpr (fun x hx => ht x hx)
  have hlen := z_lgl (X := X) av
  have hl := lv_entry (av.map (zrv X)) (n := yL Y) (by rw [hlen]; exact hsz)
  rw [lg_entry_eq]
  rw [z_lva] at hl
  exact k o M' hr p e (zRm d mc ms) s m _ below meth c mc ms Ev s.heap [] 0 0 _ ⟨hH, Nat.le_refl _, (fun z hz => by cases hz), hl, by omega, by omega, b3, b4⟩
/-- one exception more has been made -/
def zEx (M : zM) : zM := ((M.1.1, M.1.2.1, M.1.2.2 + 1), M.2)
theorem zHR.ex {H H1 : Heap} (h : zHR X M H) (hz : H.size ≤ H1.size) (ho : ∀ q, q < H.size → H1[q]? = H[q]?) : zHR X (zEx M) H1 := by
  refine ⟨Nat.le_trans h.1 hz, fun h0 => absurd h0 (Nat.succ_ne_zero _), h.2.2.1, fun q hq => ?_, fun k kd hk => ?_⟩
  · rw [ho q (by have := h.1; omega)]; exact h.2.2.2.1 q hq
  · have hl := (List.getElem?_eq_some_iff.mp hk).1
    have hl' : k < M.1.1.length := hl
    have := h.2.2.1
    rw [zeO_congr (M := M) (M2 := zEx M) rfl rfl rfl]
    exact (h.2.2.2.2 k kd hk).kept (ho _ (by rw [zad_small (by omega)]; have := h.1; omega))
/-- the words of throwing cls by own -/
def zTw (own : String) (ik is ic : Nat) (cls text : String) (sn : Nat) (names : List String) : Prop := Bundle.fit cls = true ∧ (∀ n ∈ names, Bundle.fit n = true) ∧ names.length ≤ 3 ∧ (∀ w ∈ Cond.classLink own ik cls :: Cond.initialized cls :: vx_atS own ic cls names, w ∈ z_T ∨ w ∈ z_N) ∧ (own, is, text, sn) ∈ z_str
theorem z_ot {w : Cond} (h : w ∈ z_T ∨ w ∈ z_N) : vx_ot w = true := by
  rcases h with h | h
  · simp [vx_ot, z_in_good h]
  · have hk : zNk w = true := (List.mem_filter.mp h).2
    cases w <;> first | rfl | (simp [zNk] at hk)
theorem z_otb {args : Array Value} {s : State} (hts : ∀ w ∈ z_T, w.before args s = true) (hK : zKK X s) {w : Cond} (h : w ∈ z_T ∨ w ∈ z_N) : w.before args s = true := by
  rcases h with h | h
  · exact hts w h
  · have hk : zNk w = true := (List.mem_filter.mp h).2
    have h1 := hK.2.2.2.2.1 w h
    cases w <;> first | exact va_Nw.use rfl h1 | (simp [zNk] at hk)
theorem r_throw {ik is ic sn : Nat} {cls text : String} {names : List String} (w : zTw (yO Y) ik is ic cls text sn names) (d0 : decode (yB Y) pc = .ok (.new ik, 3)) (d3 : decode (yB Y) (pc + 3) = .ok (.dup, 1)) (d4 : decode (yB Y) (pc + 4) = .ok (.ldc is, 2)) (d6 : decode (yB Y) (pc + 6) = .ok (.invokespecial ic, 3)) (d9 : decode (yB Y) (pc + 9) = .ok (.athrow, 1))
    (hE : yE Y = []) (hd : 7 ≤ d) (hst : (st.map fun v => v.category).sum ≤ 8) : Rn X Y d pc ls st M (some (.inr cls, zEx M)) := by
  intro o M' hr p e Rm s m args below meth c mc ms E H locs cells slots la S
  cases hr
  obtain ⟨w1, w2, w3, w4, w5⟩ := w
  have hts := E.2.2.2.2.2.1
  have hKK := E.2.2.2.2.2.2.2.2.1
  have b1 : cells + (M.1.1.length + (M.1.2.2 + 1)) ≤ mc + (M.1.1.length + M.1.2.2) := S.2.2.2.2.1
  have b2 : slots + ((M.1.1.map (fun q => q.2)).sum + 6 * (M.1.2.2 + 1)) ≤ ms + ((M.1.1.map (fun q => q.2)).sum + 6 * M.1.2.2) := S.2.2.2.2.2.1
  have f1 := E.2.2.2.2.2.2.2.2.2.2.1
  have f2 := E.2.2.2.2.2.2.2.2.2.2.2.1
  have f3 := E.2.2.2.2.2.2.2.2.2.2.2.2.1
  have f4 := E.2.2.2.2.2.2.2.2.2.2.2.2.2.1
  have f5 := E.2.2.2.2.2.2.2.2.2.2.2.2.2.2.1
  have f6 := E.2.2.2.2.2.2.2.2.2.2.2.2.2.2.2.1
  have f7 := E.2.2.2.2.2.2.2.2.2.2.2.2.2.2.2.2
  have hmv : ∀ a : Nat, a < (zH X).size → ¬ zF X a → s.heap[a]? = (zH X)[a]? := fun a _ h => f7 a (Nat.not_le.mp h)
  have hS : va_S (zF X) s.heap H locs := ⟨S.2.1, fun q _ h2 => by
    have h3 : q < zb X := Nat.not_le.mp h2
    rw [S.1.2.2.2.1 q h3, f7 q h3], S.2.2.1⟩
  refine vx_throwS (names := names) (cls := cls) (text := text) (A := zF X) E.1 E.2.1 f5 E.2.2.2.2.1 w1 w2 (z_otb hts hKK (w4 _ List.mem_cons_self)) (z_otb hts hKK (w4 _ (List.mem_cons_of_mem _ List.mem_cons_self))) (hKK.2.2.1 _ w5)
    (fun w hw => z_otb hts hKK (w4 w (List.mem_cons_of_mem _ (List.mem_cons_of_mem _ hw)))) (fun w hw => z_ot (w4 w hw)) (hKK.2.1.1.kept hmv) (hKK.2.1.2.kept hmv) hS (by rw [E.2.2.2.1]; exact S.2.2.2.1.1) d0 d3 d4 d6 d9 ?_ (by omega) (by rw [z_cat]; omega) (by omega) (by omega) E.2.2.2.2.2.2.1 ?_ S.2.2.1 (by omega) (by omega)
  · rw [E.2.2.2.2.2.2.2.2.2.1, hE]
    intro x hx
    cases hx
  · intro t _ h1 h2
    exact ⟨rfl, Nat.le_trans S.2.1 h1, S.1.ex h1 h2⟩
end ROWS4
