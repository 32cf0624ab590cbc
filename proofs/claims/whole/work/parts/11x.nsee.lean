/-! 'throw new E("text")' of a class whose own constructor calls its elder's at another entry than the kit's row has (NoSuchElementException): own rows over the library's walk of a Throwable's constructor (by name) -/
section NSEE
variable {p : Program} {l : Launch} {e : Env} {R : Room} {s : State} {m₀ : MethodId} {args : Array Value} {below : List Frame} {meth : Method} {c : Code} {W : State} {cells slots : Nat}
/-- of the class's objects, a method of Throwable stays its own -/
theorem z_pick {cls : String} {k : ClassId} {q : MethodName} {f : MethodId} (ha : l.admits e) (hk : s.vm.findClass cls = some k) (hq : s.methodNamed? q = some f) (hn : q.cls ≠ "java/lang/invoke/MethodHandle" ∧ q.cls ≠ "java/lang/invoke/VarHandle") (w : (Cond.selects cls q q).before args s = true) : selectMethod e.platform s.vm k f = .method f := by
  obtain ⟨k', f1, f2, r1, r2, r3, r4, -⟩ := Cond.selects_spec (first := s) (o := none) (idx := []) w
  rw [hk] at r1
  rw [State.methodFound?_of_named hq hn] at r2
  rw [hq] at r3
  injection r1 with r1
  injection r2 with r2
  injection r3 with r3
  rw [← r1, ← r2, ← r3] at r4
  exact (Launch.admits_selectMethod ha _ _ _).trans r4
/-- the field f has a place of its own in the objects of the class -/
def zLd (s : State) (k : ClassId) (K : Class) (f : Field) : Prop := K.instanceTypes[f.slot]? = some f.type ∧ ∃ d : Class × Field, Jmm.declares? s.vm f.slot (k + 1) k = some d ∧ d.2.name = f.name
theorem zLd.apart {k : ClassId} {K : Class} {f g : Field} (x : zLd s k K f) (y : zLd s k K g) (h : f.name ≠ g.name) : f.slot ≠ g.slot := by
  obtain ⟨-, d, d1, d2⟩ := x
  obtain ⟨-, d', d3, d4⟩ := y
  exact Cond.laysApart d1 d3 d2 d4 h
theorem z_ld {cls O n t : String} {k k' i : Nat} {K K' : Class} {f : Field} (hk : s.vm.findClass cls = some k) (hK : s.vm.classes[k]? = some K) (hf : s.fieldFound? O n t = some (k', K', i, f)) (w : (Cond.lays cls O n t).before args s = true) : zLd s k K f :=
  Cond.laysAt (first := s) (o := none) (idx := []) hk hK hf w
theorem z_chain {X : String} {ix : Nat} {rx : ByteArray} {names : List String} (h : ∀ w ∈ Bundle.chainSAtomsX X ix rx names, w.before args s = true) : (Cond.instanceMethod (Bundle.initS X)).before args s = true ∧ (Cond.code (Bundle.initS X) rx 2 none).before args s = true := by
  rcases names with _ | ⟨n, r⟩ <;> exact ⟨h _ (by simp [Bundle.chainSAtomsX, Bundle.passSAtoms]), h _ (by simp [Bundle.chainSAtomsX, Bundle.passSAtoms])⟩
set_option maxHeartbeats 4000000 in
theorem z_ctorX (X : Stand p l e R s m₀ args below meth c W [] cells slots) (hexec : p.tables.exec = Jvm.exec) (htr : e.platform.stackTraces = false) {own cls : String} {names : List String} {ic ix : Nat} {rx : ByteArray}
    (x0 : decode rx 0 = .ok (.aload_n 0, 1)) (x1 : decode rx 1 = .ok (.aload_n 1, 1)) (x2 : decode rx 2 = .ok (.invokespecial ix, 3)) (x5 : decode rx 5 = .ok (.return_, 1))
    (hown : s.vm.findClass own = some m₀.cls) (hcls : Bundle.fit cls = true) (hnames : ∀ n ∈ names, Bundle.fit n = true) (h : ∀ w ∈ Bundle.ownAtomsX own ic cls ix rx names, w.before args s = true)
    {a b : Addr} {k : ClassId} {K : Class} (hk : s.vm.findClass cls = some k) (hK : s.vm.classes[k]? = some K) (hcell : W.heap[a]? = some (freshCell k K)) (hnew : s.heap.size ≤ a)
    {g : JFrame} (hg : g.method = m₀) (hsize : g.locals.size = c.maxLocals) (hlocked : g.locked = none) (hentered : g.entered = []) {rest : List Value} (hstack : g.stack = .ref b :: .ref a :: .ref a :: rest)
    (hd6 : decode c.code g.pc = .ok (.invokespecial ic, 3)) (hd9 : decode c.code (g.pc + 3) = .ok (.athrow, 1)) (hout : ∀ x ∈ c.exceptionTable.toList, covers x (g.pc + 3) = false)
    (hRf : names.length + 3 < R.frames) (hRl : 2 * g.monitorRoom + ((Value.ref a :: rest).map fun v => v.category).sum + (13 * (names.length + 1) + 42) ≤ R.locals) (hlocks : meth.locks = false) :
    ∃ U : State, Steps p.tables e below (W.setTop g) U ∧ U.status = .running ∧ Ended U below (.threw a) ∧ s.WarmedH U.vm ∧ s.sameButNew ({ U with vm := s.vm } : State) [] cells slots ∧ ∃ ce, U.heap[a]? = some ce ∧ ce.cls = k ∧ ce.vm = .none := by
  have pf := X.admits.platform
  have q1 : e.platform.frameOwnsMonitors = true := by rw [pf]
  have q2 : e.platform.finalization = false := by rw [pf]
  have q3 : e.platform.magicAccessors = ({} : Platform).magicAccessors := by rw [pf]
  have hw := h
  unfold Bundle.ownAtomsX at hw
  simp only [List.forall_mem_append] at hw
  obtain ⟨⟨⟨wT, wS⟩, wC⟩, wO⟩ := hw
  simp only [List.forall_mem_cons] at wO
  obtain ⟨wl, wi, -, w0, wf, wc, wk, wp, wm, wu, ws, wb, wy, wz, -⟩ := wO
  obtain ⟨T, _, LT, -, Y⟩ := ThrowableC.of_atoms (args := args) q1 q2 q3 wT
  obtain ⟨Z, M, LZ, LM, hZ⟩ := Init0T.ofS_atoms (args := args) q3 LT Y wS
  obtain ⟨P, Ps, n1, L1, L2, hP, n2, n3⟩ := Bundle.chainSX (args := args) q3 hZ x0 x1 x2 x5 names cls hcls hnames wC
  obtain ⟨wI, wD⟩ := z_chain wC
  have ek : P.m.cls = k := Option.some.inj ((findClass_of_methodNamed hP).symm.trans hk)
  obtain ⟨k', K', e1, e2, hord, -⟩ := Cond.instantiable_spec (first := s) (o := none) (idx := []) wi
  rw [hk] at e1
  injection e1 with e1
  rw [← e1, hK] at e2
  injection e2 with e2
  rw [← e2] at hord
  obtain ⟨i9, m9⟩ := Y.msg
  obtain ⟨c8, i8, fB, b1, b2, b3, b4, -, b5, b6, b7⟩ := Cond.ownField (t := .object "java/lang/Object") (first := s) (o := none) (idx := []) Y.found LT.cls (by decide +kernel) wb wy e.platform q3
  have zc := z_ld hk hK Y.cause wc
  have zs := z_ld hk hK Y.stack wk
  have zp := z_ld hk hK Y.supp wp
  have zm := z_ld hk hK m9 wm
  have zb := z_ld hk hK b7 wz
  have ac := zb.apart zc (by rw [b5, Y.causeName]; decide)
  have as := zb.apart zs (by rw [b5, Y.stackName]; decide)
  have ap := zb.apart zp (by rw [b5, Y.suppName]; decide)
  obtain ⟨S0, hS0, hS1⟩ := Y.statics
  obtain ⟨u, hu⟩ := Cond.staticRefV (first := s) (o := none) (idx := []) Y.unassigned LT.unassignedStatic LT.statics hS0 hS1 wu
  obtain ⟨v, hv⟩ := Cond.staticRefV (first := s) (o := none) (idx := []) Y.sentinel LT.sentinelStatic LT.statics hS0 hS1 ws
  obtain ⟨S, hS, hSv, -, hSk⟩ := X.same.2.2.2.2.2 T.aS S0 hS0
  have kept : ∀ i : Nat, S.slots[i]? = S0.slots[i]? := fun i => hSk i (fun q => nomatch q)
  have hSn : S.vm ≠ .unknown := fun r => by
    have r2 : S.vm = S0.vm := by rw [hSv]
    rw [← r2, r] at hS1
    cases hS1
  have hlow : T.aS < s.heap.size := (Array.getElem?_eq_some_iff.mp hS0).1
  have hbt : (((preparedCellV T.toThrowableT (freshCell k K) a u v).withEntry W.cur).slots[fB.slot]? : Option Value) = some .null := by
    have h9 := fresh_default (c := k) zb.1
    rw [b6] at h9
    simpa [preparedCellV, Cell.setSlot, Cell.withEntry, Array.getElem?_setIfInBounds, ac.symm, as.symm, ap.symm, ac, as, ap, defaultValue] using h9
  obtain ⟨_, _, _, _, v1, hn, -, -, -, -, -, -, -, hW, first⟩ := Steps.initColdS (tb := p.tables) (e := e) (below := below) (s := s) (U := W) X.here hexec X.warmed q3 hown (t := Bundle.initS cls) rfl rfl (Bundle.fit_spec hcls).2 wl wI wD (f := g) hg (a := a) (msg := .ref b) (rest := .ref a :: rest) hstack hd6
  rw [hP] at hn
  injection hn with hn
  obtain ⟨v2, X2, second⟩ := (X.noted hW).ctorMessageOffV hexec (g := { g with stack := .ref a :: rest }) hg hsize T LT Z LZ M LM (P :: Ps) (List.forall_mem_cons.mpr ⟨L1, L2⟩) ⟨n2, n3⟩ (u0 := u) (sen := v) (self := a) (msg := .ref b) rfl (cell := freshCell k K) (cellS := S) hcell (fun _ r => nomatch r) (fun r => nomatch r) rfl rfl
    (z_pick X.admits hk Y.fill0 (by decide) w0) (z_pick X.admits hk Y.fill (by decide) wf) hS (fun r => absurd hnew (Nat.not_le.mpr (r ▸ hlow))) hSn ((kept _).trans hu) ((kept _).trans hv)
    (Takes.of_laid hK hord zc.1 (by rw [Y.causeType]; rfl)) (Takes.of_laid hK hord zs.1 (by rw [Y.stackType]; exact fits_refV_array _ u)) (Takes.of_laid hK hord zp.1 (by rw [Y.suppType]; exact fits_refV_object _ v)) (Takes.of_laid hK hord zm.1 (by rw [Y.msgType]; exact fits_refV_object _ ⟨.ref b, rfl⟩))
    Y.objLocals ⟨{ ci198 := c8, i198 := i8, fBack := fB }, ⟨b1, b2, b3, b4⟩, hbt, fun _ _ => rfl⟩ htr [] hd6 (by rw [List.length_cons, n1]; omega) (by rw [List.length_cons, n1]; exact hRl)
  obtain ⟨third, r1, r2, r3, r4⟩ := X2.athrowLeaves hexec (g := { g with stack := .ref a :: rest, pc := g.pc + 3 }) hg hlocked hentered hout rfl hd9 hlocks
  refine ⟨_, first _ fun acts => ?_, r1, r2, r3, r4.weaken (fun y hy hl => ?_) (Nat.le_refl _) (Nat.le_refl _), _, heapAt_setCell_self (s := (W.setVm v1).setVm v2) _ (Array.getElem?_eq_some_iff.mp hcell).1, rfl, rfl⟩
  · rw [doInvoke_state, ← hn]
    exact second _ third
  · simp only [List.nil_append, List.mem_cons, List.not_mem_nil, or_false] at hy
    obtain rfl | rfl | rfl | rfl | rfl := hy <;> exact absurd hnew (Nat.not_le.mpr hl)
end NSEE
section NSEE2
variable {p : Program} {l : Launch} {e : Env} {R : Room} {s : State} {m : MethodId} {args : Array Value} {below : List Frame} {meth : Method} {c : Code} {H : Heap} {locs : List Loc} {cells slots : Nat} {Q : State → Prop}
variable {mc ms : Nat} {free : Addr → Prop} {A0 A1 : Nat → Prop} {H0 : Heap} {a : Array Value} {ls : Array Slot} {st0 rest : List Value}
variable {Qc : Array Value → State → Outcome → State → Prop} {XC : String → State → State → Prop}
set_option maxHeartbeats 4000000 in
theorem z_throwSX {cc : ByteArray} {pc : Nat} (hexec : p.tables.exec = Jvm.exec) (hb : c.code = cc) (hl : l.stackTraces = false) {own cls text : String} {names : List String} {ik is ic mc ms sa ix : Nat} {rx : ByteArray} (x0 : decode rx 0 = .ok (.aload_n 0, 1)) (x1 : decode rx 1 = .ok (.aload_n 1, 1)) (x2 : decode rx 2 = .ok (.invokespecial ix, 3)) (x5 : decode rx 5 = .ok (.return_, 1)) {A : Nat → Prop}
    (hown : s.vm.findClass own = some m.cls) (hcls : Bundle.fit cls = true) (hnames : ∀ n ∈ names, Bundle.fit n = true)
    (hk : (Cond.classLink own ik cls).before args s = true) (hini : (Cond.initialized cls).before args s = true) (hstr : vk_R own is text sa s) (hat : ∀ w ∈ (Bundle.ownAtomsX own ic cls ix rx names).filter vx_no, w.before args s = true)
    (hgood : ∀ w ∈ Cond.classLink own ik cls :: Cond.initialized cls :: (Bundle.ownAtomsX own ic cls ix rx names).filter vx_no, vx_ot w = true)
    (hU : vx_Zq Bundle.tN "UNASSIGNED_STACK" Bundle.steD A s s.heap) (hN : vx_Zq Bundle.tN "SUPPRESSED_SENTINEL" Bundle.listD A s s.heap) (hS : va_S A s.heap H locs) (hsize : ls.size = c.maxLocals)
    (d0 : decode cc pc = .ok (.new ik, 3)) (d3 : decode cc (pc + 3) = .ok (.dup, 1)) (d4 : decode cc (pc + 4) = .ok (.ldc_w is, 3)) (d7 : decode cc (pc + 7) = .ok (.invokespecial ic, 3)) (d10 : decode cc (pc + 10) = .ok (.athrow, 1))
    (hout : ∀ x ∈ c.exceptionTable.toList, covers x (pc + 10) = false)
    (hRframes : names.length + 3 < R.frames) (hRlocals : (rest.map fun v => v.category).sum + (13 * (names.length + 1) + 43) ≤ R.locals) (hRcells : cells + 1 ≤ R.cells) (hRslots : slots + 6 ≤ R.slots) (hlocks : meth.locks = false)
    (hx : ∀ t : State, s.vm.Alike t.vm → H.size ≤ t.heap.size → (∀ q : Nat, q < H.size → t.heap[q]? = H[q]?) → XC cls s t)
    (hf : ∀ z ∈ locs, free z.base) (hc : cells + 1 ≤ mc) (hs : slots + 6 ≤ ms) :
    W p l e R s m args below meth c H locs cells slots (vx_MQ below Qc XC args s mc ms free) (F0 m pc ls rest) := by
  intro T hT X
  have htr : e.platform.stackTraces = false := (show e.platform.stackTraces = l.stackTraces by rw [X.admits.platform]).trans hl
  have Y := vx_rebase X (R' := { frames := R.frames, locals := R.locals, cells := 1, slots := 6 }) (Nat.le_refl _) (Nat.le_refl _) hRcells hRslots
  obtain ⟨s', hA⟩ : ∃ z, z = (T.setVm s.vm).setFrames (.invoking m args :: below) := ⟨_, rfl⟩
  rw [← hA] at Y
  have hvm : s'.vm = s.vm := by rw [hA]; rfl
  have hhp : s'.heap = H := by rw [hA]; exact hT
  have hW0 : s.WarmedH s'.vm := by rw [hvm]; exact State.WarmedH.refl s
  have hat' : ∀ w ∈ (Bundle.ownAtomsX own ic cls ix rx names).filter vx_no, w.before args s' = true := fun w hw => vx_ot_at hW0 hvm.symm (hgood w (List.mem_cons_of_mem _ (List.mem_cons_of_mem _ hw))) (hat w hw)
  have hk' : (Cond.classLink own ik cls).before args s' = true := vx_ot_at hW0 hvm.symm (hgood _ List.mem_cons_self) hk
  have hini' : (Cond.initialized cls).before args s' = true := vx_ot_at hW0 hvm.symm (hgood _ (List.mem_cons_of_mem _ List.mem_cons_self)) hini
  have hU' : vx_Zq Bundle.tN "UNASSIGNED_STACK" Bundle.steD A s' s'.heap := by rw [hhp]; exact vx_Zq.moved hW0.alike (hU.kept hS.2.1)
  have hN' : vx_Zq Bundle.tN "SUPPRESSED_SENTINEL" Bundle.listD A s' s'.heap := by rw [hhp]; exact vx_Zq.moved hW0.alike (hN.kept hS.2.1)
  have h : ∀ w ∈ Bundle.ownAtomsX own ic cls ix rx names, w.before args s' = true := vx_own hat' (vx_isRefq hU'.1) (vx_isRefq hN'.1) hU'.2.word hN'.2.word
  have hown' : s'.vm.findClass own = some m.cls := by rw [hvm]; exact hown
  have hins : (Cond.instantiable cls 6).before args s' = true := h _ (by simp [Bundle.ownAtomsX])
  obtain ⟨vm₁, cX, kX, hfX, hkX, -, -, X₁, st1⟩ := Y.newCold hexec (own := own) (C := cls) (index := ik) (n := 6) hown' hk' hins hini'
    (g := F0 m pc ls rest) rfl (by rw [hb]; exact d0) (Nat.le_refl _) (Nat.le_refl _)
  generalize hT1 : (T.setVm vm₁).pushCell { cls := cX, slots := kX.instanceTypes.map defaultValue, vm := .none } = T1 at X₁ st1
  have hcat : (Value.ref T.heap.size).category = 1 := rfl
  have hcellA : T1.heap[T.heap.size]? = some (freshCell cX kX) := by rw [← hT1]; exact State.heap_pushCell_size _ _
  have d3' : decode c.code (pc + 3) = .ok (.dup, 1) := by rw [hb]; exact d3
  have d4' : decode c.code (pc + 4) = .ok (.ldc_w is, 3) := by rw [hb]; exact d4
  have hstr' : vk_R own is text sa s' := vk_R.warm hW0 hstr
  obtain ⟨U, hsteps, hrun, hend, hW, hsame, ce, hce, hO⟩ := z_ctorX X₁ hexec htr x0 x1 x2 x5 (own := own) (cls := cls) (names := names) (ic := ic) hown' hcls hnames h hfX hkX hcellA (by rw [hhp, hT]; exact Nat.le_refl _) (b := sa)
    (g := { method := m, pc := pc + 7, locals := ls, stack := .ref sa :: .ref T.heap.size :: .ref T.heap.size :: rest, locked := none }) rfl hsize rfl rfl (rest := rest) rfl
    (by rw [hb]; exact d7) (by rw [hb]; exact d10) hout hRframes (by simp only [List.map_cons, List.sum_cons, hcat]; omega) hlocks
  obtain ⟨f1, f2⟩ := vx_frame hsame
  rw [hhp] at f1 f2
  have hWs : s.WarmedH U.vm := State.WarmedH.trans hW0 hW
  have hcl : s.vm.findClass cls = some ce.cls := by
    have h9 := hfX
    rw [hvm, ← hO.1] at h9
    exact h9
  have hall : s.sameButNew ({ U with vm := s.vm } : State) locs mc ms := by
    subst hA
    obtain ⟨e1, e2⟩ := hsame
    rw [State.setFrames_setFrames] at e1
    have h2 : (T.setVm s.vm).sameButNew ({ U with vm := s.vm } : State) [] (0 + 1) (0 + 6) := ⟨e1, e2⟩
    have h3 := X.same.trans h2
    rw [List.append_nil] at h3
    exact h3.mono hc hs
  refine ⟨U, ?_, .threw T.heap.size, hrun, hend, Or.inr ⟨T.heap.size, rfl, cls, ce, locs, hx U hWs.alike f1 (fun q hq => f2 q hq (fun z hz => nomatch hz)), hce, hO.2, hcl, hWs, hall, hf⟩⟩
  refine st1 _ ?_
  show Steps p.tables e below (T1.setTop { method := m, pc := pc + 3, locals := ls, stack := .ref T.heap.size :: rest, locked := none }) _
  jvm_step X₁.here [X₁.here.top, hexec, d3', Value.category]
  exact X₁.ldcStringW hexec (own := own) (text := text) (index := is) (a := sa) hown' hstr'.1 hstr'.2
    (g := { method := m, pc := pc + 4, locals := ls, stack := .ref T.heap.size :: .ref T.heap.size :: rest, locked := none }) rfl d4' _ hsteps

end NSEE2
section NSEE3
variable {X : zX} {Y Y2 : zY} {d pc : Nat} {ls : List (Nat × Value)} {st av : List Value} {M : zM} {r r1 : Option (zOut × zM)} {Sh : zSh} {D : zD}
def zTx (own : String) (ik is ic ix : Nat) (rx : ByteArray) (cls text : String) (sn : Nat) (names : List String) : Prop := Bundle.fit cls = true ∧ (∀ n ∈ names, Bundle.fit n = true) ∧ names.length ≤ 3 ∧ (∀ w ∈ Cond.classLink own ik cls :: Cond.initialized cls :: (Bundle.ownAtomsX own ic cls ix rx names).filter vx_no, w ∈ z_T ∨ w ∈ z_N) ∧ (own, is, text, sn) ∈ z_str ∧ decode rx 0 = .ok (.aload_n 0, 1) ∧ decode rx 1 = .ok (.aload_n 1, 1) ∧ decode rx 2 = .ok (.invokespecial ix, 3) ∧ decode rx 5 = .ok (.return_, 1)
theorem r_throwX {ik is ic sn ix : Nat} {rx : ByteArray} {cls text : String} {names : List String} (w : zTx (yO Y) ik is ic ix rx cls text sn names) (d0 : decode (yB Y) pc = .ok (.new ik, 3)) (d3 : decode (yB Y) (pc + 3) = .ok (.dup, 1)) (d4 : decode (yB Y) (pc + 4) = .ok (.ldc_w is, 3)) (d7 : decode (yB Y) (pc + 7) = .ok (.invokespecial ic, 3)) (d10 : decode (yB Y) (pc + 10) = .ok (.athrow, 1))
    (hE : yE Y = []) (hd : 7 ≤ d) (hst : (st.map fun v => v.category).sum ≤ 8) : Rn X Y d pc ls st M (some (.inr cls, zEx M)) := by
  intro o M' hr p e Rm s m args below meth c mc ms E H locs cells slots la S
  cases hr
  obtain ⟨w1, w2, w3, w4, w5, x0, x1, x2, x5⟩ := w
  have hts := E.2.2.2.2.2.1
  have hKK := E.2.2.2.2.2.2.2.2.1
  have b1 : cells + (M.1.1.length + (M.1.2.2 + 1)) ≤ mc + (M.1.1.length + M.1.2.2) := S.2.2.2.2.1
  have b2 : slots + ((M.1.1.map (fun q => q.2)).sum + 6 * (M.1.2.2 + 1)) ≤ ms + ((M.1.1.map (fun q => q.2)).sum + 6 * M.1.2.2) := S.2.2.2.2.2.1
  have f1 := E.2.2.2.2.2.2.2.2.2.2.1
  have f2 := E.2.2.2.2.2.2.2.2.2.2.2.1
  have f3 := E.2.2.2.2.2.2.2.2.2.2.2.2.1
  have f4 := E.2.2.2.2.2.2.2.2.2.2.2.2.2.1
  have f5 := E.2.2.2.2.2.2.2.2.2.2.2.2.2.2.1
  have f6 := E.2.2.2.2.2.2.2.2.2.2.2.2.2.2.2.1
  have f7 := E.2.2.2.2.2.2.2.2.2.2.2.2.2.2.2.2
  have hmv : ∀ a : Nat, a < (zH X).size → ¬ zF X a → s.heap[a]? = (zH X)[a]? := fun a _ h => f7 a (Nat.not_le.mp h)
  have hS : va_S (zF X) s.heap H locs := ⟨S.2.1, fun q _ h2 => by
    have h3 : q < zb X := Nat.not_le.mp h2
    rw [S.1.2.2.2.1 q h3, f7 q h3], S.2.2.1⟩
  refine z_throwSX (names := names) (cls := cls) (text := text) (A := zF X) E.1 E.2.1 f5 x0 x1 x2 x5 E.2.2.2.2.1 w1 w2 (z_otb hts hKK (w4 _ List.mem_cons_self)) (z_otb hts hKK (w4 _ (List.mem_cons_of_mem _ List.mem_cons_self))) (hKK.2.2.1 _ w5)
    (fun w hw => z_otb hts hKK (w4 w (List.mem_cons_of_mem _ (List.mem_cons_of_mem _ hw)))) (fun w hw => z_ot (w4 w hw)) (hKK.2.1.1.kept hmv) (hKK.2.1.2.kept hmv) hS (by rw [E.2.2.2.1]; exact S.2.2.2.1.1) d0 d3 d4 d7 d10 ?_ (by omega) (by rw [z_cat]; omega) (by omega) (by omega) E.2.2.2.2.2.2.1 ?_ S.2.2.1 (by omega) (by omega)
  · rw [E.2.2.2.2.2.2.2.2.2.1, hE]
    intro x hx
    cases hx
  · intro t _ h1 h2
    exact ⟨rfl, Nat.le_trans S.2.1 h1, S.1.ex h1 h2⟩
end NSEE3
