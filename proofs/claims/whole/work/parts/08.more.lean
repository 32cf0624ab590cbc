/-! the mini machine: rows of rows, a final row of references, copies, texts, switches, the script -/
theorem z_outer (c : ClassId) (N h0 : Nat) : ∀ i : Nat, Jvm.Free.Multi.outerC c N h0 i = arrV c N (fun j => va_rf (if j < i then some (h0 + 1 + j) else none))
  | 0 => by
    show ({ cls := c, slots := Array.replicate N .null, vm := .none } : Cell) = _
    rw [arrV_new]
    congr
  | i + 1 => by
    show (Jvm.Free.Multi.outerC c N h0 i).setSlot i (.ref (h0 + 1 + i)) = _
    rw [z_outer c N h0 i, arrV_store]
    congr
    funext j
    by_cases e : j = i
    · subst e
      simp [updV, va_rf]
    · by_cases h : j < i
      · simp [updV, e, h, Nat.lt_succ_of_lt h]
      · simp [updV, e, h, show ¬ j < i + 1 by omega]
section ROWS5
variable {X : zX} {Y Y2 : zY} {d pc : Nat} {ls : List (Nat × Value)} {st av : List Value} {M : zM} {r r1 : Option (zOut × zM)} {Sh : zSh} {D : zD}
theorem r_objInit {idx : Nat} {k : Nat} (w1 : Cond.methodLink (yO Y) idx objectInit ∈ z_T) (w2 : Cond.instanceMethod objectInit ∈ z_T) (w3 : Cond.code objectInit ⟨#[0xb1]⟩ 1 none ∈ z_T) (hd : 1 ≤ d) (hst : (st.map fun v => v.category).sum ≤ 8) (dg : decode (yB Y) pc = .ok (.invokespecial idx, 3)) (kk : Rn X Y d (pc + 3) ls st M r) : Rn X Y d pc ls (.ref k :: st) M r := by
  intro o M' hr p e Rm s m args below meth c mc ms E H locs cells slots la S
  have hts := E.2.2.2.2.2.1
  have f1 := E.2.2.2.2.2.2.2.2.2.2.1
  have f2 := E.2.2.2.2.2.2.2.2.2.2.2.1
  exact W.objInit E.1 E.2.1 E.2.2.2.2.1 (hts _ w1) (hts _ w2) (hts _ w3) rfl (by rw [E.2.2.2.1]; exact S.2.2.2.1.1) rfl dg (by omega) (by rw [z_cat]; show 2 * 0 + _ + 12 ≤ _; omega) (kk o M' hr p e Rm s m args below meth c mc ms E H locs cells slots la S)
/-- a row of references, empty (Covers[]) -/
theorem r_anew {idx N : Nat} {n : Int32} (w1 : Cond.classLink (yO Y) idx "CoveredSigns$Covers" ∈ z_T) (hn : ¬ n < 0) (hN : n.toNatClampNeg = N) (hb : N ≤ 60000) (hx : M.1.2.2 = 0) (hs : M.1.1.length < 100000) (hg : zGr (zAl M (6, N)) r) (dg : decode (yB Y) pc = .ok (.anewarray idx, 3)) (kk : Rn X Y d (pc + 3) ls (.ref M.1.1.length :: st) (zAl M (6, N)) r) : Rn X Y d pc ls (.int n :: st) M r := by
  intro o M' hr p e Rm s m args below meth c mc ms E H locs cells slots la S
  obtain ⟨g1, g2⟩ := hg o M' hr
  rw [zAl_cc] at g1
  rw [zAl_sc] at g2
  subst hN
  have hK := E.2.2.2.2.2.2.2.2.1.1
  have b1 := S.2.2.2.2.1
  have b2 := S.2.2.2.2.2.1
  have e1 := E.2.2.2.2.2.2.2.2.2.2.2.2.1
  have e2 := E.2.2.2.2.2.2.2.2.2.2.2.2.2.1
  have e0 := S.1.2.1 hx
  refine W.anew E.1 E.2.1 E.2.2.2.2.1 (E.2.2.2.2.2.1 _ w1) (E.2.2.2.2.2.2.2.2.1.2.2.2.1.2.2.2.1 (.object "CoveredSigns$Covers") (by simp)) rfl dg rfl hn (by omega) (by omega) (by show slots + n.toNatClampNeg ≤ _; omega) fun cA kA comp h1 h2 h3 h4 => ?_
  have hc : cA = zA X 6 := by
    obtain ⟨kA', comp', k1, k2, k3, k4⟩ := (hK.2 6 _ rfl).2
    exact Option.some.inj (h1.symm.trans k4)
  subst hc
  have hat : va_at (zG X) z_cl (H.size, zeO X (zAl M (6, n.toNatClampNeg)) M.1.1.length (6, n.toNatClampNeg)) (H.push { cls := zA X 6, slots := Array.replicate n.toNatClampNeg .null, vm := .none }) := by
    show (H.push _)[H.size]? = some (vp_cell (zA X 6) (n.toNatClampNeg, .inr (.inr (.inr (.inr (fun j => ((zAl M (6, n.toNatClampNeg)).1.2.1 M.1.1.length j).map (zad X)))))))
    rw [Array.getElem?_push_size, vp_cell_q, arrV_new]
    congr 2; funext j; simp [zAl, va_rf]
  have eq : (F0 m (pc + 3) la ((Value.ref M.1.1.length :: st).map (zrv X))) = F0 m (pc + 3) la (.ref H.size :: st.map (zrv X)) := by
    show F0 m (pc + 3) la (.ref (zad X M.1.1.length) :: st.map (zrv X)) = _
    rw [zad_small (by omega), ← e0]
  have go := kk o M' hr p e Rm s m args below meth c mc ms E _ locs (cells + 1) (slots + n.toNatClampNeg) la ⟨S.1.push hx hs (Array.size_push _) (fun q hq => by rw [Array.getElem?_push, if_neg (Nat.ne_of_lt hq)]) hat, by rw [Array.size_push]; have := S.2.1; omega, S.2.2.1, S.2.2.2.1, by rw [zAl_cc]; omega, by rw [zAl_sc]; show slots + n.toNatClampNeg + _ ≤ _ + (_ + n.toNatClampNeg); omega, by rw [zAl_cc]; omega, by rw [zAl_sc]; exact g2⟩
  rw [eq] at go
  exact go
/-- a Covers put into its row -/
theorem r_aast {k n q N ci : Nat} {i : Int32} (hk : M.1.1[k]? = some (6, n)) (hq : M.1.1[q]? = some (ci + 7, N)) {T : u_T} (hc : z_cl[ci]? = some ("CoveredSigns$Covers", T, N)) (hin : vp_in i n) (dg : decode (yB Y) pc = .ok (.aastore, 1)) (kk : Rn X Y d (pc + 1) ls st (sR M k i.toNatClampNeg q) r) : Rn X Y d pc ls (.ref q :: .int i :: .ref k :: st) M r := by
  intro o M' hr p e Rm s m args below meth c mc ms E H locs cells slots la S
  have hlt := S.1.lt hk
  have hK := E.2.2.2.2.2.2.2.2.1.1
  have hlt2 : i.toNatClampNeg < n := Nat.not_le.mp fun q => hin (Or.inr q)
  have h0 : ¬ i < 0 := fun q => hin (Or.inl q)
  obtain ⟨r', hr', cellV, g1, g2, g3, -⟩ := S.1.2.2.2.2 q _ hq
  have hcls := (hK.1 ci _ hc).2
  obtain ⟨kA, comp, k1, k2, k3, -⟩ := (hK.2 6 _ rfl).2
  have hcomp : comp = (zG X).1 ci := Option.some.inj (k3.symm.trans hcls.1)
  subst hcomp
  obtain ⟨kC, hkC, -⟩ := hcls.2
  refine W.aast (v := zad X q) E.1 E.2.1 (S.1.2.2.2.2 k _ hk) (fun q h => by cases h) (fun h => by cases h) k1 k2 rfl hkC ⟨h0, by show _ < (arrV _ _ _).slots.size; rw [arrV_size]; exact hlt2⟩ g1 (fun q h => by rw [g3] at h; cases h) (by rw [g2]; exact hkC) (by rw [g2]; exact va_assign hcls) rfl rfl dg fun H1 f1 z oq => ?_
  refine kk o M' hr p e Rm s m args below meth c mc ms E H1 _ cells slots la (S.to (S.1.store (M2 := sR M k i.toNatClampNeg q) hk rfl rfl (fun a ha => ⟨rfl, rfl, sR_ne ha⟩) ?_ z oq) (Nat.le_of_eq z.symm) (zad_F hlt) rfl rfl)
  show H1[zad X k]? = some (vp_cell (zA X 6) (n, .inr (.inr (.inr (.inr (fun j => ((sR M k i.toNatClampNeg q).1.2.1 k j).map (zad X)))))))
  rw [f1]
  show some ((vp_cell (zA X 6) (n, .inr (.inr (.inr (.inr (fun j => (M.1.2.1 k j).map (zad X))))))).setSlot i.toNatClampNeg (.ref (zad X q))) = _
  rw [vp_cell_q, vp_cell_q, arrV_store]
  congr 2
  funext j
  by_cases hj : j = i.toNatClampNeg
  · subst hj
    simp [updV, va_rf, sR]
  · simp [updV, sR, hj]
/-- new T[n][k] -/
def zAm (M : zM) (t n k : Nat) : zM := ((M.1.1 ++ (t, n) :: List.replicate n (if t = 4 then 0 else 3, k), (fun a b => if a = M.1.1.length then (if b < n then some (M.1.1.length + 1 + b) else none) else if M.1.1.length < a then none else M.1.2.1 a b), M.1.2.2), ((fun a b => if M.1.1.length ≤ a then 0 else M.2.1 a b), (fun a b => if M.1.1.length ≤ a then 0 else M.2.2 a b)))
theorem zAm_cc {t n k : Nat} : zcc (zAm M t n k) = zcc M + 1 + n := by
  simp [zcc, zAm]; omega
theorem zAm_sc {t n k : Nat} : zsc (zAm M t n k) = zsc M + n + n * k := by
  simp [zsc, zAm, List.sum_replicate_nat]; omega
theorem r_mna {idx t N K : Nat} {ty : FieldType} {n k : Int32} (ht : (t = 4 ∧ ty = .int) ∨ (t = 5 ∧ ty = .boolean)) (w1 : Cond.classLink (yO Y) idx ("[" ++ (FieldType.array ty).toString) ∈ z_T) (w2 : Cond.arrayClass ty ∈ z_T) (hn : ¬ n < 0) (hk : ¬ k < 0) (hN : n.toNatClampNeg = N) (hK' : k.toNatClampNeg = K) (hb : N ≤ 1000 ∧ K ≤ 1000) (hx : M.1.2.2 = 0) (hs : M.1.1.length < 90000) (hg : zGr (zAm M t N K) r) (dg : decode (yB Y) pc = .ok (.multianewarray idx 2, 4)) (kk : Rn X Y d (pc + 4) ls (.ref M.1.1.length :: st) (zAm M t N K) r) : Rn X Y d pc ls (.int k :: .int n :: st) M r := by
  intro o M' hr p e Rm s m args below meth c mc ms E H locs cells slots la S
  obtain ⟨g1, g2⟩ := hg o M' hr
  rw [zAm_cc] at g1
  rw [zAm_sc] at g2
  have hK := E.2.2.2.2.2.2.2.2.1.1
  have hts := E.2.2.2.2.2.1
  have b1 := S.2.2.2.2.1
  have b2 := S.2.2.2.2.2.1
  have e1 := E.2.2.2.2.2.2.2.2.2.2.2.2.1
  have e2 := E.2.2.2.2.2.2.2.2.2.2.2.2.2.1
  have e0 := S.1.2.1 hx
  subst hN
  subst hK'
  have hover : (Cond.arrayOver (.array ty)).before args s = true := by
    rcases ht with ⟨-, rfl⟩ | ⟨-, rfl⟩
    · exact E.2.2.2.2.2.2.2.2.1.2.2.2.1.2.2.2.1 (.array .int) (by simp)
    · exact E.2.2.2.2.2.2.2.2.1.2.2.2.1.2.2.2.1 (.array .boolean) (by simp)
  have hcb : componentBytes ty ≤ 8 := by
    rcases ht with ⟨-, rfl⟩ | ⟨-, rfl⟩ <;> decide
  intro T hT Xs
  obtain ⟨vm₁, cA, comp, -, fA, fC, hO, -, X', step⟩ := Xs.multianewarray2F E.1 E.2.2.2.2.1 (hts _ w1) hover (hts _ w2) (g := F0 m pc la (.int k :: .int n :: st.map (zrv X))) rfl (by rw [E.2.1]; exact dg) rfl hn hk (by omega) (by have := Nat.mul_le_mul hb.2 hcb; omega) (by omega) (by rcases ht with ⟨-, rfl⟩ | ⟨-, rfl⟩ <;> rfl) (by rcases ht with ⟨-, rfl⟩ | ⟨-, rfl⟩ <;> rfl) (by omega) (by omega)
  generalize hF : Jvm.Free.Multi.fill (T.setVm vm₁) cA comp n.toNatClampNeg k.toNatClampNeg (defaultValue ty) n.toNatClampNeg = F at X' step
  have hTh : (T.setVm vm₁).heap = H := hT
  obtain ⟨f1, f2, -, -⟩ := Jvm.Free.Multi.fill_facts (T.setVm vm₁) cA comp n.toNatClampNeg k.toNatClampNeg (defaultValue ty) n.toNatClampNeg
  rw [hF, hTh] at f1 f2
  have hold : ∀ x : Nat, x < H.size → F.heap[x]? = H[x]? := fun x hx => by
    have := Jvm.Free.Multi.fill_old (T.setVm vm₁) cA comp n.toNatClampNeg k.toNatClampNeg (defaultValue ty) (a := x) (by rw [hTh]; exact hx) n.toNatClampNeg
    rw [hF, hTh] at this
    exact this
  have hrow : ∀ j : Nat, j < n.toNatClampNeg → F.heap[H.size + 1 + j]? = some (Jvm.Free.Multi.innerC comp k.toNatClampNeg (defaultValue ty)) := fun j hj => by
    have := Jvm.Free.Multi.fill_inner (T.setVm vm₁) cA comp n.toNatClampNeg k.toNatClampNeg (defaultValue ty) n.toNatClampNeg j hj
    rw [hF, hTh] at this
    exact this
  rw [z_outer] at f2
  have hH2 : zHR X (zAm M t n.toNatClampNeg k.toNatClampNeg) F.heap := by
    refine ⟨by simp [zAm]; omega, fun _ => by simp [zAm]; omega, by simp [zAm]; omega, fun q hq => ?_, fun a kd ha => ?_⟩
    · rw [hold q (by omega)]; exact S.1.2.2.2.1 q hq
    · have ha' : (M.1.1 ++ (t, n.toNatClampNeg) :: List.replicate n.toNatClampNeg (if t = 4 then 0 else 3, k.toNatClampNeg))[a]? = some kd := ha
      by_cases hl : a < M.1.1.length
      · rw [List.getElem?_append_left hl] at ha'
        have c1 : (zAm M t n.toNatClampNeg k.toNatClampNeg).2.2 a = M.2.2 a := by funext b; simp [zAm]; omega
        have c2 : (zAm M t n.toNatClampNeg k.toNatClampNeg).2.1 a = M.2.1 a := by funext b; simp [zAm]; omega
        have c3 : (zAm M t n.toNatClampNeg k.toNatClampNeg).1.2.1 a = M.1.2.1 a := by
          funext b
          simp [zAm, show ¬ a = M.1.1.length by omega, show ¬ M.1.1.length < a by omega]
        rw [zeO_congr c1 c2 c3]
        exact (S.1.2.2.2.2 a kd ha').kept (hold _ (by rw [zad_small (by omega)]; omega))
      · rw [List.getElem?_append_right (by omega)] at ha'
        by_cases h0 : a = M.1.1.length
        · subst h0
          rw [Nat.sub_self] at ha'
          cases ha'
          rw [zad_small (by omega), ← e0]
          have c3 : (fun j => ((zAm M t n.toNatClampNeg k.toNatClampNeg).1.2.1 M.1.1.length j).map (zad X)) = fun j => if j < n.toNatClampNeg then some (H.size + 1 + j) else none := by
            funext j
            by_cases hj : j < n.toNatClampNeg
            · simp [zAm, hj]
              rw [zad_small (by omega)]
              omega
            · simp [zAm, hj]
          have hcA : ∀ t' : Nat, zA X t' = cA → F.heap[H.size]? = some (vp_cell (zA X t') (n.toNatClampNeg, .inr (.inr (.inr (.inr (fun j => ((zAm M t n.toNatClampNeg k.toNatClampNeg).1.2.1 M.1.1.length j).map (zad X))))))) := fun t' ht' => by
            rw [c3, vp_cell_q, ht']
            exact f2
          rcases ht with ⟨rfl, rfl⟩ | ⟨rfl, rfl⟩
          · exact hcA 4 (Option.some.inj ((hK.2 4 _ rfl).2.symm.trans fA))
          · exact hcA 5 (Option.some.inj ((hK.2 5 _ rfl).2.symm.trans fA))
        · obtain ⟨j, hj⟩ : ∃ j, a - M.1.1.length = j + 1 := ⟨a - M.1.1.length - 1, by omega⟩
          rw [hj, List.getElem?_cons_succ] at ha'
          have hjn : j < n.toNatClampNeg := by
            have := (List.getElem?_eq_some_iff.mp ha').1
            rwa [List.length_replicate] at this
          rw [List.getElem?_replicate, if_pos hjn] at ha'
          cases ha'
          have er := hrow j hjn
          rw [zad_small (by omega), show zb X + a = H.size + 1 + j by omega]
          rcases ht with ⟨rfl, rfl⟩ | ⟨rfl, rfl⟩
          · have hc : comp = zA X 0 := Option.some.inj (fC.symm.trans (hK.2 0 _ rfl).2)
            subst hc
            show F.heap[H.size + 1 + j]? = some (vp_cell (zA X 0) (k.toNatClampNeg, .inl ((zAm M 4 n.toNatClampNeg k.toNatClampNeg).2.2 a)))
            rw [er, vp_cell_i]
            show some ({ cls := zA X 0, slots := Array.replicate k.toNatClampNeg (.int 0), vm := .none } : Cell) = _
            rw [arrV_new]
            congr 2
            funext b
            simp [zAm]
            omega
          · have hc : comp = zA X 3 := Option.some.inj (fC.symm.trans (hK.2 3 _ rfl).2)
            subst hc
            show F.heap[H.size + 1 + j]? = some (vp_cell (zA X 3) (k.toNatClampNeg, .inl ((zAm M 5 n.toNatClampNeg k.toNatClampNeg).2.2 a)))
            rw [er, vp_cell_i]
            show some ({ cls := zA X 3, slots := Array.replicate k.toNatClampNeg (.int 0), vm := .none } : Cell) = _
            rw [arrV_new]
            congr 2
            funext b
            simp [zAm]
            omega
  have S' : zSt X Y s (zAm M t n.toNatClampNeg k.toNatClampNeg) M' ls F.heap locs (cells + 1 + n.toNatClampNeg) (slots + n.toNatClampNeg + n.toNatClampNeg * k.toNatClampNeg) mc ms la :=
    ⟨hH2, by have := S.2.1; omega, S.2.2.1, S.2.2.2.1, by rw [zAm_cc]; omega, by rw [zAm_sc]; omega, by rw [zAm_cc]; exact g1, by rw [zAm_sc]; exact g2⟩
  have go := kk o M' hr p e Rm s m args below meth c mc ms E F.heap locs _ _ la S'
  obtain ⟨t2, a1, b1⟩ := go F rfl X'
  refine ⟨t2, step t2 ?_, b1⟩
  have eq : (F0 m (pc + 4) la ((Value.ref M.1.1.length :: st).map (zrv X))) = F0 m (pc + 4) la (.ref T.heap.size :: st.map (zrv X)) := by
    show F0 m (pc + 4) la (.ref (zad X M.1.1.length) :: st.map (zrv X)) = _
    rw [zad_small (by omega), hT, ← e0]
  rw [eq] at a1
  exact a1
/-- a table of jumps -/
theorem r_tsw {lo hi dflt : Int} {offs : Array Int} {len : Nat} {x : Int32} (dg : decode (yB Y) pc = .ok (.tableswitch dflt lo hi offs, len)) (hlen : offs.size = (hi - lo + 1).toNat) (kin : ∀ (i : Nat) (off : Int) (tgt : Nat), offs[i]? = some off → x.toInt = lo + i → (pc : Int) + off = tgt → Rn X Y d tgt ls st M r) (ho : ∀ off ∈ offs.toList, 0 ≤ (pc : Int) + off) (kout : (x.toInt < lo ∨ hi < x.toInt) → ∀ tgt : Nat, (pc : Int) + dflt = tgt → Rn X Y d tgt ls st M r) (hd : 0 ≤ (pc : Int) + dflt) : Rn X Y d pc ls (.int x :: st) M r := by
  intro o M' hr p e Rm s m args below meth c mc ms E H locs cells slots la S
  by_cases h : x.toInt < lo ∨ hi < x.toInt
  · obtain ⟨tgt, ht⟩ := Int.eq_ofNat_of_zero_le hd
    exact lv_tableOut E.1 E.2.1 dg h ht (kout h tgt ht o M' hr p e Rm s m args below meth c mc ms E H locs cells slots la S)
  · have h1 : ¬ x.toInt < lo := fun q => h (Or.inl q)
    have h2 : ¬ hi < x.toInt := fun q => h (Or.inr q)
    have hlt : (x.toInt - lo).toNat < offs.size := by omega
    have hs : offs[(x.toInt - lo).toNat]? = some offs[(x.toInt - lo).toNat] := Array.getElem?_eq_getElem hlt
    obtain ⟨tgt, ht⟩ := Int.eq_ofNat_of_zero_le (ho _ (Array.getElem_mem_toList hlt))
    exact lv_tableIn E.1 E.2.1 dg h1 h2 hs ht (kin _ _ tgt hs (by omega) ht o M' hr p e Rm s m args below meth c mc ms E H locs cells slots la S)
/-- a text on the stack -/
theorem r_ldcS {i : Nat} {q : String × Nat × String × Nat} (hq : q ∈ z_str) (h1 : q.1 = yO Y) (h2 : q.2.1 = i) (dg : decode (yB Y) pc = .ok (.ldc i, 2)) (kk : Rn X Y d (pc + 2) ls (.ref (1000000 + q.2.2.2) :: st) M r) : Rn X Y d pc ls st M r := by
  intro o M' hr p e Rm s m args below meth c mc ms E H locs cells slots la S
  subst h2
  have h3 := E.2.2.2.2.2.2.2.2.1.2.2.1 q hq
  rw [h1] at h3
  have go := kk o M' hr p e Rm s m args below meth c mc ms E H locs cells slots la S
  have ea : zad X (1000000 + q.2.2.2) = zo X (1000000 + q.2.2.2) := by rw [zad, if_neg (by omega)]
  rw [show (Value.ref (1000000 + q.2.2.2) :: st).map (zrv X) = .ref (zad X (1000000 + q.2.2.2)) :: st.map (zrv X) from rfl, ea] at go
  exact va_ldcS E.1 E.2.1 E.2.2.2.2.1 h3 dg go
end ROWS5
