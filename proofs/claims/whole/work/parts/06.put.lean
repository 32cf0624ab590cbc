/-! the mini machine: stores into objects, what is made, calls, ends -/
section ROWS3
variable {X : zX} {Y Y2 : zY} {d pc : Nat} {ls : List (Nat × Value)} {st av : List Value} {M : zM} {r r1 : Option (zOut × zM)} {Sh : zSh} {D : zD}
/-- a reference written (in a constructor) -/
def sR (M : zM) (k j q : Nat) : zM := ((M.1.1, (fun a b => if a = k ∧ b = j then some q else M.1.2.1 a b), M.1.2.2), M.2)
theorem sR_ne {k j q a : Nat} (h : a ≠ k) : (sR M k j q).1.2.1 a = M.1.2.1 a := by
  funext b
  simp [sR, h]
theorem r_putI {idx ci j N k : Nat} {ty : FieldType} {x : Int32} (g : zPf (yO Y) idx ci j N ty) (hk : Sh.1[k]? = some (ci + 7, N)) (hf : zrf ci j = false) (ht : ty = .int ∨ (ty = .boolean ∧ (x = 0 ∨ x = 1))) (dg : decode (yB Y) pc = .ok (.putfield idx, 3)) (kk : Rn X Y d (pc + 3) ls st (Sh, sI D k j x) r) : Rn X Y d pc ls (.int x :: .ref k :: st) (Sh, D) r := by
  intro o M' hr p e Rm s m args below meth c mc ms E H locs cells slots la S
  obtain ⟨C, T, t, hC, hj, hl, hfin, hd⟩ := g
  have hlt := S.1.lt hk
  have hK := E.2.2.2.2.2.2.2.2.1.1
  obtain ⟨r', h1, cell, q1, q2, q3, q4⟩ := S.1.2.2.2.2 k _ hk
  have hr' : r' = (C, T, N) := Option.some.inj (h1.symm.trans hC.1)
  subst hr'
  have hKn := hK.1 ci _ hC.1
  obtain ⟨hS, hfc, kC, hkC, hkind⟩ := hKn
  obtain ⟨cf, kf, fi, f, hi, hsl⟩ := hS j hj
  have hlay := E.2.2.2.2.2.1 _ (hC.2.1 _ (u_in_lay hj))
  unfold u_lay at hlay
  rw [if_neg (by rw [hfin]; decide)] at hlay
  have hst := (u_facts hfc hkC (u_lays E.2.2.2.2.2.1 hC.2.1 hj) hi).1
  have hn : narrow ty (.int x) = .int x := by
    rcases ht with rfl | ⟨rfl, rfl | rfl⟩ <;> rfl
  have hfit : fits ty (.int x) = true := by
    rcases ht with rfl | ⟨rfl, rfl | rfl⟩ <;> rfl
  have h6 := u_store hfc hkC hkind hlay hi hd hn hfit
  refine W.putK E.1 E.2.1 (f := f) ⟨E.2.2.2.2.1, E.2.2.2.2.2.1 _ hl, ⟨_, _, _, hi⟩, hst⟩ (by rw [q2]; exact h6) q1 q3 (by rw [hsl]; exact k2_hasslot (q4 j hj)) rfl rfl dg fun H1 e1 e2 e3 => ?_
  rw [hsl] at e1 ⊢
  refine kk o M' hr p e Rm s m args below meth c mc ms E H1 _ cells slots la (S.to (S.1.store hk rfl rfl (fun a ha => ⟨sI_ne ha, rfl, rfl⟩) ?_ e2 e3) (Nat.le_of_eq e2.symm) (zad_F hlt) rfl rfl)
  refine z_putAt (own := yO Y) (M := (Sh, D)) (M2 := (Sh, sI D k j x)) E.2.2.2.2.2.1 hC hK hj q2 q3 q4 e1 (fun i hi => ?_)
  rw [zfs_V hi, zfs_V hi]
  by_cases h : i = j
  · subst h
    simp [hf, sI]
    rfl
  · simp [h, sI]
theorem r_putIn {idx ci j N k : Nat} {ty : FieldType} {x : Int32} (g : zPn (yO Y) idx ci j N ty) (hk : Sh.1[k]? = some (ci + 7, N)) (hf : zrf ci j = false) (ht : ty = .int ∨ (ty = .boolean ∧ (x = 0 ∨ x = 1))) (dg : decode (yB Y) pc = .ok (.putfield idx, 3)) (kk : Rn X Y d (pc + 3) ls st (Sh, sI D k j x) r) : Rn X Y d pc ls (.int x :: .ref k :: st) (Sh, D) r := by
  intro o M' hr p e Rm s m args below meth c mc ms E H locs cells slots la S
  obtain ⟨C, host, T, t, hC, hj, hl, hfin, hd⟩ := g
  have hlt := S.1.lt hk
  have hK := E.2.2.2.2.2.2.2.2.1.1
  have hn : narrow ty (.int x) = .int x := by
    rcases ht with rfl | ⟨rfl, rfl | rfl⟩ <;> rfl
  have hfit : fits ty (.int x) = true := by
    rcases ht with rfl | ⟨rfl, rfl | rfl⟩ <;> rfl
  obtain ⟨r', h1, cell, q1, q2, q3, q4⟩ := S.1.2.2.2.2 k _ hk
  have hr' : r' = (C, T, N) := Option.some.inj (h1.symm.trans hC.1)
  subst hr'
  have hKn := hK.1 ci _ hC.1
  obtain ⟨hS, hfc, kC, hkC, hkind⟩ := hKn
  obtain ⟨cf, kf, fi, f, hi, hsl⟩ := hS j hj
  have hlay := E.2.2.2.2.2.1 _ (hC.2.1 _ (u_in_lay hj))
  unfold u_lay at hlay
  rw [if_neg (by rw [hfin]; decide)] at hlay
  have hst := (u_facts hfc hkC (u_lays E.2.2.2.2.2.1 hC.2.1 hj) hi).1
  have h6 := u_store hfc hkC hkind hlay hi hd hn hfit
  refine va_WputK E.1 E.2.1 (f := f) E.2.2.2.2.1 (va_Nw.use rfl (E.2.2.2.2.2.2.2.2.1.2.2.2.2.1 _ hl)) hi hst (by rw [q2]; exact h6) q1 q3 (by rw [hsl]; exact k2_hasslot (q4 j hj)) rfl rfl dg fun H1 e1 e2 e3 => ?_
  rw [hsl] at e1 ⊢
  refine kk o M' hr p e Rm s m args below meth c mc ms E H1 _ cells slots la (S.to (S.1.store hk rfl rfl (fun a ha => ⟨sI_ne ha, rfl, rfl⟩) ?_ e2 e3) (Nat.le_of_eq e2.symm) (zad_F hlt) rfl rfl)
  refine z_putAt (own := yO Y) (M := (Sh, D)) (M2 := (Sh, sI D k j x)) E.2.2.2.2.2.1 hC hK hj q2 q3 q4 e1 (fun i hi => ?_)
  rw [zfs_V hi, zfs_V hi]
  by_cases h : i = j
  · subst h
    simp [hf, sI]
    rfl
  · simp [h, sI]
/-- a final reference, in the object's own constructor -/
theorem r_putF {idx ci j N k q : Nat} {ty : FieldType} (g : zPF (yO Y) idx ci j N ty) (hk : M.1.1[k]? = some (ci + 7, N)) (hf : zrf ci j = true) (ht : (∃ n, ty = .object n) ∨ ∃ t, ty = .array t) (hin : (yN Y).name = "<init>") (dg : decode (yB Y) pc = .ok (.putfield idx, 3)) (kk : Rn X Y d (pc + 3) ls st (sR M k j q) r) : Rn X Y d pc ls (.ref q :: .ref k :: st) M r := by
  intro o M' hr p e Rm s m args below meth c mc ms E H locs cells slots la S
  obtain ⟨C, T, t, hC, hj, hl, hfin, hdecl, hd⟩ := g
  have hlt := S.1.lt hk
  have hK := E.2.2.2.2.2.2.2.2.1.1
  obtain ⟨r', h1, cell, q1, q2, q3, q4⟩ := S.1.2.2.2.2 k _ hk
  have hr' : r' = (C, T, N) := Option.some.inj (h1.symm.trans hC.1)
  subst hr'
  have hKn := hK.1 ci _ hC.1
  obtain ⟨hS, hfc, kC, hkC, hkind⟩ := hKn
  obtain ⟨cf, kf, fi, f, hi, hsl⟩ := hS j hj
  have hlay := E.2.2.2.2.2.1 _ (hC.2.1 _ (u_in_lay hj))
  have hnm : meth.name = "<init>" := E.2.2.2.2.2.2.2.1.trans hin
  have hn : narrow ty (.ref (zad X q)) = .ref (zad X q) := by
    rcases ht with ⟨n, rfl⟩ | ⟨n, rfl⟩ <;> rfl
  have hfit : fits ty (.ref (zad X q)) = true := by
    rcases ht with ⟨n, rfl⟩ | ⟨n, rfl⟩ <;> rfl
  unfold u_lay at hlay
  rw [if_pos hfin] at hlay
  have hst := (u_facts hfc hkC (u_lays E.2.2.2.2.2.1 hC.2.1 hj) hi).1
  have hcf : m.cls = cf := by
    obtain ⟨_, _, c', _, _, _, -, -, hf', -, -, -, hown2, -⟩ := Cond.laysFinal_spec hlay
    have e1 : c' = cf := by have := hi.symm.trans hf'; simp at this; exact this.1.symm
    rw [hdecl] at hown2
    rw [← e1]; exact Option.some.inj (E.2.2.2.2.1.symm.trans hown2)
  have h6 := u_fits hfc hkC hkind (Or.inr hlay) hi hd hn hfit
  refine W.putFinK E.1 E.2.1 E.2.2.2.2.1 (E.2.2.2.2.2.1 _ hl) hi hst hcf hnm (by rw [q2]; exact h6) q1 q3 (by rw [hsl]; exact k2_hasslot (q4 j hj)) rfl rfl dg fun H1 e1 e2 e3 => ?_
  rw [hsl] at e1 ⊢
  refine kk o M' hr p e Rm s m args below meth c mc ms E H1 _ cells slots la (S.to (S.1.store (M2 := sR M k j q) hk rfl rfl (fun a ha => ⟨rfl, rfl, sR_ne ha⟩) ?_ e2 e3) (Nat.le_of_eq e2.symm) (zad_F hlt) rfl rfl)
  refine z_putAt (own := yO Y) (M := M) (M2 := sR M k j q) E.2.2.2.2.2.1 hC hK hj q2 q3 q4 e1 (fun i hi => ?_)
  rw [zfs_V hi, zfs_V hi]
  by_cases h : i = j
  · subst h
    simp [hf, sR, va_rf]
    rfl
  · simp [h, sR]
/-- what is made: an object or row of kind kd, empty, behind all others -/
def zAl (M : zM) (kd : Nat × Nat) : zM := ((M.1.1 ++ [kd], (fun a b => if a = M.1.1.length then none else M.1.2.1 a b), M.1.2.2), ((fun a b => if a = M.1.1.length then 0 else M.2.1 a b), (fun a b => if a = M.1.1.length then 0 else M.2.2 a b)))
theorem zAl_ne {kd : Nat × Nat} {a : Nat} (h : a ≠ M.1.1.length) : (zAl M kd).2.2 a = M.2.2 a ∧ (zAl M kd).2.1 a = M.2.1 a ∧ (zAl M kd).1.2.1 a = M.1.2.1 a := by
  refine ⟨?_, ?_, ?_⟩ <;> funext b <;> simp [zAl, h]
theorem zAl_cc {kd : Nat × Nat} : zcc (zAl M kd) = zcc M + 1 := by
  simp [zcc, zAl]; omega
theorem zAl_sc {kd : Nat × Nat} : zsc (zAl M kd) = zsc M + kd.2 := by
  simp [zsc, zAl]; omega
theorem zHR.push {H H1 : Heap} (h : zHR X M H) (hx : M.1.2.2 = 0) (hs : M.1.1.length < 100000) {kd : Nat × Nat} (hz : H1.size = H.size + 1) (ho : ∀ q, q < H.size → H1[q]? = H[q]?) (hat : va_at (zG X) z_cl (H.size, zeO X (zAl M kd) M.1.1.length kd) H1) : zHR X (zAl M kd) H1 := by
  have e0 := h.2.1 hx
  refine ⟨by simp [zAl]; omega, fun _ => by simp [zAl]; omega, by simp [zAl]; omega, fun q hq => ?_, fun k kd2 hk => ?_⟩
  · rw [ho q (by omega)]; exact h.2.2.2.1 q hq
  · have hk' : (M.1.1 ++ [kd])[k]? = some kd2 := hk
    by_cases hl : k < M.1.1.length
    · rw [List.getElem?_append_left hl] at hk'
      obtain ⟨c1, c2, c3⟩ := zAl_ne (M := M) (kd := kd) (a := k) (by omega)
      rw [zeO_congr c1 c2 c3]
      exact (h.2.2.2.2 k kd2 hk').kept (ho _ (by rw [zad_small (by omega)]; omega))
    · rw [List.getElem?_append_right (by omega)] at hk'
      have h0 : k - M.1.1.length < 1 := (List.getElem?_eq_some_iff.mp hk').1
      have e1 : k = M.1.1.length := by omega
      subst e1
      rw [Nat.sub_self] at hk'
      cases hk'
      rw [zad_small (by omega), ← e0]
      exact hat
/-- making asks for room: the end's memory is no smaller -/
def zGr (M1 : zM) (r : Option (zOut × zM)) : Prop := ∀ o M', r = some (o, M') → zcc M1 ≤ zcc M' ∧ zsc M1 ≤ zsc M'
theorem r_new {idx ci N : Nat} {C : String} {T : u_T} {t : Nat → FieldType} (hC : zCf ci N C T t) (hdv : ∀ j, j < N → defaultValue (t j) = if zrf ci j then .null else .int 0) (w1 : Cond.classLink (yO Y) idx C ∈ z_T) (w2 : Cond.instantiable C N ∈ z_T) (w3 : Cond.initialized C ∈ z_T) (hx : M.1.2.2 = 0) (hs : M.1.1.length < 100000) (hg : zGr (zAl M (ci + 7, N)) r) (dg : decode (yB Y) pc = .ok (.new idx, 3)) (kk : Rn X Y d (pc + 3) ls (.ref M.1.1.length :: st) (zAl M (ci + 7, N)) r) : Rn X Y d pc ls st M r := by
  intro o M' hr p e Rm s m args below meth c mc ms E H locs cells slots la S
  obtain ⟨g1, g2⟩ := hg o M' hr
  rw [zAl_cc] at g1
  rw [zAl_sc] at g2
  have hK := E.2.2.2.2.2.2.2.2.1.1
  have hKn := hK.1 ci _ hC.1
  have b1 := S.2.2.2.2.1
  have b2 := S.2.2.2.2.2.1
  have e1 := E.2.2.2.2.2.2.2.2.2.2.2.2.1
  have e2 := E.2.2.2.2.2.2.2.2.2.2.2.2.2.1
  have e0 := S.1.2.1 hx
  refine W.newcK E.1 E.2.1 E.2.2.2.2.1 (E.2.2.2.2.2.1 _ w1) (E.2.2.2.2.2.1 _ w2) (E.2.2.2.2.2.1 _ w3) rfl dg (by omega) (by omega) hKn.2.1 rfl fun H1 kC hkC f1 z1 o1 => ?_
  have hat : va_at (zG X) z_cl (H.size, .inr (ci, zfs X (zAl M (ci + 7, N)) M.1.1.length ci N)) H1 := by
    refine ⟨_, hC.1, (u_born t E.2.2.2.2.2.1 hC.2.1 hKn hkC f1 hC.2.2.1).to fun j hj => ?_⟩
    rw [hdv j hj, zfs_V hj]
    by_cases h : zrf ci j = true
    · rw [if_pos h, if_pos h]; simp [zAl, va_rf]
    · rw [if_neg h, if_neg h]; simp [zAl]
  have eq : (F0 m (pc + 3) la ((Value.ref M.1.1.length :: st).map (zrv X))) = F0 m (pc + 3) la (.ref H.size :: st.map (zrv X)) := by
    show F0 m (pc + 3) la (.ref (zad X M.1.1.length) :: st.map (zrv X)) = _
    rw [zad_small (by omega), ← e0]
  have go := kk o M' hr p e Rm s m args below meth c mc ms E H1 locs (cells + 1) (slots + N) la ⟨S.1.push hx hs z1 o1 hat, by have := S.2.1; omega, S.2.2.1, S.2.2.2.1, by rw [zAl_cc]; omega, by rw [zAl_sc]; show slots + N + _ ≤ _ + (_ + N); omega, by rw [zAl_cc]; omega, by rw [zAl_sc]; exact g2⟩
  rw [eq] at go
  exact go
theorem zf_i (X : zX) (M : zM) (k n : Nat) (h : ∀ j, M.2.2 k j = 0) : vp_cell (zA X 0) (n, .inl (M.2.2 k)) = arrV (zA X 0) n (fun _ => .int 0) := by
  rw [vp_cell_i]; congr; funext j; rw [h]
theorem r_newa {t : Nat} {at0 : ArrayType} {ty : FieldType} {N : Nat} {n : Int32} (hty : newarray.typeOf at0 = ty) (ht : (t = 0 ∧ ty = .int) ∨ (t = 1 ∧ ty = .long) ∨ (t = 2 ∧ ty = .byte) ∨ (t = 3 ∧ ty = .boolean)) (w1 : Cond.arrayClass ty ∈ z_T) (hn : ¬ n < 0) (hN : n.toNatClampNeg = N) (hb : N ≤ 60000) (hx : M.1.2.2 = 0) (hs : M.1.1.length < 100000) (hg : zGr (zAl M (t, N)) r) (dg : decode (yB Y) pc = .ok (.newarray at0, 2)) (kk : Rn X Y d (pc + 2) ls (.ref M.1.1.length :: st) (zAl M (t, N)) r) : Rn X Y d pc ls (.int n :: st) M r := by
  intro o M' hr p e Rm s m args below meth c mc ms E H locs cells slots la S
  obtain ⟨g1, g2⟩ := hg o M' hr
  rw [zAl_cc] at g1
  rw [zAl_sc] at g2
  have hK := E.2.2.2.2.2.2.2.2.1.1
  have b1 := S.2.2.2.2.1
  have b2 := S.2.2.2.2.2.1
  have e1 := E.2.2.2.2.2.2.2.2.2.2.2.2.1
  have e2 := E.2.2.2.2.2.2.2.2.2.2.2.2.2.1
  have e0 := S.1.2.1 hx
  subst hty
  have hcb : componentBytes (newarray.typeOf at0) ≤ 8 := by cases at0 <;> decide
  refine va_newaK E.1 E.2.1 (E.2.2.2.2.2.1 _ w1) rfl dg rfl hn hN (by have := Nat.mul_le_mul hb hcb; omega) (by omega) (by omega) rfl fun H1 cA f1 z1 o1 _ hfc => ?_
  have hat : va_at (zG X) z_cl (H.size, zeO X (zAl M (t, N)) M.1.1.length (t, N)) H1 := by
    rcases ht with ⟨rfl, he⟩ | ⟨rfl, he⟩ | ⟨rfl, he⟩ | ⟨rfl, he⟩ <;> rw [he] at f1 hfc
    · have hc : cA = zA X 0 := Option.some.inj (hfc.symm.trans (hK.2 0 _ rfl).2)
      subst hc
      show H1[H.size]? = some (vp_cell (zA X 0) (N, .inl ((zAl M (0, N)).2.2 M.1.1.length)))
      rw [f1, vp_cell_i]
      congr 2; funext j; simp [zAl, defaultValue]
    · have hc : cA = zA X 1 := Option.some.inj (hfc.symm.trans (hK.2 1 _ rfl).2)
      subst hc
      show H1[H.size]? = some (vp_cell (zA X 1) (N, .inr (.inl ((zAl M (1, N)).2.1 M.1.1.length))))
      rw [f1, vp_cell_l]
      congr 2; funext j; simp [zAl, defaultValue]
    · have hc : cA = zA X 2 := Option.some.inj (hfc.symm.trans (hK.2 2 _ rfl).2)
      subst hc
      show H1[H.size]? = some (vp_cell (zA X 2) (N, .inl ((zAl M (2, N)).2.2 M.1.1.length)))
      rw [f1, vp_cell_i]
      congr 2; funext j; simp [zAl, defaultValue]
    · have hc : cA = zA X 3 := Option.some.inj (hfc.symm.trans (hK.2 3 _ rfl).2)
      subst hc
      show H1[H.size]? = some (vp_cell (zA X 3) (N, .inl ((zAl M (3, N)).2.2 M.1.1.length)))
      rw [f1, vp_cell_i]
      congr 2; funext j; simp [zAl, defaultValue]
  have eq : (F0 m (pc + 2) la ((Value.ref M.1.1.length :: st).map (zrv X))) = F0 m (pc + 2) la (.ref H.size :: st.map (zrv X)) := by
    show F0 m (pc + 2) la (.ref (zad X M.1.1.length) :: st.map (zrv X)) = _
    rw [zad_small (by omega), ← e0]
  have go := kk o M' hr p e Rm s m args below meth c mc ms E H1 locs (cells + 1) (slots + N) la ⟨S.1.push hx hs z1 o1 hat, by have := S.2.1; omega, S.2.2.1, S.2.2.2.1, by rw [zAl_cc]; omega, by rw [zAl_sc]; show slots + N + _ ≤ _ + (_ + N); omega, by rw [zAl_cc]; omega, by rw [zAl_sc]; exact g2⟩
  rw [eq] at go
  exact go
end ROWS3
