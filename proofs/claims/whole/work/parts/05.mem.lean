/-! the mini machine: memory -/
theorem zad_small {X : zX} {k : Nat} (h : k < 1000000) : zad X k = zb X + k := if_pos h
theorem zHR.lt {X : zX} {M : zM} {H : Heap} (h : zHR X M H) {k : Nat} {kd : Nat × Nat} (hk : M.1.1[k]? = some kd) : k < 1000000 := by
  have h1 := (List.getElem?_eq_some_iff.mp hk).1
  have h2 := h.2.2.1
  omega
theorem zHR.at {X : zX} {M : zM} {H : Heap} (h : zHR X M H) {k : Nat} {kd : Nat × Nat} (hk : M.1.1[k]? = some kd) : va_P (zG X) z_cl [(zad X k, zeO X M k kd)] H := by
  intro i q hq
  have hz : i < 1 := (List.getElem?_eq_some_iff.mp hq).1
  rw [show i = 0 by omega] at hq
  cases hq
  exact h.2.2.2.2 k kd hk
theorem zeO_congr {X : zX} {M M2 : zM} {k : Nat} {kd : Nat × Nat} (h1 : M2.2.2 k = M.2.2 k) (h2 : M2.2.1 k = M.2.1 k) (h3 : M2.1.2.1 k = M.1.2.1 k) : zeO X M2 k kd = zeO X M k kd := by
  simp only [zeO, zfs, h1, h2, h3]
theorem sI_ne {D : zD} {k j : Nat} {x : Int32} {a : Nat} (h : a ≠ k) : (sI D k j x).2 a = D.2 a := by
  funext b
  simp [sI, h]
theorem sL_ne {D : zD} {k j : Nat} {x : Int64} {a : Nat} (h : a ≠ k) : (sL D k j x).1 a = D.1 a := by
  funext b
  simp [sL, h]
theorem zHR.store {X : zX} {M M2 : zM} {H H1 : Heap} (h : zHR X M H) {k : Nat} {kd : Nat × Nat} (hk : M.1.1[k]? = some kd) (e1 : M2.1.1 = M.1.1) (e2 : M2.1.2.2 = M.1.2.2)
    (hs : ∀ a, a ≠ k → M2.2.2 a = M.2.2 a ∧ M2.2.1 a = M.2.1 a ∧ M2.1.2.1 a = M.1.2.1 a) (hat : va_at (zG X) z_cl (zad X k, zeO X M2 k kd) H1) (hz : H1.size = H.size) (ho : ∀ q, q ≠ zad X k → H1[q]? = H[q]?) : zHR X M2 H1 := by
  have hlt := h.lt hk
  have ea := zad_small (X := X) hlt
  refine ⟨by rw [e1, hz]; exact h.1, fun h0 => by rw [e1, hz]; exact h.2.1 (by rw [← e2]; exact h0), by rw [e1]; exact h.2.2.1, fun q hq => ?_, fun a kd2 ha => ?_⟩
  · rw [ho q (by omega)]
    exact h.2.2.2.1 q hq
  · rw [e1] at ha
    by_cases hak : a = k
    · subst hak
      rw [hk] at ha
      cases ha
      exact hat
    · have hla := h.lt ha
      obtain ⟨c1, c2, c3⟩ := hs a hak
      rw [zeO_congr c1 c2 c3]
      exact (h.2.2.2.2 a kd2 ha).kept (ho _ (by rw [zad_small hla, ea]; omega))
def zGf (own : String) (idx ci j N : Nat) : Prop := ∃ (C : String) (T : u_T), z_cl[ci]? = some (C, T, N) ∧ (∀ w ∈ u_ws C T N, w ∈ z_T) ∧ j < N ∧ Cond.fieldLink own idx (T j).1 (T j).2.1 (T j).2.2.1 ∈ z_T
def zGn (own : String) (idx ci j N : Nat) : Prop := ∃ (C host : String) (T : u_T), z_cl[ci]? = some (C, T, N) ∧ (∀ w ∈ u_ws C T N, w ∈ z_T) ∧ j < N ∧ Cond.fieldLinkNest own idx (T j).1 (T j).2.1 (T j).2.2.1 host ∈ z_N
/-- a class's fields: their types, names apart -/
def zCf (ci N : Nat) (C : String) (T : u_T) (t : Nat → FieldType) : Prop := z_cl[ci]? = some (C, T, N) ∧ (∀ w ∈ u_ws C T N, w ∈ z_T) ∧ (∀ k, k < N → parseFieldDescriptor (T k).2.2.1 = some (t k)) ∧ (∀ a, a < N → ∀ b, b < N → a ≠ b → (T a).2.1 ≠ (T b).2.1)
def zPf (own : String) (idx ci j N : Nat) (ty : FieldType) : Prop := ∃ (C : String) (T : u_T) (t : Nat → FieldType), zCf ci N C T t ∧ j < N ∧ Cond.fieldLink own idx (T j).1 (T j).2.1 (T j).2.2.1 ∈ z_T ∧ (T j).2.2.2 = false ∧ parseFieldDescriptor (T j).2.2.1 = some ty
def zPn (own : String) (idx ci j N : Nat) (ty : FieldType) : Prop := ∃ (C host : String) (T : u_T) (t : Nat → FieldType), zCf ci N C T t ∧ j < N ∧ Cond.fieldLinkNest own idx (T j).1 (T j).2.1 (T j).2.2.1 host ∈ z_N ∧ (T j).2.2.2 = false ∧ parseFieldDescriptor (T j).2.2.1 = some ty
def zPF (own : String) (idx ci j N : Nat) (ty : FieldType) : Prop := ∃ (C : String) (T : u_T) (t : Nat → FieldType), zCf ci N C T t ∧ j < N ∧ Cond.fieldLink own idx (T j).1 (T j).2.1 (T j).2.2.1 ∈ z_T ∧ (T j).2.2.2 = true ∧ (T j).1 = own ∧ parseFieldDescriptor (T j).2.2.1 = some ty
theorem zfs_at {X : zX} {M : zM} {k ci n j : Nat} (hj : j < n) : (zfs X M k ci n)[j]? = some (if zrf ci j then va_rf ((M.1.2.1 k j).map (zad X)) else .int (M.2.2 k j)) := by
  rw [zfs, List.getElem?_map, List.getElem?_range hj]
  rfl
theorem zfs_V {X : zX} {M : zM} {k ci n j : Nat} (hj : j < n) : vp_V (zfs X M k ci n) j = if zrf ci j then va_rf ((M.1.2.1 k j).map (zad X)) else .int (M.2.2 k j) := by
  rw [vp_V, List.getD_eq_getElem?_getD, zfs_at hj]
  rfl
section ROWS2
variable {X : zX} {Y : zY} {d pc : Nat} {ls : List (Nat × Value)} {st : List Value} {M : zM} {r : Option (zOut × zM)} {Sh : zSh} {D : zD}
theorem r_getI {idx ci j N k : Nat} (g : zGf (yO Y) idx ci j N) (hk : M.1.1[k]? = some (ci + 7, N)) (hf : zrf ci j = false) (dg : decode (yB Y) pc = .ok (.getfield idx, 3)) (kk : Rn X Y d (pc + 3) ls (.int (M.2.2 k j) :: st) M r) : Rn X Y d pc ls (.ref k :: st) M r := by
  intro o M' hr p e Rm s m args below meth c mc ms E H locs cells slots la S
  obtain ⟨C, T, hc, hi, hj, hl⟩ := g
  exact va_get (D := zG X) (ci := ci) (v := .int (M.2.2 k j)) (C := C) (T := T) (N := N) E.1 E.2.1 E.2.2.2.2.2.1 hi E.2.2.2.2.1 E.2.2.2.2.2.2.2.2.1.1 (S.1.at hk) 0 rfl hc j hj (E.2.2.2.2.2.1 _ hl) (fun _ h => h) (by rw [zfs_at hj, hf]; rfl) dg (kk o M' hr p e Rm s m args below meth c mc ms E H locs cells slots la S)
theorem r_getIn {idx ci j N k : Nat} (g : zGn (yO Y) idx ci j N) (hk : M.1.1[k]? = some (ci + 7, N)) (hf : zrf ci j = false) (dg : decode (yB Y) pc = .ok (.getfield idx, 3)) (kk : Rn X Y d (pc + 3) ls (.int (M.2.2 k j) :: st) M r) : Rn X Y d pc ls (.ref k :: st) M r := by
  intro o M' hr p e Rm s m args below meth c mc ms E H locs cells slots la S
  obtain ⟨C, host, T, hc, hi, hj, hl⟩ := g
  exact va_getN (D := zG X) (ci := ci) (v := .int (M.2.2 k j)) (C := C) (T := T) (N := N) E.1 E.2.1 E.2.2.2.2.2.1 hi E.2.2.2.2.1 E.2.2.2.2.2.2.2.2.1.1 (S.1.at hk) 0 rfl hc j hj (va_Nw.use rfl (E.2.2.2.2.2.2.2.2.1.2.2.2.2.1 _ hl)) (fun _ h => h) (by rw [zfs_at hj, hf]; rfl) dg (kk o M' hr p e Rm s m args below meth c mc ms E H locs cells slots la S)
theorem r_getR {idx ci j N k q : Nat} (g : zGf (yO Y) idx ci j N) (hk : M.1.1[k]? = some (ci + 7, N)) (hf : zrf ci j = true) (hq : M.1.2.1 k j = some q) (dg : decode (yB Y) pc = .ok (.getfield idx, 3)) (kk : Rn X Y d (pc + 3) ls (.ref q :: st) M r) : Rn X Y d pc ls (.ref k :: st) M r := by
  intro o M' hr p e Rm s m args below meth c mc ms E H locs cells slots la S
  obtain ⟨C, T, hc, hi, hj, hl⟩ := g
  exact va_get (D := zG X) (ci := ci) (v := .ref (zad X q)) (C := C) (T := T) (N := N) E.1 E.2.1 E.2.2.2.2.2.1 hi E.2.2.2.2.1 E.2.2.2.2.2.2.2.2.1.1 (S.1.at hk) 0 rfl hc j hj (E.2.2.2.2.2.1 _ hl) (fun _ h => h) (by rw [zfs_at hj, hf, hq]; rfl) dg (kk o M' hr p e Rm s m args below meth c mc ms E H locs cells slots la S)
theorem r_getRn {idx ci j N k q : Nat} (g : zGn (yO Y) idx ci j N) (hk : M.1.1[k]? = some (ci + 7, N)) (hf : zrf ci j = true) (hq : M.1.2.1 k j = some q) (dg : decode (yB Y) pc = .ok (.getfield idx, 3)) (kk : Rn X Y d (pc + 3) ls (.ref q :: st) M r) : Rn X Y d pc ls (.ref k :: st) M r := by
  intro o M' hr p e Rm s m args below meth c mc ms E H locs cells slots la S
  obtain ⟨C, host, T, hc, hi, hj, hl⟩ := g
  exact va_getN (D := zG X) (ci := ci) (v := .ref (zad X q)) (C := C) (T := T) (N := N) E.1 E.2.1 E.2.2.2.2.2.1 hi E.2.2.2.2.1 E.2.2.2.2.2.2.2.2.1.1 (S.1.at hk) 0 rfl hc j hj (va_Nw.use rfl (E.2.2.2.2.2.2.2.2.1.2.2.2.2.1 _ hl)) (fun _ h => h) (by rw [zfs_at hj, hf, hq]; rfl) dg (kk o M' hr p e Rm s m args below meth c mc ms E H locs cells slots la S)
/-- an index of a row, looked at -/
def zck {α : Type} (i : Int32) (n : Nat) (a : Option α) : Option α := if i < 0 ∨ n ≤ i.toNatClampNeg then none else a
theorem zck_in {α : Type} {i : Int32} {n : Nat} {a : Option α} (h : ¬ (i < 0 ∨ n ≤ i.toNatClampNeg)) : zck i n a = a := if_neg h
theorem r_iald {k n : Nat} {i : Int32} (hk : M.1.1[k]? = some (0, n)) (hin : vp_in i n) (dg : decode (yB Y) pc = .ok (.iaload, 1)) (kk : Rn X Y d (pc + 1) ls (.int (M.2.2 k i.toNatClampNeg) :: st) M r) : Rn X Y d pc ls (.int i :: .ref k :: st) M r := by
  intro o M' hr p e Rm s m args below meth c mc ms E H locs cells slots la S
  exact va_iald E.1 E.2.1 E.2.2.2.2.2.2.2.2.1.1 (S.1.at hk) 0 0 rfl rfl hin dg (kk o M' hr p e Rm s m args below meth c mc ms E H locs cells slots la S)
theorem r_lald {k n : Nat} {i : Int32} (hk : M.1.1[k]? = some (1, n)) (hin : vp_in i n) (dg : decode (yB Y) pc = .ok (.laload, 1)) (kk : Rn X Y d (pc + 1) ls (.long (M.2.1 k i.toNatClampNeg) :: st) M r) : Rn X Y d pc ls (.int i :: .ref k :: st) M r := by
  intro o M' hr p e Rm s m args below meth c mc ms E H locs cells slots la S
  exact va_lald E.1 E.2.1 E.2.2.2.2.2.2.2.2.1.1 (S.1.at hk) 0 1 rfl rfl hin dg (kk o M' hr p e Rm s m args below meth c mc ms E H locs cells slots la S)
theorem r_bald {k n : Nat} {i : Int32} (hk : M.1.1[k]? = some (2, n)) (hin : vp_in i n) (dg : decode (yB Y) pc = .ok (.baload, 1)) (kk : Rn X Y d (pc + 1) ls (.int (M.2.2 k i.toNatClampNeg) :: st) M r) : Rn X Y d pc ls (.int i :: .ref k :: st) M r := by
  intro o M' hr p e Rm s m args below meth c mc ms E H locs cells slots la S
  exact va_bald E.1 E.2.1 E.2.2.2.2.2.2.2.2.1.1 (S.1.at hk) 0 2 rfl rfl hin dg (kk o M' hr p e Rm s m args below meth c mc ms E H locs cells slots la S)
theorem r_zald {k n : Nat} {i : Int32} (hk : M.1.1[k]? = some (3, n)) (hin : vp_in i n) (dg : decode (yB Y) pc = .ok (.baload, 1)) (kk : Rn X Y d (pc + 1) ls (.int (M.2.2 k i.toNatClampNeg) :: st) M r) : Rn X Y d pc ls (.int i :: .ref k :: st) M r := by
  intro o M' hr p e Rm s m args below meth c mc ms E H locs cells slots la S
  exact va_zald E.1 E.2.1 E.2.2.2.2.2.2.2.2.1.1 (S.1.at hk) 0 3 rfl rfl hin dg (kk o M' hr p e Rm s m args below meth c mc ms E H locs cells slots la S)
theorem r_aald {k n t q : Nat} {i : Int32} {ty : FieldType} (hk : M.1.1[k]? = some (t, n)) (ht : (t = 4 ∧ ty = .array .int) ∨ (t = 5 ∧ ty = .array .boolean) ∨ (t = 6 ∧ ty = .object "CoveredSigns$Covers")) (hin : vp_in i n) (hq : M.1.2.1 k i.toNatClampNeg = some q) (dg : decode (yB Y) pc = .ok (.aaload, 1)) (kk : Rn X Y d (pc + 1) ls (.ref q :: st) M r) : Rn X Y d pc ls (.int i :: .ref k :: st) M r := by
  intro o M' hr p e Rm s m args below meth c mc ms E H locs cells slots la S
  have hlt : i.toNatClampNeg < n := Nat.not_le.mp fun q => hin (Or.inr q)
  have hc : H[zad X k]? = some (arrV (zA X t) n (fun j => va_rf ((M.1.2.1 k j).map (zad X)))) := by
    have h := S.1.2.2.2.2 k _ hk
    rcases ht with ⟨rfl, -⟩ | ⟨rfl, -⟩ | ⟨rfl, -⟩ <;> exact h
  have ha : s.isArrayOf (arrV (zA X t) n (fun j => va_rf ((M.1.2.1 k j).map (zad X)))) ty := by
    have h := E.2.2.2.2.2.2.2.2.1.1.2
    rcases ht with ⟨rfl, rfl⟩ | ⟨rfl, rfl⟩ | ⟨rfl, rfl⟩
    · exact (h 4 _ rfl).1 _ _
    · exact (h 5 _ rfl).1 _ _
    · exact (h 6 _ rfl).1 _ _
  refine W.aald (v := .ref (zad X q)) (ty := ty) E.1 E.2.1 hc ha ?_ (fun q => by cases q) (by rw [arrV_size]; exact hin) (by rw [arrV_read _ _ hlt, hq]; rfl) rfl rfl dg (kk o M' hr p e Rm s m args below meth c mc ms E H locs cells slots la S)
  rcases ht with ⟨-, rfl⟩ | ⟨-, rfl⟩ | ⟨-, rfl⟩ <;> rfl
theorem r_alen {k n t : Nat} (hk : M.1.1[k]? = some (t, n)) (ht : t < 7) (dg : decode (yB Y) pc = .ok (.arraylength, 1)) (kk : Rn X Y d (pc + 1) ls (.int (Int32.ofNat n) :: st) M r) : Rn X Y d pc ls (.ref k :: st) M r := by
  intro o M' hr p e Rm s m args below meth c mc ms E H locs cells slots la S
  have hK := E.2.2.2.2.2.2.2.2.1.1
  have hP := S.1.at hk
  have go := kk o M' hr p e Rm s m args below meth c mc ms E H locs cells slots la S
  rcases (by omega : t = 0 ∨ t = 1 ∨ t = 2 ∨ t = 3 ∨ t = 4 ∨ t = 5 ∨ t = 6) with rfl | rfl | rfl | rfl | rfl | rfl | rfl
  · exact va_alen E.1 E.2.1 hK hP 0 0 rfl rfl rfl dg go
  · exact va_alen E.1 E.2.1 hK hP 0 1 rfl rfl rfl dg go
  · exact va_alen E.1 E.2.1 hK hP 0 2 rfl rfl rfl dg go
  · exact va_alen E.1 E.2.1 hK hP 0 3 rfl rfl rfl dg go
  · exact va_alen E.1 E.2.1 hK hP 0 4 rfl rfl rfl dg go
  · exact va_alen E.1 E.2.1 hK hP 0 5 rfl rfl rfl dg go
  · exact va_alen E.1 E.2.1 hK hP 0 6 rfl rfl rfl dg go
theorem zSt.to {s : State} {M' : zM} {H : Heap} {locs : List Loc} {cells slots mc ms : Nat} {la : Array Slot} (S : zSt X Y s M M' ls H locs cells slots mc ms la) {M2 : zM} {H1 : Heap} {l1 : Loc} (h : zHR X M2 H1) (hz : H.size ≤ H1.size) (hl : zF X l1.base) (e1 : zcc M2 = zcc M) (e2 : zsc M2 = zsc M) : zSt X Y s M2 M' ls H1 (locs ++ [l1]) cells slots mc ms la :=
  ⟨h, Nat.le_trans S.2.1 hz, fun z hz => (List.mem_append.mp hz).elim (S.2.2.1 z) (fun h => by rw [List.mem_singleton.mp h]; exact hl), S.2.2.2.1, by rw [e1]; exact S.2.2.2.2.1, by rw [e2]; exact S.2.2.2.2.2.1, by rw [e1]; exact S.2.2.2.2.2.2.1, by rw [e2]; exact S.2.2.2.2.2.2.2⟩
theorem zad_F {k : Nat} (h : k < 1000000) : zF X (zad X k) := by
  rw [zad_small h]
  exact Nat.le_add_right _ _
theorem r_iast {k n : Nat} {i x : Int32} (hk : Sh.1[k]? = some (0, n)) (hin : vp_in i n) (dg : decode (yB Y) pc = .ok (.iastore, 1)) (kk : Rn X Y d (pc + 1) ls st (Sh, sI D k i.toNatClampNeg x) r) : Rn X Y d pc ls (.int x :: .int i :: .ref k :: st) (Sh, D) r := by
  intro o M' hr p e Rm s m args below meth c mc ms E H locs cells slots la S
  have hlt := S.1.lt hk
  refine W.iast E.1 E.2.1 (S.1.2.2.2.2 k _ hk) ((E.2.2.2.2.2.2.2.2.1.1.2 0 _ rfl).1 n (fun j => .int (D.2 k j))) (fun q => by cases q) (by show ¬ (i < 0 ∨ (arrV _ _ _).slots.size ≤ _); rw [arrV_size]; exact hin) rfl rfl dg fun H1 e1 z oq => ?_
  refine kk o M' hr p e Rm s m args below meth c mc ms E H1 _ cells slots la (S.to (S.1.store hk rfl rfl (fun a ha => ⟨sI_ne ha, rfl, rfl⟩) ?_ z oq) (Nat.le_of_eq z.symm) (zad_F hlt) rfl rfl)
  show H1[zad X k]? = some (vp_cell _ _)
  rw [e1]
  show some ((vp_cell (zA X 0) (n, .inl (D.2 k))).setSlot i.toNatClampNeg (.int x)) = some (vp_cell (zA X 0) (n, .inl ((sI D k i.toNatClampNeg x).2 k)))
  rw [vp_cell_i, vp_cell_i, arrV_store]
  congr 2
  funext q
  by_cases hq : q = i.toNatClampNeg
  · subst hq
    simp [updV, sI]
  · simp [updV, sI, hq]
theorem r_bast {k n : Nat} {i x : Int32} (hk : Sh.1[k]? = some (2, n)) (hin : vp_in i n) (dg : decode (yB Y) pc = .ok (.bastore, 1)) (kk : Rn X Y d (pc + 1) ls st (Sh, sI D k i.toNatClampNeg (vp_nar .byte x)) r) : Rn X Y d pc ls (.int x :: .int i :: .ref k :: st) (Sh, D) r := by
  intro o M' hr p e Rm s m args below meth c mc ms E H locs cells slots la S
  have hlt := S.1.lt hk
  refine W.bast E.1 E.2.1 (S.1.2.2.2.2 k _ hk) ((E.2.2.2.2.2.2.2.2.1.1.2 2 _ rfl).1 n (fun j => .int (D.2 k j))) (fun q => by cases q) (by show ¬ (i < 0 ∨ (arrV _ _ _).slots.size ≤ _); rw [arrV_size]; exact hin) rfl rfl dg fun H1 e1 z oq => ?_
  refine kk o M' hr p e Rm s m args below meth c mc ms E H1 _ cells slots la (S.to (S.1.store hk rfl rfl (fun a ha => ⟨sI_ne ha, rfl, rfl⟩) ?_ z oq) (Nat.le_of_eq z.symm) (zad_F hlt) rfl rfl)
  show H1[zad X k]? = some (vp_cell _ _)
  rw [e1]
  show some ((vp_cell (zA X 2) (n, .inl (D.2 k))).setSlot i.toNatClampNeg _) = some (vp_cell (zA X 2) (n, .inl ((sI D k i.toNatClampNeg (vp_nar .byte x)).2 k)))
  rw [vp_cell_i, vp_cell_i, arrV_store]
  congr 2
  funext q
  by_cases hq : q = i.toNatClampNeg
  · subst hq
    simp [updV, sI, vp_nar]
    try rfl
  · simp [updV, sI, hq]
theorem r_zast {k n : Nat} {i x : Int32} (hk : Sh.1[k]? = some (3, n)) (hin : vp_in i n) (hx : x = 0 ∨ x = 1) (dg : decode (yB Y) pc = .ok (.bastore, 1)) (kk : Rn X Y d (pc + 1) ls st (Sh, sI D k i.toNatClampNeg x) r) : Rn X Y d pc ls (.int x :: .int i :: .ref k :: st) (Sh, D) r := by
  intro o M' hr p e Rm s m args below meth c mc ms E H locs cells slots la S
  have hlt := S.1.lt hk
  refine W.zast E.1 E.2.1 (S.1.2.2.2.2 k _ hk) ((E.2.2.2.2.2.2.2.2.1.1.2 3 _ rfl).1 n (fun j => .int (D.2 k j))) (fun q => by cases q) (by show ¬ (i < 0 ∨ (arrV _ _ _).slots.size ≤ _); rw [arrV_size]; exact hin) rfl rfl dg fun H1 e1 z oq => ?_
  refine kk o M' hr p e Rm s m args below meth c mc ms E H1 _ cells slots la (S.to (S.1.store hk rfl rfl (fun a ha => ⟨sI_ne ha, rfl, rfl⟩) ?_ z oq) (Nat.le_of_eq z.symm) (zad_F hlt) rfl rfl)
  show H1[zad X k]? = some (vp_cell _ _)
  rw [e1]
  show some ((vp_cell (zA X 3) (n, .inl (D.2 k))).setSlot i.toNatClampNeg _) = some (vp_cell (zA X 3) (n, .inl ((sI D k i.toNatClampNeg x).2 k)))
  rw [vp_cell_i, vp_cell_i, arrV_store]
  congr 2
  funext q
  by_cases hq : q = i.toNatClampNeg
  · subst hq
    rcases hx with rfl | rfl <;> simp [updV, sI] <;> rfl
  · simp [updV, sI, hq]
theorem r_last {k n : Nat} {i : Int32} {x : Int64} (hk : Sh.1[k]? = some (1, n)) (hin : vp_in i n) (dg : decode (yB Y) pc = .ok (.lastore, 1)) (kk : Rn X Y d (pc + 1) ls st (Sh, sL D k i.toNatClampNeg x) r) : Rn X Y d pc ls (.long x :: .int i :: .ref k :: st) (Sh, D) r := by
  intro o M' hr p e Rm s m args below meth c mc ms E H locs cells slots la S
  have hlt := S.1.lt hk
  refine W.last E.1 E.2.1 (S.1.2.2.2.2 k _ hk) ((E.2.2.2.2.2.2.2.2.1.1.2 1 _ rfl).1 n (fun j => .long (D.1 k j))) (fun q => by cases q) (by show ¬ (i < 0 ∨ (arrV _ _ _).slots.size ≤ _); rw [arrV_size]; exact hin) rfl rfl dg fun H1 e1 z oq => ?_
  refine kk o M' hr p e Rm s m args below meth c mc ms E H1 _ cells slots la (S.to (S.1.store hk rfl rfl (fun a ha => ⟨rfl, sL_ne ha, rfl⟩) ?_ z oq) (Nat.le_of_eq z.symm) (zad_F hlt) rfl rfl)
  show H1[zad X k]? = some (vp_cell _ _)
  rw [e1]
  show some ((vp_cell (zA X 1) (n, .inr (.inl (D.1 k)))).setSlot i.toNatClampNeg (.long x)) = some (vp_cell (zA X 1) (n, .inr (.inl ((sL D k i.toNatClampNeg x).1 k))))
  rw [vp_cell_l, vp_cell_l, arrV_store]
  congr 2
  funext q
  by_cases hq : q = i.toNatClampNeg
  · subst hq
    simp [updV, sL]
  · simp [updV, sL, hq]
/-- the fields behind a store into an object -/
theorem z_putAt {s : State} {H1 : Heap} {M2 : zM} {k ci j N : Nat} {C : String} {T : u_T} {t : Nat → FieldType} {own : String} {args : Array Value} {v : Value} (hts : ∀ w ∈ z_T, w.before args s = true) (hC : zCf ci N C T t) (hK : va_K (zG X) z_cl (zty X) s) (hj : j < N) {cell : Cell}
    (q2 : cell.cls = (zG X).1 ci) (q3 : cell.vm = .none) (q4 : ∀ i, i < N → cell.slots[(zG X).2 ci i]? = some (vp_V (zfs X M k ci N) i)) (e1 : H1[zad X k]? = some (cell.setSlot ((zG X).2 ci j) v)) (hv : ∀ i, i < N → vp_V (zfs X M2 k ci N) i = if i = j then v else vp_V (zfs X M k ci N) i) : va_at (zG X) z_cl (zad X k, .inr (ci, zfs X M2 k ci N)) H1 := by
  obtain ⟨hc, hi, hty, hnm⟩ := hC
  have hap := va_apart (own := own) hts hi t hty hnm hK hc
  refine ⟨_, hc, t_OB.to (V := updV (vp_V (zfs X M k ci N)) j v) ⟨_, e1, q2, q3, t_set q4 hap hj v⟩ (fun i hi => ?_)⟩
  rw [hv i hi]
  by_cases h : i = j
  · simp [updV, h]
  · simp [updV, h]
end ROWS2
