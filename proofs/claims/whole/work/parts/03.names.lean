/-! NAMES of this claim, by program out of its printed tables -/
def zR0 : String := "CoveredSigns$Alphabet"
def zR1 : String := "CoveredSigns$AlphabetText"
def zR2 : String := "CoveredSigns$Codes"
def zR3 : String := "CoveredSigns$Covers"
def zR4 : String := "CoveredSigns$LeastPart"
def zR5 : String := "CoveredSigns$Outlook"
def zR6 : String := "CoveredSigns$Repair"
def zR7 : String := "CoveredSigns$RuleText"
def zR8 : String := "CoveredSigns$Scan"
def zR9 : String := "CoveredSigns$Scene"
def zR10 : String := "CoveredSigns$Tangle"
def zR11 : String := "CoveredSigns"
def zR12 : String := "CoveredSignsModel"
def zRL : String := "CoveredSignsLaw"
def z_T : List Cond := lw_tbl.filter goodWord
theorem z_in {w : Cond} (i : Nat) (h : lw_tbl[i]? = some w) (g : goodWord w = true) : w ∈ z_T := List.mem_filter.mpr ⟨List.mem_of_getElem? h, g⟩
theorem z_in_tbl {w : Cond} (h : w ∈ z_T) : w ∈ lw_tbl := (List.mem_filter.mp h).1
theorem z_in_good {w : Cond} (h : w ∈ z_T) : goodWord w = true := (List.mem_filter.mp h).2
def zNk (w : Cond) : Bool := match w with
  | .fieldLinkNest .. => true
  | .methodLinkNest .. => true
  | .declares _ => true
  | .castable .. => true
  | _ => false
def z_N : List Cond := lw_tbl.filter zNk
theorem z_inN {w : Cond} (i : Nat) (h : lw_tbl[i]? = some w) (g : zNk w = true) : w ∈ z_N := List.mem_filter.mpr ⟨List.mem_of_getElem? h, g⟩
def z_nc : List (String × String) := [("java/util/NoSuchElementException", "java/lang/IllegalArgumentException"), ("java/lang/IndexOutOfBoundsException", "java/lang/IllegalArgumentException"), ("java/lang/IllegalArgumentException", "java/util/NoSuchElementException"), ("java/lang/IndexOutOfBoundsException", "java/util/NoSuchElementException"), ("java/lang/IllegalArgumentException", "java/lang/IndexOutOfBoundsException"), ("java/util/NoSuchElementException", "java/lang/IndexOutOfBoundsException")]
theorem z_in0 {w : Cond} (h : w ∈ lw_tbl) (g : goodWord w = true) : w ∈ z_T := List.mem_filter.mpr ⟨h, g⟩
theorem z_inN0 {w : Cond} (h : w ∈ lw_tbl) (g : zNk w = true) : w ∈ z_N := List.mem_filter.mpr ⟨h, g⟩
theorem zc_1 : ∀ w ∈ tables_1_1, w ∈ lw_tbl := fun w h => List.mem_append_right _ (List.mem_append_left _ (h))
theorem zc_2 : ∀ w ∈ tables_1_2, w ∈ lw_tbl := fun w h => List.mem_append_right _ (List.mem_append_right _ (List.mem_append_left _ (h)))
theorem zc_3 : ∀ w ∈ tables_1_3, w ∈ lw_tbl := fun w h => List.mem_append_right _ (List.mem_append_right _ (List.mem_append_right _ (List.mem_append_left _ (h))))
theorem zc_4 : ∀ w ∈ tables_1_4, w ∈ lw_tbl := fun w h => List.mem_append_right _ (List.mem_append_right _ (List.mem_append_right _ (List.mem_append_right _ (List.mem_append_left _ (h)))))
theorem zc_5 : ∀ w ∈ tables_1_5, w ∈ lw_tbl := fun w h => List.mem_append_right _ (List.mem_append_right _ (List.mem_append_right _ (List.mem_append_right _ (List.mem_append_right _ (List.mem_append_left _ (h))))))
theorem zc_6 : ∀ w ∈ tables_1_6, w ∈ lw_tbl := fun w h => List.mem_append_right _ (List.mem_append_right _ (List.mem_append_right _ (List.mem_append_right _ (List.mem_append_right _ (List.mem_append_right _ (List.mem_append_left _ (h)))))))
theorem zc_7 : ∀ w ∈ tables_1_7, w ∈ lw_tbl := fun w h => List.mem_append_right _ (List.mem_append_right _ (List.mem_append_right _ (List.mem_append_right _ (List.mem_append_right _ (List.mem_append_right _ (List.mem_append_right _ (List.mem_append_left _ (h))))))))
theorem zc_8 : ∀ w ∈ tables_1_8, w ∈ lw_tbl := fun w h => List.mem_append_right _ (List.mem_append_right _ (List.mem_append_right _ (List.mem_append_right _ (List.mem_append_right _ (List.mem_append_right _ (List.mem_append_right _ (List.mem_append_right _ (List.mem_append_left _ (h)))))))))
theorem zc_9 : ∀ w ∈ tables_1_9, w ∈ lw_tbl := fun w h => List.mem_append_right _ (List.mem_append_right _ (List.mem_append_right _ (List.mem_append_right _ (List.mem_append_right _ (List.mem_append_right _ (List.mem_append_right _ (List.mem_append_right _ (List.mem_append_right _ (h)))))))))
theorem zp_1 : ∀ w ∈ k2_sels lw_privs_1, w ∈ lw_tbl := fun w h => List.mem_append_left _ (by
  obtain ⟨q, hq, rfl⟩ := List.mem_map.mp h
  exact List.mem_map.mpr ⟨q, List.mem_append_left _ (hq), rfl⟩)
theorem zp_2 : ∀ w ∈ k2_sels lw_privs_2, w ∈ lw_tbl := fun w h => List.mem_append_left _ (by
  obtain ⟨q, hq, rfl⟩ := List.mem_map.mp h
  exact List.mem_map.mpr ⟨q, List.mem_append_right _ (List.mem_append_left _ (hq)), rfl⟩)
theorem zp_3 : ∀ w ∈ k2_sels lw_privs_3, w ∈ lw_tbl := fun w h => List.mem_append_left _ (by
  obtain ⟨q, hq, rfl⟩ := List.mem_map.mp h
  exact List.mem_map.mpr ⟨q, List.mem_append_right _ (List.mem_append_right _ (List.mem_append_left _ (hq))), rfl⟩)
theorem zp_4 : ∀ w ∈ k2_sels lw_privs_4, w ∈ lw_tbl := fun w h => List.mem_append_left _ (by
  obtain ⟨q, hq, rfl⟩ := List.mem_map.mp h
  exact List.mem_map.mpr ⟨q, List.mem_append_right _ (List.mem_append_right _ (List.mem_append_right _ (List.mem_append_left _ (hq)))), rfl⟩)
theorem zp_5 : ∀ w ∈ k2_sels lw_privs_5, w ∈ lw_tbl := fun w h => List.mem_append_left _ (by
  obtain ⟨q, hq, rfl⟩ := List.mem_map.mp h
  exact List.mem_map.mpr ⟨q, List.mem_append_right _ (List.mem_append_right _ (List.mem_append_right _ (List.mem_append_right _ (List.mem_append_left _ (hq))))), rfl⟩)
theorem zp_6 : ∀ w ∈ k2_sels lw_privs_6, w ∈ lw_tbl := fun w h => List.mem_append_left _ (by
  obtain ⟨q, hq, rfl⟩ := List.mem_map.mp h
  exact List.mem_map.mpr ⟨q, List.mem_append_right _ (List.mem_append_right _ (List.mem_append_right _ (List.mem_append_right _ (List.mem_append_right _ (List.mem_append_left _ (hq)))))), rfl⟩)
theorem zp_7 : ∀ w ∈ k2_sels lw_privs_7, w ∈ lw_tbl := fun w h => List.mem_append_left _ (by
  obtain ⟨q, hq, rfl⟩ := List.mem_map.mp h
  exact List.mem_map.mpr ⟨q, List.mem_append_right _ (List.mem_append_right _ (List.mem_append_right _ (List.mem_append_right _ (List.mem_append_right _ (List.mem_append_right _ (List.mem_append_left _ (hq))))))), rfl⟩)
theorem zp_8 : ∀ w ∈ k2_sels lw_privs_8, w ∈ lw_tbl := fun w h => List.mem_append_left _ (by
  obtain ⟨q, hq, rfl⟩ := List.mem_map.mp h
  exact List.mem_map.mpr ⟨q, List.mem_append_right _ (List.mem_append_right _ (List.mem_append_right _ (List.mem_append_right _ (List.mem_append_right _ (List.mem_append_right _ (List.mem_append_right _ (hq))))))), rfl⟩)
theorem z_inl {l : List Cond} {ps : List Nat} (h : l = ps.filterMap (fun i => lw_tbl[i]?)) (g : l.all goodWord = true) : ∀ w ∈ l, w ∈ z_T := by
  intro w hw
  refine List.mem_filter.mpr ⟨?_, List.all_eq_true.mp g w hw⟩
  rw [h] at hw
  obtain ⟨i, -, hi⟩ := List.mem_filterMap.mp hw
  exact List.mem_of_getElem? hi
def zT0 : u_T := fun k => match k with
  | 0 => ("CoveredSigns$Alphabet", "width", "I", false)
  | 1 => ("CoveredSigns$Alphabet", "height", "I", false)
  | 2 => ("CoveredSigns$Alphabet", "signs", "I", false)
  | 3 => ("CoveredSigns$Alphabet", "words", "I", false)
  | 4 => ("CoveredSigns$Alphabet", "paint", "[I", true)
  | 5 => ("CoveredSigns$Alphabet", "family", "[I", true)
  | 6 => ("CoveredSigns$Alphabet", "letter", "[I", true)
  | 7 => ("CoveredSigns$Alphabet", "length", "[I", true)
  | 8 => ("CoveredSigns$Alphabet", "across", "[I", true)
  | 9 => ("CoveredSigns$Alphabet", "down", "[I", true)
  | 10 => ("CoveredSigns$Alphabet", "partner", "[I", true)
  | _ => ("CoveredSigns$Alphabet", "tried", "I", false)
def zt0 : Nat → FieldType := fun k => match k with
  | 0 => .int
  | 1 => .int
  | 2 => .int
  | 3 => .int
  | 4 => (.array .int)
  | 5 => (.array .int)
  | 6 => (.array .int)
  | 7 => (.array .int)
  | 8 => (.array .int)
  | 9 => (.array .int)
  | 10 => (.array .int)
  | _ => .int
theorem zn0 : ∀ a, a < 12 → ∀ b, b < 12 → a ≠ b → (zT0 a).2.1 ≠ (zT0 b).2.1 := by decide +kernel
theorem zt0_ok : ∀ k, k < 12 → parseFieldDescriptor (zT0 k).2.2.1 = some (zt0 k) := by decide +kernel
theorem zi0 : ∀ w ∈ u_ws zR0 zT0 12, w ∈ z_T := by
  have h : u_ws zR0 zT0 12 = [213, 215, 217, 219, 221, 223, 225, 227, 229, 231, 233, 235].filterMap (fun i => lw_tbl[i]?) := by decide +kernel
  have g : (u_ws zR0 zT0 12).all goodWord = true := by decide +kernel
  exact z_inl h g
def zT1 : u_T := fun k => match k with
  | 0 => ("CoveredSigns$AlphabetText", "scan", "LCoveredSigns$Scan;", true)
  | _ => ("CoveredSigns$AlphabetText", "draft", "LCoveredSigns$Alphabet;", true)
def zt1 : Nat → FieldType := fun k => match k with
  | 0 => (.object "CoveredSigns$Scan")
  | _ => (.object "CoveredSigns$Alphabet")
theorem zn1 : ∀ a, a < 2 → ∀ b, b < 2 → a ≠ b → (zT1 a).2.1 ≠ (zT1 b).2.1 := by decide +kernel
theorem zt1_ok : ∀ k, k < 2 → parseFieldDescriptor (zT1 k).2.2.1 = some (zt1 k) := by decide +kernel
theorem zi1 : ∀ w ∈ u_ws zR1 zT1 2, w ∈ z_T := by
  have h : u_ws zR1 zT1 2 = [249, 251].filterMap (fun i => lw_tbl[i]?) := by decide +kernel
  have g : (u_ws zR1 zT1 2).all goodWord = true := by decide +kernel
  exact z_inl h g
def zT2 : u_T := fun k => match k with
  | 0 => ("CoveredSigns$Codes", "mixed", "[J", true)
  | 1 => ("CoveredSigns$Codes", "blocked", "[J", true)
  | 2 => ("CoveredSigns$Codes", "apart", "[J", true)
  | 3 => ("CoveredSigns$Codes", "shaded", "[I", true)
  | 4 => ("CoveredSigns$Codes", "best", "I", false)
  | _ => ("CoveredSigns$Codes", "limit", "I", false)
def zt2 : Nat → FieldType := fun k => match k with
  | 0 => (.array .long)
  | 1 => (.array .long)
  | 2 => (.array .long)
  | 3 => (.array .int)
  | 4 => .int
  | _ => .int
theorem zn2 : ∀ a, a < 6 → ∀ b, b < 6 → a ≠ b → (zT2 a).2.1 ≠ (zT2 b).2.1 := by decide +kernel
theorem zt2_ok : ∀ k, k < 6 → parseFieldDescriptor (zT2 k).2.2.1 = some (zt2 k) := by decide +kernel
theorem zi2 : ∀ w ∈ u_ws zR2 zT2 6, w ∈ z_T := by
  have h : u_ws zR2 zT2 6 = [425, 427, 429, 431, 433, 435].filterMap (fun i => lw_tbl[i]?) := by decide +kernel
  have g : (u_ws zR2 zT2 6).all goodWord = true := by decide +kernel
  exact z_inl h g
def zT3 : u_T := fun k => match k with
  | 0 => ("CoveredSigns$Covers", "cells", "[I", true)
  | _ => ("CoveredSigns$Covers", "size", "I", false)
def zt3 : Nat → FieldType := fun k => match k with
  | 0 => (.array .int)
  | _ => .int
theorem zn3 : ∀ a, a < 2 → ∀ b, b < 2 → a ≠ b → (zT3 a).2.1 ≠ (zT3 b).2.1 := by decide +kernel
theorem zt3_ok : ∀ k, k < 2 → parseFieldDescriptor (zT3 k).2.2.1 = some (zt3 k) := by decide +kernel
theorem zi3 : ∀ w ∈ u_ws zR3 zT3 2, w ∈ z_T := by
  have h : u_ws zR3 zT3 2 = [265, 267].filterMap (fun i => lw_tbl[i]?) := by decide +kernel
  have g : (u_ws zR3 zT3 2).all goodWord = true := by decide +kernel
  exact z_inl h g
def zT4 : u_T := fun k => match k with
  | 0 => ("CoveredSigns$LeastPart", "unlike", "[I", true)
  | 1 => ("CoveredSigns$LeastPart", "others", "I", false)
  | 2 => ("CoveredSigns$LeastPart", "need", "I", false)
  | _ => ("CoveredSigns$LeastPart", "cells", "I", false)
def zt4 : Nat → FieldType := fun k => match k with
  | 0 => (.array .int)
  | 1 => .int
  | 2 => .int
  | _ => .int
theorem zn4 : ∀ a, a < 4 → ∀ b, b < 4 → a ≠ b → (zT4 a).2.1 ≠ (zT4 b).2.1 := by decide +kernel
theorem zt4_ok : ∀ k, k < 4 → parseFieldDescriptor (zT4 k).2.2.1 = some (zt4 k) := by decide +kernel
theorem zi4 : ∀ w ∈ u_ws zR4 zT4 4, w ∈ z_T := by
  have h : u_ws zR4 zT4 4 = [404, 406, 408, 410].filterMap (fun i => lw_tbl[i]?) := by decide +kernel
  have g : (u_ws zR4 zT4 4).all goodWord = true := by decide +kernel
  exact z_inl h g
def zT5 : u_T := fun k => match k with
  | 0 => ("CoveredSigns$Outlook", "from", "[I", true)
  | 1 => ("CoveredSigns$Outlook", "by", "[I", true)
  | _ => ("CoveredSigns$Outlook", "surveyed", "[I", true)
def zt5 : Nat → FieldType := fun k => match k with
  | 0 => (.array .int)
  | 1 => (.array .int)
  | _ => (.array .int)
theorem zn5 : ∀ a, a < 3 → ∀ b, b < 3 → a ≠ b → (zT5 a).2.1 ≠ (zT5 b).2.1 := by decide +kernel
theorem zt5_ok : ∀ k, k < 3 → parseFieldDescriptor (zT5 k).2.2.1 = some (zt5 k) := by decide +kernel
theorem zi5 : ∀ w ∈ u_ws zR5 zT5 3, w ∈ z_T := by
  have h : u_ws zR5 zT5 3 = [448, 450, 452].filterMap (fun i => lw_tbl[i]?) := by decide +kernel
  have g : (u_ws zR5 zT5 3).all goodWord = true := by decide +kernel
  exact z_inl h g
def zT6 : u_T := fun k => match k with
  | 0 => ("CoveredSigns$Repair", "trial", "LCoveredSigns$Tangle;", true)
  | 1 => ("CoveredSigns$Repair", "count", "I", false)
  | 2 => ("CoveredSigns$Repair", "first", "I", false)
  | _ => ("CoveredSigns$Repair", "second", "I", false)
def zt6 : Nat → FieldType := fun k => match k with
  | 0 => (.object "CoveredSigns$Tangle")
  | 1 => .int
  | 2 => .int
  | _ => .int
theorem zn6 : ∀ a, a < 4 → ∀ b, b < 4 → a ≠ b → (zT6 a).2.1 ≠ (zT6 b).2.1 := by decide +kernel
theorem zt6_ok : ∀ k, k < 4 → parseFieldDescriptor (zT6 k).2.2.1 = some (zt6 k) := by decide +kernel
theorem zi6 : ∀ w ∈ u_ws zR6 zT6 4, w ∈ z_T := by
  have h : u_ws zR6 zT6 4 = [384, 386, 388, 390].filterMap (fun i => lw_tbl[i]?) := by decide +kernel
  have g : (u_ws zR6 zT6 4).all goodWord = true := by decide +kernel
  exact z_inl h g
def zT7 : u_T := fun k => match k with
  | 0 => ("CoveredSigns$RuleText", "scan", "LCoveredSigns$Scan;", true)
  | 1 => ("CoveredSigns$RuleText", "stack", "[LCoveredSigns$Covers;", true)
  | 2 => ("CoveredSigns$RuleText", "spare", "LCoveredSigns$Covers;", true)
  | 3 => ("CoveredSigns$RuleText", "hash", "[I", true)
  | 4 => ("CoveredSigns$RuleText", "width", "I", false)
  | 5 => ("CoveredSigns$RuleText", "height", "I", false)
  | _ => ("CoveredSigns$RuleText", "over", "Z", false)
def zt7 : Nat → FieldType := fun k => match k with
  | 0 => (.object "CoveredSigns$Scan")
  | 1 => (.array (.object "CoveredSigns$Covers"))
  | 2 => (.object "CoveredSigns$Covers")
  | 3 => (.array .int)
  | 4 => .int
  | 5 => .int
  | _ => .boolean
theorem zn7 : ∀ a, a < 7 → ∀ b, b < 7 → a ≠ b → (zT7 a).2.1 ≠ (zT7 b).2.1 := by decide +kernel
theorem zt7_ok : ∀ k, k < 7 → parseFieldDescriptor (zT7 k).2.2.1 = some (zt7 k) := by decide +kernel
theorem zi7 : ∀ w ∈ u_ws zR7 zT7 7, w ∈ z_T := by
  have h : u_ws zR7 zT7 7 = [286, 288, 290, 292, 294, 296, 298].filterMap (fun i => lw_tbl[i]?) := by decide +kernel
  have g : (u_ws zR7 zT7 7).all goodWord = true := by decide +kernel
  exact z_inl h g
def zT8 : u_T := fun k => match k with
  | 0 => ("CoveredSigns$Scan", "text", "[B", true)
  | 1 => ("CoveredSigns$Scan", "length", "I", false)
  | 2 => ("CoveredSigns$Scan", "at", "I", false)
  | 3 => ("CoveredSigns$Scan", "kind", "I", false)
  | _ => ("CoveredSigns$Scan", "place", "I", false)
def zt8 : Nat → FieldType := fun k => match k with
  | 0 => (.array .byte)
  | 1 => .int
  | 2 => .int
  | 3 => .int
  | _ => .int
theorem zn8 : ∀ a, a < 5 → ∀ b, b < 5 → a ≠ b → (zT8 a).2.1 ≠ (zT8 b).2.1 := by decide +kernel
theorem zt8_ok : ∀ k, k < 5 → parseFieldDescriptor (zT8 k).2.2.1 = some (zt8 k) := by decide +kernel
theorem zi8 : ∀ w ∈ u_ws zR8 zT8 5, w ∈ z_T := by
  have h : u_ws zR8 zT8 5 = [172, 174, 176, 178, 180].filterMap (fun i => lw_tbl[i]?) := by decide +kernel
  have g : (u_ws zR8 zT8 5).all goodWord = true := by decide +kernel
  exact z_inl h g
def zT9 : u_T := fun k => match k with
  | 0 => ("CoveredSigns$Scene", "dirt", "I", false)
  | 1 => ("CoveredSigns$Scene", "parts", "I", false)
  | 2 => ("CoveredSigns$Scene", "standing", "I", false)
  | 3 => ("CoveredSigns$Scene", "hidden", "[I", true)
  | 4 => ("CoveredSigns$Scene", "paint", "[I", true)
  | 5 => ("CoveredSigns$Scene", "sign", "[I", true)
  | 6 => ("CoveredSigns$Scene", "left", "[I", true)
  | _ => ("CoveredSigns$Scene", "far", "[I", true)
def zt9 : Nat → FieldType := fun k => match k with
  | 0 => .int
  | 1 => .int
  | 2 => .int
  | 3 => (.array .int)
  | 4 => (.array .int)
  | 5 => (.array .int)
  | 6 => (.array .int)
  | _ => (.array .int)
theorem zn9 : ∀ a, a < 8 → ∀ b, b < 8 → a ≠ b → (zT9 a).2.1 ≠ (zT9 b).2.1 := by decide +kernel
theorem zt9_ok : ∀ k, k < 8 → parseFieldDescriptor (zT9 k).2.2.1 = some (zt9 k) := by decide +kernel
theorem zi9 : ∀ w ∈ u_ws zR9 zT9 8, w ∈ z_T := by
  have h : u_ws zR9 zT9 8 = [319, 321, 323, 325, 327, 329, 331, 333].filterMap (fun i => lw_tbl[i]?) := by decide +kernel
  have g : (u_ws zR9 zT9 8).all goodWord = true := by decide +kernel
  exact z_inl h g
def zT10 : u_T := fun k => match k with
  | 0 => ("CoveredSigns$Tangle", "covers", "LCoveredSigns$Covers;", true)
  | 1 => ("CoveredSigns$Tangle", "paint", "[I", true)
  | 2 => ("CoveredSigns$Tangle", "mixed", "[I", true)
  | 3 => ("CoveredSigns$Tangle", "mixing", "[I", true)
  | 4 => ("CoveredSigns$Tangle", "signs", "I", false)
  | 5 => ("CoveredSigns$Tangle", "cells", "I", false)
  | 6 => ("CoveredSigns$Tangle", "slack", "I", false)
  | _ => ("CoveredSigns$Tangle", "pairs", "I", false)
def zt10 : Nat → FieldType := fun k => match k with
  | 0 => (.object "CoveredSigns$Covers")
  | 1 => (.array .int)
  | 2 => (.array .int)
  | 3 => (.array .int)
  | 4 => .int
  | 5 => .int
  | 6 => .int
  | _ => .int
theorem zn10 : ∀ a, a < 8 → ∀ b, b < 8 → a ≠ b → (zT10 a).2.1 ≠ (zT10 b).2.1 := by decide +kernel
theorem zt10_ok : ∀ k, k < 8 → parseFieldDescriptor (zT10 k).2.2.1 = some (zt10 k) := by decide +kernel
theorem zi10 : ∀ w ∈ u_ws zR10 zT10 8, w ∈ z_T := by
  have h : u_ws zR10 zT10 8 = [354, 356, 358, 360, 362, 364, 366, 368].filterMap (fun i => lw_tbl[i]?) := by decide +kernel
  have g : (u_ws zR10 zT10 8).all goodWord = true := by decide +kernel
  exact z_inl h g
def zT11 : u_T := fun k => match k with
  | 0 => ("CoveredSigns", "tape", "[B", true)
  | 1 => ("CoveredSigns", "scan", "LCoveredSigns$Scan;", true)
  | 2 => ("CoveredSigns", "letters", "LCoveredSigns$Alphabet;", true)
  | 3 => ("CoveredSigns", "alphabetText", "LCoveredSigns$AlphabetText;", true)
  | 4 => ("CoveredSigns", "covers", "LCoveredSigns$Covers;", true)
  | 5 => ("CoveredSigns", "ruleText", "LCoveredSigns$RuleText;", true)
  | 6 => ("CoveredSigns", "scene", "LCoveredSigns$Scene;", true)
  | 7 => ("CoveredSigns", "firstImage", "LCoveredSigns$Scene;", true)
  | 8 => ("CoveredSigns", "secondImage", "LCoveredSigns$Scene;", true)
  | 9 => ("CoveredSigns", "thirdImage", "LCoveredSigns$Scene;", true)
  | 10 => ("CoveredSigns", "tangle", "LCoveredSigns$Tangle;", true)
  | 11 => ("CoveredSigns", "repair", "LCoveredSigns$Repair;", true)
  | 12 => ("CoveredSigns", "leastPart", "LCoveredSigns$LeastPart;", true)
  | 13 => ("CoveredSigns", "codes", "LCoveredSigns$Codes;", true)
  | 14 => ("CoveredSigns", "outlook", "LCoveredSigns$Outlook;", true)
  | 15 => ("CoveredSigns", "kept", "[I", true)
  | 16 => ("CoveredSigns", "isWoven", "Z", false)
  | 17 => ("CoveredSigns", "tapeSize", "I", false)
  | _ => ("CoveredSigns", "images", "I", false)
def zt11 : Nat → FieldType := fun k => match k with
  | 0 => (.array .byte)
  | 1 => (.object "CoveredSigns$Scan")
  | 2 => (.object "CoveredSigns$Alphabet")
  | 3 => (.object "CoveredSigns$AlphabetText")
  | 4 => (.object "CoveredSigns$Covers")
  | 5 => (.object "CoveredSigns$RuleText")
  | 6 => (.object "CoveredSigns$Scene")
  | 7 => (.object "CoveredSigns$Scene")
  | 8 => (.object "CoveredSigns$Scene")
  | 9 => (.object "CoveredSigns$Scene")
  | 10 => (.object "CoveredSigns$Tangle")
  | 11 => (.object "CoveredSigns$Repair")
  | 12 => (.object "CoveredSigns$LeastPart")
  | 13 => (.object "CoveredSigns$Codes")
  | 14 => (.object "CoveredSigns$Outlook")
  | 15 => (.array .int)
  | 16 => .boolean
  | 17 => .int
  | _ => .int
theorem zn11 : ∀ a, a < 19 → ∀ b, b < 19 → a ≠ b → (zT11 a).2.1 ≠ (zT11 b).2.1 := by decide +kernel
theorem zt11_ok : ∀ k, k < 19 → parseFieldDescriptor (zT11 k).2.2.1 = some (zt11 k) := by decide +kernel
theorem zi11 : ∀ w ∈ u_ws zR11 zT11 19, w ∈ z_T := by
  have h : u_ws zR11 zT11 19 = [482, 484, 486, 488, 490, 492, 494, 496, 498, 500, 502, 504, 506, 508, 510, 512, 514, 516, 518].filterMap (fun i => lw_tbl[i]?) := by decide +kernel
  have g : (u_ws zR11 zT11 19).all goodWord = true := by decide +kernel
  exact z_inl h g
def zT12 : u_T := fun k => match k with
  | 0 => ("CoveredSignsModel", "thrown", "I", false)
  | 1 => ("CoveredSignsModel", "tape", "I", false)
  | 2 => ("CoveredSignsModel", "size", "I", false)
  | 3 => ("CoveredSignsModel", "place", "I", false)
  | 4 => ("CoveredSignsModel", "at", "I", false)
  | 5 => ("CoveredSignsModel", "fault", "I", false)
  | 6 => ("CoveredSignsModel", "faultAt", "I", false)
  | 7 => ("CoveredSignsModel", "clauses", "I", false)
  | 8 => ("CoveredSignsModel", "open", "I", false)
  | 9 => ("CoveredSignsModel", "fed", "[I", true)
  | 10 => ("CoveredSignsModel", "readWide", "I", false)
  | 11 => ("CoveredSignsModel", "readHigh", "I", false)
  | 12 => ("CoveredSignsModel", "readSigns", "I", false)
  | 13 => ("CoveredSignsModel", "readWords", "I", false)
  | 14 => ("CoveredSignsModel", "wide", "I", false)
  | 15 => ("CoveredSignsModel", "high", "I", false)
  | 16 => ("CoveredSignsModel", "signs", "I", false)
  | 17 => ("CoveredSignsModel", "words", "I", false)
  | 18 => ("CoveredSignsModel", "readSign", "[I", true)
  | 19 => ("CoveredSignsModel", "sign", "[I", true)
  | 20 => ("CoveredSignsModel", "readFamily", "[I", true)
  | 21 => ("CoveredSignsModel", "family", "[I", true)
  | 22 => ("CoveredSignsModel", "readLong", "[I", true)
  | 23 => ("CoveredSignsModel", "wordLong", "[I", true)
  | 24 => ("CoveredSignsModel", "readWord", "[[I", true)
  | 25 => ("CoveredSignsModel", "word", "[[I", true)
  | 26 => ("CoveredSignsModel", "covers", "I", false)
  | 27 => ("CoveredSignsModel", "rows", "I", false)
  | 28 => ("CoveredSignsModel", "cover", "[I", true)
  | 29 => ("CoveredSignsModel", "row", "[[I", true)
  | 30 => ("CoveredSignsModel", "rowMany", "[I", true)
  | 31 => ("CoveredSignsModel", "made", "[I", true)
  | 32 => ("CoveredSignsModel", "madeMany", "I", false)
  | 33 => ("CoveredSignsModel", "over", "Z", false)
  | 34 => ("CoveredSignsModel", "dirt", "I", false)
  | 35 => ("CoveredSignsModel", "parts", "I", false)
  | 36 => ("CoveredSignsModel", "standing", "I", false)
  | 37 => ("CoveredSignsModel", "images", "I", false)
  | 38 => ("CoveredSignsModel", "spot", "I", false)
  | 39 => ("CoveredSignsModel", "part", "[[I", true)
  | 40 => ("CoveredSignsModel", "stand", "[[I", true)
  | 41 => ("CoveredSignsModel", "kept", "[[I", true)
  | 42 => ("CoveredSignsModel", "isConfused", "[[Z", true)
  | 43 => ("CoveredSignsModel", "now", "[I", true)
  | 44 => ("CoveredSignsModel", "across", "[I", true)
  | 45 => ("CoveredSignsModel", "down", "[I", true)
  | 46 => ("CoveredSignsModel", "matched", "[I", true)
  | 47 => ("CoveredSignsModel", "tried", "[Z", true)
  | 48 => ("CoveredSignsModel", "first", "I", false)
  | 49 => ("CoveredSignsModel", "second", "I", false)
  | 50 => ("CoveredSignsModel", "matching", "[I", true)
  | 51 => ("CoveredSignsModel", "isAlike", "[Z", true)
  | 52 => ("CoveredSignsModel", "fits", "[J", true)
  | 53 => ("CoveredSignsModel", "mostSoFar", "I", false)
  | 54 => ("CoveredSignsModel", "taken", "[I", true)
  | 55 => ("CoveredSignsModel", "sofar", "[I", true)
  | _ => ("CoveredSignsModel", "guessed", "[I", true)
def zt12 : Nat → FieldType := fun k => match k with
  | 0 => .int
  | 1 => .int
  | 2 => .int
  | 3 => .int
  | 4 => .int
  | 5 => .int
  | 6 => .int
  | 7 => .int
  | 8 => .int
  | 9 => (.array .int)
  | 10 => .int
  | 11 => .int
  | 12 => .int
  | 13 => .int
  | 14 => .int
  | 15 => .int
  | 16 => .int
  | 17 => .int
  | 18 => (.array .int)
  | 19 => (.array .int)
  | 20 => (.array .int)
  | 21 => (.array .int)
  | 22 => (.array .int)
  | 23 => (.array .int)
  | 24 => (.array (.array .int))
  | 25 => (.array (.array .int))
  | 26 => .int
  | 27 => .int
  | 28 => (.array .int)
  | 29 => (.array (.array .int))
  | 30 => (.array .int)
  | 31 => (.array .int)
  | 32 => .int
  | 33 => .boolean
  | 34 => .int
  | 35 => .int
  | 36 => .int
  | 37 => .int
  | 38 => .int
  | 39 => (.array (.array .int))
  | 40 => (.array (.array .int))
  | 41 => (.array (.array .int))
  | 42 => (.array (.array .boolean))
  | 43 => (.array .int)
  | 44 => (.array .int)
  | 45 => (.array .int)
  | 46 => (.array .int)
  | 47 => (.array .boolean)
  | 48 => .int
  | 49 => .int
  | 50 => (.array .int)
  | 51 => (.array .boolean)
  | 52 => (.array .long)
  | 53 => .int
  | 54 => (.array .int)
  | 55 => (.array .int)
  | _ => (.array .int)
theorem zn12 : ∀ a, a < 57 → ∀ b, b < 57 → a ≠ b → (zT12 a).2.1 ≠ (zT12 b).2.1 := by decide +kernel
theorem zt12_ok : ∀ k, k < 57 → parseFieldDescriptor (zT12 k).2.2.1 = some (zt12 k) := by decide +kernel
theorem zi12 : ∀ w ∈ u_ws zR12 zT12 57, w ∈ z_T := by
  have h : u_ws zR12 zT12 57 = [1638, 1640, 1642, 1644, 1646, 1648, 1650, 1652, 1654, 1656, 1658, 1660, 1662, 1664, 1666, 1668, 1670, 1672, 1674, 1676, 1678, 1680, 1682, 1684, 1686, 1688, 1690, 1692, 1694, 1696, 1698, 1700, 1702, 1704, 1706, 1708, 1710, 1712, 1714, 1716, 1718, 1720, 1722, 1724, 1726, 1728, 1730, 1732, 1734, 1736, 1738, 1740, 1742, 1744, 1746, 1748, 1750].filterMap (fun i => lw_tbl[i]?) := by decide +kernel
  have g : (u_ws zR12 zT12 57).all goodWord = true := by decide +kernel
  exact z_inl h g
abbrev z_cl : List vw_C := [(zR0, zT0, 12), (zR1, zT1, 2), (zR2, zT2, 6), (zR3, zT3, 2), (zR4, zT4, 4), (zR5, zT5, 3), (zR6, zT6, 4), (zR7, zT7, 7), (zR8, zT8, 5), (zR9, zT9, 8), (zR10, zT10, 8), (zR11, zT11, 19), (zR12, zT12, 57)]
/-- which fields hold references -/
def zrf (c j : Nat) : Bool := match c with
  | 0 => [4, 5, 6, 7, 8, 9, 10].contains j
  | 1 => [0, 1].contains j
  | 2 => [0, 1, 2, 3].contains j
  | 3 => [0].contains j
  | 4 => [0].contains j
  | 5 => [0, 1, 2].contains j
  | 6 => [0].contains j
  | 7 => [0, 1, 2, 3].contains j
  | 8 => [0].contains j
  | 9 => [3, 4, 5, 6, 7].contains j
  | 10 => [0, 1, 2, 3].contains j
  | 11 => [0, 1, 2, 3, 4, 5, 6, 7, 8, 9, 10, 11, 12, 13, 14, 15].contains j
  | _ => [9, 18, 19, 20, 21, 22, 23, 24, 25, 28, 29, 30, 31, 39, 40, 41, 42, 43, 44, 45, 46, 47, 50, 51, 52, 54, 55, 56].contains j
/-- texts that are loaded: by whom, at which entry, the text, its number -/
def z_str : List (String × Nat × String × Nat) := [(zR11, 384, "n is 0 to the bytes of the tape", 17), (zR1, 43, "board", 0), (zR1, 56, "sign", 1), (zR1, 64, "across", 2), (zR1, 73, "down", 3), (zR1, 75, "clean", 4), (zR1, 79, "turned", 5), (zR1, 85, "mirror", 6), (zR1, 87, "family", 7), (zR1, 92, "word", 8), (zR7, 93, "not", 9), (zR7, 99, "side", 10), (zR7, 103, "corner", 11), (zR7, 107, "any", 12), (zR7, 111, "front", 13), (zR7, 115, "fog", 14), (zR7, 81, "and", 15), (zR7, 68, "or", 16), (zR11, 200, "what is 0 to 5", 18), (zR11, 388, "no such sign", 19), (zR11, 217, "no such word", 20), (zR11, 220, "a place is 0 to 5", 21), (zR11, 391, "no such cover", 22), (zR11, 232, "d is 0 to 3", 23), (zR11, 234, "one sign is not confused with itself", 24), (zR11, 402, "no such what", 25), (zR11, 396, "paint beside the board", 26), (zR11, 303, "a family is 0 to 3", 27), (zR11, 344, "x is 0 to 99, y 1 to 99", 28), (zR11, 398, "no such standing one", 29), (zR11, 400, "s is 0 to 99", 30)]
def z_nS : Nat := 17
def z_lenS : List Nat := [5, 4, 6, 4, 5, 6, 6, 6, 4, 3, 4, 6, 3, 5, 3, 3, 2]
def z_bytS : List (List Int32) := [[98, 111, 97, 114, 100], [115, 105, 103, 110], [97, 99, 114, 111, 115, 115], [100, 111, 119, 110], [99, 108, 101, 97, 110], [116, 117, 114, 110, 101, 100], [109, 105, 114, 114, 111, 114], [102, 97, 109, 105, 108, 121], [119, 111, 114, 100], [110, 111, 116], [115, 105, 100, 101], [99, 111, 114, 110, 101, 114], [97, 110, 121], [102, 114, 111, 110, 116], [102, 111, 103], [97, 110, 100], [111, 114]]
