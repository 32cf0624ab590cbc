/-! THE LAW: its script, its calls, its loop -/
def zScr (X : zX) (n : Nat) (w : Nat → Int32) : Prop := zo X 1006000 < zb X ∧ n = zo X 1006001 ∧ w = fun j => Int32.ofNat (zo X (2000000 + j))
def addx (x : Nat) (c : Option (Int32 × Nat × zD)) : Option (Int32 × Nat × zD) := c.map fun q => (q.1, x + q.2.1, q.2.2)
def fwA (c : Option (Int32 × Nat × zD)) (k : Int32 → zD → Option (Int32 × Nat × zD)) : Option (Int32 × Nat × zD) := c.bind fun q => addx q.2.1 (k q.1 q.2.2)
section ROWS10
variable {X : zX} {Y Y2 : zY} {d pc : Nat} {ls : List (Nat × Value)} {st av : List Value} {M : zM} {r r1 : Option (zOut × zM)} {Sh : zSh} {D : zD}
theorem zEv.scr {mc ms : Nat} {p : Program} {Rm : Room} {s : State} {m : MethodId} {args : Array Value} {meth : Method} {c : Code} (E : zEv X Y d mc ms p Rm s m args meth c) {n : Nat} {w : Nat → Int32} (hs : zScr X n w) : va_X (zo X 1006000) n w s s.heap := by
  obtain ⟨h1, rfl, rfl⟩ := hs
  exact va_X.kept E.2.2.2.2.2.2.2.2.1.2.2.2.1.2.2.2.2 (E.2.2.2.2.2.2.2.2.2.2.2.2.2.2.2.2 _ h1)
theorem zad_scr : zad X 1006000 = zo X 1006000 := if_neg (by omega)
theorem r_scr {n : Nat} {w : Nat → Int32} {i : Int32} {j : Nat} (hs : zScr X n w) (hin : vp_in i n) (hj : i.toNatClampNeg = j) (dg : decode (yB Y) pc = .ok (.iaload, 1)) (kk : Rn X Y d (pc + 1) ls (.int (w j) :: st) M r) : Rn X Y d pc ls (.int i :: .ref 1006000 :: st) M r := by
  subst hj
  intro o M' hr p e Rm s m args below meth c mc ms E H locs cells slots la S
  have eq : (Value.int i :: .ref 1006000 :: st).map (zrv X) = .int i :: .ref (zo X 1006000) :: st.map (zrv X) := by
    show Value.int i :: Value.ref (zad X 1006000) :: st.map (zrv X) = _
    rw [zad_scr]
  rw [eq]
  have hlt := Nat.lt_of_lt_of_le hs.1 E.2.2.2.2.2.2.2.2.2.2.2.2.2.2.2.1
  exact va_sld E.1 E.2.1 (E.scr hs) hlt (Nat.not_le.mpr hs.1) (E.S S) hin dg (kk o M' hr p e Rm s m args below meth c mc ms E H locs cells slots la S)
theorem r_sclen {n : Nat} {w : Nat → Int32} (hs : zScr X n w) (dg : decode (yB Y) pc = .ok (.arraylength, 1)) (kk : Rn X Y d (pc + 1) ls (.int (Int32.ofNat n) :: st) M r) : Rn X Y d pc ls (.ref 1006000 :: st) M r := by
  intro o M' hr p e Rm s m args below meth c mc ms E H locs cells slots la S
  have eq : (Value.ref 1006000 :: st).map (zrv X) = .ref (zo X 1006000) :: st.map (zrv X) := by
    show Value.ref (zad X 1006000) :: st.map (zrv X) = _
    rw [zad_scr]
  rw [eq]
  have hlt := Nat.lt_of_lt_of_le hs.1 E.2.2.2.2.2.2.2.2.2.2.2.2.2.2.2.1
  exact va_slen E.1 E.2.1 (E.scr hs) hlt (Nat.not_le.mpr hs.1) (E.S S) dg (kk o M' hr p e Rm s m args below meth c mc ms E H locs cells slots la S)
theorem kp_W : zKp Sh (oW Sh) := ⟨rfl, fun c o' M' h => by
  cases c with
  | none => cases h
  | some v => cases h; exact ⟨rfl, Nat.le_add_right _ _⟩⟩
theorem oW_addx {x : Nat} {c : Option (Int32 × Nat × zD)} : oW Sh (addx x c) = oW (shx Sh x) c := by
  cases c with
  | none => rfl
  | some q => simp [oW, addx, shx, Nat.add_assoc]
theorem shx_ok {x : Nat} (h0 : zSh0 Sh) : zSh0 (shx Sh x) := ⟨h0.1, h0.2.1, by have := h0.2.2; show Sh.2.2 + x ≠ 0; omega⟩
theorem q_cW {c : Option (Int32 × Nat × zD)} {k : Int32 → zD → Option (Int32 × Nat × zD)} (h0 : zSh0 Sh) (hR : zRun X Y d pc av st Y2 (Sh, D)) (hS : Sd X Y2 d av (Sh, D) (oW Sh c)) (hk : ∀ (v : Int32) (Sh2 : zSh) (D2 : zD), zSh0 Sh2 → Rn X Y (d + 1) (pc + 3) ls (.int v :: st) (Sh2, D2) (oW Sh2 (k v D2))) : Rn X Y (d + 1) pc ls (av.reverse ++ st) (Sh, D) (oW Sh (fwA c k)) := by
  cases c with
  | none => exact Rn_none rfl
  | some q =>
    obtain ⟨v, x, D2⟩ := q
    show Rn X Y (d + 1) pc ls (av.reverse ++ st) (Sh, D) (oW Sh (addx x (k v D2)))
    rw [oW_addx]
    refine r_call (d2 := 0) hR hS (fun h => by cases h) (fun v M1 h => ?_) (fun E M1 h => by cases h)
    cases h
    refine ⟨⟨?_, ?_⟩, zGr.same0 (fun o' M' e => kp_W.2 _ _ _ e), hk v (shx Sh x) D2 (shx_ok h0)⟩
    · show Sh.1.length + Sh.2.2 ≤ Sh.1.length + (Sh.2.2 + x)
      omega
    · show (Sh.1.map (fun q => q.2)).sum + 6 * Sh.2.2 ≤ (Sh.1.map (fun q => q.2)).sum + 6 * (Sh.2.2 + x)
      omega
/-- one exception more is granted (none was made) -/
theorem Rn_grant (hg : zGr (zEx M) r) (k : Rn X Y d pc ls st (zEx M) r) : Rn X Y d pc ls st M r := by
  intro o M' hr p e Rm s m args below meth c mc ms E H locs cells slots la S
  have h1 := hg o M' hr
  have a1 : zcc M ≤ zcc (zEx M) := Nat.le_succ _
  have a2 : zsc M ≤ zsc (zEx M) := by
    show (M.1.1.map (fun q => q.2)).sum + 6 * M.1.2.2 ≤ (M.1.1.map (fun q => q.2)).sum + 6 * (M.1.2.2 + 1)
    omega
  have b1 := S.2.2.2.2.1
  have b2 := S.2.2.2.2.2.1
  exact k o M' hr p e Rm s m args below meth c mc ms E H locs cells slots la ⟨S.1.ex (Nat.le_refl _) (fun q _ => rfl), S.2.1, S.2.2.1, S.2.2.2.1, by omega, by omega, h1.1, h1.2⟩
end ROWS10

def m_L_law : zY := (zRL, ⟨zRL, "law", "([I)Z"⟩, code, 7, some .boolean, [])
theorem d_L_law_0 : decode (yB m_L_law) 0 = .ok (.new 8, 3) := by decide +kernel
theorem d_L_law_3 : decode (yB m_L_law) 3 = .ok (.dup, 1) := by decide +kernel
theorem d_L_law_4 : decode (yB m_L_law) 4 = .ok (.invokespecial 89, 3) := by decide +kernel
theorem d_L_law_7 : decode (yB m_L_law) 7 = .ok (.astore_n 1, 1) := by decide +kernel
theorem d_L_law_8 : decode (yB m_L_law) 8 = .ok (.new 90, 3) := by decide +kernel
theorem d_L_law_11 : decode (yB m_L_law) 11 = .ok (.dup, 1) := by decide +kernel
theorem d_L_law_12 : decode (yB m_L_law) 12 = .ok (.invokespecial 92, 3) := by decide +kernel
theorem d_L_law_15 : decode (yB m_L_law) 15 = .ok (.astore_n 2, 1) := by decide +kernel
theorem d_L_law_16 : decode (yB m_L_law) 16 = .ok (.iconst 1, 1) := by decide +kernel
theorem d_L_law_17 : decode (yB m_L_law) 17 = .ok (.newarray .long, 2) := by decide +kernel
theorem d_L_law_19 : decode (yB m_L_law) 19 = .ok (.astore_n 3, 1) := by decide +kernel
theorem d_L_law_20 : decode (yB m_L_law) 20 = .ok (.iconst 0, 1) := by decide +kernel
theorem d_L_law_21 : decode (yB m_L_law) 21 = .ok (.istore 4, 2) := by decide +kernel
theorem d_L_law_23 : decode (yB m_L_law) 23 = .ok (.iload 4, 2) := by decide +kernel
theorem d_L_law_25 : decode (yB m_L_law) 25 = .ok (.aload_n 0, 1) := by decide +kernel
theorem d_L_law_26 : decode (yB m_L_law) 26 = .ok (.arraylength, 1) := by decide +kernel
theorem d_L_law_27 : decode (yB m_L_law) 27 = .ok (.bipush 6, 2) := by decide +kernel
theorem d_L_law_29 : decode (yB m_L_law) 29 = .ok (.isub, 1) := by decide +kernel
theorem d_L_law_30 : decode (yB m_L_law) 30 = .ok (.if_icmp .gt 2052, 3) := by decide +kernel
theorem d_L_law_33 : decode (yB m_L_law) 33 = .ok (.aload_n 0, 1) := by decide +kernel
theorem d_L_law_34 : decode (yB m_L_law) 34 = .ok (.iload 4, 2) := by decide +kernel
theorem d_L_law_36 : decode (yB m_L_law) 36 = .ok (.iaload, 1) := by decide +kernel
theorem d_L_law_37 : decode (yB m_L_law) 37 = .ok (.bipush 63, 2) := by decide +kernel
theorem d_L_law_39 : decode (yB m_L_law) 39 = .ok (.iand, 1) := by decide +kernel
theorem d_L_law_40 : decode (yB m_L_law) 40 = .ok (.tableswitch 2036 0 38 #[172, 245, 301, 357, 370, 426, 482, 538, 606, 662, 718, 786, 799, 855, 923, 991, 1059, 1127, 1140, 1153, 1178, 1246, 1302, 1370, 1383, 1439, 1452, 1508, 1521, 1534, 1614, 1627, 1723, 1819, 1903, 1944, 1985, 1998, 2011], 172) := by decide +kernel
theorem d_L_law_212 : decode (yB m_L_law) 212 = .ok (.aload_n 1, 1) := by decide +kernel
theorem d_L_law_213 : decode (yB m_L_law) 213 = .ok (.aload_n 0, 1) := by decide +kernel
theorem d_L_law_214 : decode (yB m_L_law) 214 = .ok (.iload 4, 2) := by decide +kernel
theorem d_L_law_216 : decode (yB m_L_law) 216 = .ok (.iconst 1, 1) := by decide +kernel
theorem d_L_law_217 : decode (yB m_L_law) 217 = .ok (.iadd, 1) := by decide +kernel
theorem d_L_law_218 : decode (yB m_L_law) 218 = .ok (.iaload, 1) := by decide +kernel
theorem d_L_law_219 : decode (yB m_L_law) 219 = .ok (.aload_n 0, 1) := by decide +kernel
theorem d_L_law_220 : decode (yB m_L_law) 220 = .ok (.iload 4, 2) := by decide +kernel
theorem d_L_law_222 : decode (yB m_L_law) 222 = .ok (.iconst 2, 1) := by decide +kernel
theorem d_L_law_223 : decode (yB m_L_law) 223 = .ok (.iadd, 1) := by decide +kernel
theorem d_L_law_224 : decode (yB m_L_law) 224 = .ok (.iaload, 1) := by decide +kernel
theorem d_L_law_225 : decode (yB m_L_law) 225 = .ok (.aload_n 0, 1) := by decide +kernel
theorem d_L_law_226 : decode (yB m_L_law) 226 = .ok (.iload 4, 2) := by decide +kernel
theorem d_L_law_228 : decode (yB m_L_law) 228 = .ok (.iconst 3, 1) := by decide +kernel
theorem d_L_law_229 : decode (yB m_L_law) 229 = .ok (.iadd, 1) := by decide +kernel
theorem d_L_law_230 : decode (yB m_L_law) 230 = .ok (.iaload, 1) := by decide +kernel
theorem d_L_law_231 : decode (yB m_L_law) 231 = .ok (.aload_n 0, 1) := by decide +kernel
theorem d_L_law_232 : decode (yB m_L_law) 232 = .ok (.iload 4, 2) := by decide +kernel
theorem d_L_law_234 : decode (yB m_L_law) 234 = .ok (.iconst 4, 1) := by decide +kernel
theorem d_L_law_235 : decode (yB m_L_law) 235 = .ok (.iadd, 1) := by decide +kernel
theorem d_L_law_236 : decode (yB m_L_law) 236 = .ok (.iaload, 1) := by decide +kernel
theorem d_L_law_237 : decode (yB m_L_law) 237 = .ok (.aload_n 0, 1) := by decide +kernel
theorem d_L_law_238 : decode (yB m_L_law) 238 = .ok (.iload 4, 2) := by decide +kernel
theorem d_L_law_240 : decode (yB m_L_law) 240 = .ok (.iconst 5, 1) := by decide +kernel
theorem d_L_law_241 : decode (yB m_L_law) 241 = .ok (.iadd, 1) := by decide +kernel
theorem d_L_law_242 : decode (yB m_L_law) 242 = .ok (.iaload, 1) := by decide +kernel
theorem d_L_law_243 : decode (yB m_L_law) 243 = .ok (.invokevirtual 93, 3) := by decide +kernel
theorem d_L_law_246 : decode (yB m_L_law) 246 = .ok (.aload_n 2, 1) := by decide +kernel
theorem d_L_law_247 : decode (yB m_L_law) 247 = .ok (.aload_n 0, 1) := by decide +kernel
theorem d_L_law_248 : decode (yB m_L_law) 248 = .ok (.iload 4, 2) := by decide +kernel
theorem d_L_law_250 : decode (yB m_L_law) 250 = .ok (.iconst 1, 1) := by decide +kernel
theorem d_L_law_251 : decode (yB m_L_law) 251 = .ok (.iadd, 1) := by decide +kernel
theorem d_L_law_252 : decode (yB m_L_law) 252 = .ok (.iaload, 1) := by decide +kernel
theorem d_L_law_253 : decode (yB m_L_law) 253 = .ok (.aload_n 0, 1) := by decide +kernel
theorem d_L_law_254 : decode (yB m_L_law) 254 = .ok (.iload 4, 2) := by decide +kernel
theorem d_L_law_256 : decode (yB m_L_law) 256 = .ok (.iconst 2, 1) := by decide +kernel
theorem d_L_law_257 : decode (yB m_L_law) 257 = .ok (.iadd, 1) := by decide +kernel
theorem d_L_law_258 : decode (yB m_L_law) 258 = .ok (.iaload, 1) := by decide +kernel
theorem d_L_law_259 : decode (yB m_L_law) 259 = .ok (.aload_n 0, 1) := by decide +kernel
theorem d_L_law_260 : decode (yB m_L_law) 260 = .ok (.iload 4, 2) := by decide +kernel
theorem d_L_law_262 : decode (yB m_L_law) 262 = .ok (.iconst 3, 1) := by decide +kernel
theorem d_L_law_263 : decode (yB m_L_law) 263 = .ok (.iadd, 1) := by decide +kernel
theorem d_L_law_264 : decode (yB m_L_law) 264 = .ok (.iaload, 1) := by decide +kernel
theorem d_L_law_265 : decode (yB m_L_law) 265 = .ok (.aload_n 0, 1) := by decide +kernel
theorem d_L_law_266 : decode (yB m_L_law) 266 = .ok (.iload 4, 2) := by decide +kernel
theorem d_L_law_268 : decode (yB m_L_law) 268 = .ok (.iconst 4, 1) := by decide +kernel
theorem d_L_law_269 : decode (yB m_L_law) 269 = .ok (.iadd, 1) := by decide +kernel
theorem d_L_law_270 : decode (yB m_L_law) 270 = .ok (.iaload, 1) := by decide +kernel
theorem d_L_law_271 : decode (yB m_L_law) 271 = .ok (.aload_n 0, 1) := by decide +kernel
theorem d_L_law_272 : decode (yB m_L_law) 272 = .ok (.iload 4, 2) := by decide +kernel
theorem d_L_law_274 : decode (yB m_L_law) 274 = .ok (.iconst 5, 1) := by decide +kernel
theorem d_L_law_275 : decode (yB m_L_law) 275 = .ok (.iadd, 1) := by decide +kernel
theorem d_L_law_276 : decode (yB m_L_law) 276 = .ok (.iaload, 1) := by decide +kernel
theorem d_L_law_277 : decode (yB m_L_law) 277 = .ok (.invokevirtual 97, 3) := by decide +kernel
theorem d_L_law_280 : decode (yB m_L_law) 280 = .ok (.if_icmp .eq 1796, 3) := by decide +kernel
theorem d_L_law_283 : decode (yB m_L_law) 283 = .ok (.iconst 0, 1) := by decide +kernel
theorem d_L_law_284 : decode (yB m_L_law) 284 = .ok (.ireturn, 1) := by decide +kernel
theorem d_L_law_285 : decode (yB m_L_law) 285 = .ok (.aload_n 1, 1) := by decide +kernel
theorem d_L_law_286 : decode (yB m_L_law) 286 = .ok (.aload_n 0, 1) := by decide +kernel
theorem d_L_law_287 : decode (yB m_L_law) 287 = .ok (.iload 4, 2) := by decide +kernel
theorem d_L_law_289 : decode (yB m_L_law) 289 = .ok (.iconst 1, 1) := by decide +kernel
theorem d_L_law_290 : decode (yB m_L_law) 290 = .ok (.iadd, 1) := by decide +kernel
theorem d_L_law_291 : decode (yB m_L_law) 291 = .ok (.iaload, 1) := by decide +kernel
theorem d_L_law_292 : decode (yB m_L_law) 292 = .ok (.aload_n 3, 1) := by decide +kernel
theorem d_L_law_293 : decode (yB m_L_law) 293 = .ok (.invokestatic 98, 3) := by decide +kernel
theorem d_L_law_296 : decode (yB m_L_law) 296 = .ok (.istore 5, 2) := by decide +kernel
theorem d_L_law_298 : decode (yB m_L_law) 298 = .ok (.aload_n 2, 1) := by decide +kernel
theorem d_L_law_299 : decode (yB m_L_law) 299 = .ok (.aload_n 0, 1) := by decide +kernel
theorem d_L_law_300 : decode (yB m_L_law) 300 = .ok (.iload 4, 2) := by decide +kernel
theorem d_L_law_302 : decode (yB m_L_law) 302 = .ok (.iconst 1, 1) := by decide +kernel
theorem d_L_law_303 : decode (yB m_L_law) 303 = .ok (.iadd, 1) := by decide +kernel
theorem d_L_law_304 : decode (yB m_L_law) 304 = .ok (.iaload, 1) := by decide +kernel
theorem d_L_law_305 : decode (yB m_L_law) 305 = .ok (.invokevirtual 103, 3) := by decide +kernel
theorem d_L_law_308 : decode (yB m_L_law) 308 = .ok (.istore 6, 2) := by decide +kernel
theorem d_L_law_310 : decode (yB m_L_law) 310 = .ok (.aload_n 2, 1) := by decide +kernel
theorem d_L_law_311 : decode (yB m_L_law) 311 = .ok (.invokevirtual 104, 3) := by decide +kernel
theorem d_L_law_314 : decode (yB m_L_law) 314 = .ok (.iload 5, 2) := by decide +kernel
theorem d_L_law_316 : decode (yB m_L_law) 316 = .ok (.if_icmp .eq 5, 3) := by decide +kernel
theorem d_L_law_319 : decode (yB m_L_law) 319 = .ok (.iconst 0, 1) := by decide +kernel
theorem d_L_law_320 : decode (yB m_L_law) 320 = .ok (.ireturn, 1) := by decide +kernel
theorem d_L_law_321 : decode (yB m_L_law) 321 = .ok (.iload 5, 2) := by decide +kernel
theorem d_L_law_323 : decode (yB m_L_law) 323 = .ok (.ifCond .ne 15, 3) := by decide +kernel
theorem d_L_law_326 : decode (yB m_L_law) 326 = .ok (.aload_n 3, 1) := by decide +kernel
theorem d_L_law_327 : decode (yB m_L_law) 327 = .ok (.iconst 0, 1) := by decide +kernel
theorem d_L_law_328 : decode (yB m_L_law) 328 = .ok (.laload, 1) := by decide +kernel
theorem d_L_law_329 : decode (yB m_L_law) 329 = .ok (.iload 6, 2) := by decide +kernel
theorem d_L_law_331 : decode (yB m_L_law) 331 = .ok (.i2l, 1) := by decide +kernel
theorem d_L_law_332 : decode (yB m_L_law) 332 = .ok (.lcmp, 1) := by decide +kernel
theorem d_L_law_333 : decode (yB m_L_law) 333 = .ok (.ifCond .eq 5, 3) := by decide +kernel
theorem d_L_law_336 : decode (yB m_L_law) 336 = .ok (.iconst 0, 1) := by decide +kernel
theorem d_L_law_337 : decode (yB m_L_law) 337 = .ok (.ireturn, 1) := by decide +kernel
theorem d_L_law_338 : decode (yB m_L_law) 338 = .ok (.goto 1738, 3) := by decide +kernel
theorem d_L_law_341 : decode (yB m_L_law) 341 = .ok (.aload_n 1, 1) := by decide +kernel
theorem d_L_law_342 : decode (yB m_L_law) 342 = .ok (.aload_n 0, 1) := by decide +kernel
theorem d_L_law_343 : decode (yB m_L_law) 343 = .ok (.iload 4, 2) := by decide +kernel
theorem d_L_law_345 : decode (yB m_L_law) 345 = .ok (.iconst 1, 1) := by decide +kernel
theorem d_L_law_346 : decode (yB m_L_law) 346 = .ok (.iadd, 1) := by decide +kernel
theorem d_L_law_347 : decode (yB m_L_law) 347 = .ok (.iaload, 1) := by decide +kernel
theorem d_L_law_348 : decode (yB m_L_law) 348 = .ok (.aload_n 3, 1) := by decide +kernel
theorem d_L_law_349 : decode (yB m_L_law) 349 = .ok (.invokestatic 108, 3) := by decide +kernel
theorem d_L_law_352 : decode (yB m_L_law) 352 = .ok (.istore 5, 2) := by decide +kernel
theorem d_L_law_354 : decode (yB m_L_law) 354 = .ok (.aload_n 2, 1) := by decide +kernel
theorem d_L_law_355 : decode (yB m_L_law) 355 = .ok (.aload_n 0, 1) := by decide +kernel
theorem d_L_law_356 : decode (yB m_L_law) 356 = .ok (.iload 4, 2) := by decide +kernel
theorem d_L_law_358 : decode (yB m_L_law) 358 = .ok (.iconst 1, 1) := by decide +kernel
theorem d_L_law_359 : decode (yB m_L_law) 359 = .ok (.iadd, 1) := by decide +kernel
theorem d_L_law_360 : decode (yB m_L_law) 360 = .ok (.iaload, 1) := by decide +kernel
theorem d_L_law_361 : decode (yB m_L_law) 361 = .ok (.invokevirtual 110, 3) := by decide +kernel
theorem d_L_law_364 : decode (yB m_L_law) 364 = .ok (.istore 6, 2) := by decide +kernel
theorem d_L_law_366 : decode (yB m_L_law) 366 = .ok (.aload_n 2, 1) := by decide +kernel
theorem d_L_law_367 : decode (yB m_L_law) 367 = .ok (.invokevirtual 104, 3) := by decide +kernel
theorem d_L_law_370 : decode (yB m_L_law) 370 = .ok (.iload 5, 2) := by decide +kernel
theorem d_L_law_372 : decode (yB m_L_law) 372 = .ok (.if_icmp .eq 5, 3) := by decide +kernel
theorem d_L_law_375 : decode (yB m_L_law) 375 = .ok (.iconst 0, 1) := by decide +kernel
theorem d_L_law_376 : decode (yB m_L_law) 376 = .ok (.ireturn, 1) := by decide +kernel
theorem d_L_law_377 : decode (yB m_L_law) 377 = .ok (.iload 5, 2) := by decide +kernel
theorem d_L_law_379 : decode (yB m_L_law) 379 = .ok (.ifCond .ne 15, 3) := by decide +kernel
theorem d_L_law_382 : decode (yB m_L_law) 382 = .ok (.aload_n 3, 1) := by decide +kernel
theorem d_L_law_383 : decode (yB m_L_law) 383 = .ok (.iconst 0, 1) := by decide +kernel
theorem d_L_law_384 : decode (yB m_L_law) 384 = .ok (.laload, 1) := by decide +kernel
theorem d_L_law_385 : decode (yB m_L_law) 385 = .ok (.iload 6, 2) := by decide +kernel
theorem d_L_law_387 : decode (yB m_L_law) 387 = .ok (.i2l, 1) := by decide +kernel
theorem d_L_law_388 : decode (yB m_L_law) 388 = .ok (.lcmp, 1) := by decide +kernel
theorem d_L_law_389 : decode (yB m_L_law) 389 = .ok (.ifCond .eq 5, 3) := by decide +kernel
theorem d_L_law_392 : decode (yB m_L_law) 392 = .ok (.iconst 0, 1) := by decide +kernel
theorem d_L_law_393 : decode (yB m_L_law) 393 = .ok (.ireturn, 1) := by decide +kernel
theorem d_L_law_394 : decode (yB m_L_law) 394 = .ok (.goto 1682, 3) := by decide +kernel
theorem d_L_law_397 : decode (yB m_L_law) 397 = .ok (.aload_n 1, 1) := by decide +kernel
theorem d_L_law_398 : decode (yB m_L_law) 398 = .ok (.invokevirtual 111, 3) := by decide +kernel
theorem d_L_law_401 : decode (yB m_L_law) 401 = .ok (.aload_n 2, 1) := by decide +kernel
theorem d_L_law_402 : decode (yB m_L_law) 402 = .ok (.invokevirtual 114, 3) := by decide +kernel
theorem d_L_law_405 : decode (yB m_L_law) 405 = .ok (.if_icmp .eq 1671, 3) := by decide +kernel
theorem d_L_law_408 : decode (yB m_L_law) 408 = .ok (.iconst 0, 1) := by decide +kernel
theorem d_L_law_409 : decode (yB m_L_law) 409 = .ok (.ireturn, 1) := by decide +kernel
theorem d_L_law_410 : decode (yB m_L_law) 410 = .ok (.aload_n 1, 1) := by decide +kernel
theorem d_L_law_411 : decode (yB m_L_law) 411 = .ok (.aload_n 0, 1) := by decide +kernel
theorem d_L_law_412 : decode (yB m_L_law) 412 = .ok (.iload 4, 2) := by decide +kernel
theorem d_L_law_414 : decode (yB m_L_law) 414 = .ok (.iconst 1, 1) := by decide +kernel
theorem d_L_law_415 : decode (yB m_L_law) 415 = .ok (.iadd, 1) := by decide +kernel
theorem d_L_law_416 : decode (yB m_L_law) 416 = .ok (.iaload, 1) := by decide +kernel
theorem d_L_law_417 : decode (yB m_L_law) 417 = .ok (.aload_n 3, 1) := by decide +kernel
theorem d_L_law_418 : decode (yB m_L_law) 418 = .ok (.invokestatic 115, 3) := by decide +kernel
theorem d_L_law_421 : decode (yB m_L_law) 421 = .ok (.istore 5, 2) := by decide +kernel
theorem d_L_law_423 : decode (yB m_L_law) 423 = .ok (.aload_n 2, 1) := by decide +kernel
theorem d_L_law_424 : decode (yB m_L_law) 424 = .ok (.aload_n 0, 1) := by decide +kernel
theorem d_L_law_425 : decode (yB m_L_law) 425 = .ok (.iload 4, 2) := by decide +kernel
theorem d_L_law_427 : decode (yB m_L_law) 427 = .ok (.iconst 1, 1) := by decide +kernel
theorem d_L_law_428 : decode (yB m_L_law) 428 = .ok (.iadd, 1) := by decide +kernel
theorem d_L_law_429 : decode (yB m_L_law) 429 = .ok (.iaload, 1) := by decide +kernel
theorem d_L_law_430 : decode (yB m_L_law) 430 = .ok (.invokevirtual 117, 3) := by decide +kernel
theorem d_L_law_433 : decode (yB m_L_law) 433 = .ok (.istore 6, 2) := by decide +kernel
theorem d_L_law_435 : decode (yB m_L_law) 435 = .ok (.aload_n 2, 1) := by decide +kernel
theorem d_L_law_436 : decode (yB m_L_law) 436 = .ok (.invokevirtual 104, 3) := by decide +kernel
theorem d_L_law_439 : decode (yB m_L_law) 439 = .ok (.iload 5, 2) := by decide +kernel
theorem d_L_law_441 : decode (yB m_L_law) 441 = .ok (.if_icmp .eq 5, 3) := by decide +kernel
theorem d_L_law_444 : decode (yB m_L_law) 444 = .ok (.iconst 0, 1) := by decide +kernel
theorem d_L_law_445 : decode (yB m_L_law) 445 = .ok (.ireturn, 1) := by decide +kernel
theorem d_L_law_446 : decode (yB m_L_law) 446 = .ok (.iload 5, 2) := by decide +kernel
theorem d_L_law_448 : decode (yB m_L_law) 448 = .ok (.ifCond .ne 15, 3) := by decide +kernel
theorem d_L_law_451 : decode (yB m_L_law) 451 = .ok (.aload_n 3, 1) := by decide +kernel
theorem d_L_law_452 : decode (yB m_L_law) 452 = .ok (.iconst 0, 1) := by decide +kernel
theorem d_L_law_453 : decode (yB m_L_law) 453 = .ok (.laload, 1) := by decide +kernel
theorem d_L_law_454 : decode (yB m_L_law) 454 = .ok (.iload 6, 2) := by decide +kernel
theorem d_L_law_456 : decode (yB m_L_law) 456 = .ok (.i2l, 1) := by decide +kernel
theorem d_L_law_457 : decode (yB m_L_law) 457 = .ok (.lcmp, 1) := by decide +kernel
theorem d_L_law_458 : decode (yB m_L_law) 458 = .ok (.ifCond .eq 5, 3) := by decide +kernel
theorem d_L_law_461 : decode (yB m_L_law) 461 = .ok (.iconst 0, 1) := by decide +kernel
theorem d_L_law_462 : decode (yB m_L_law) 462 = .ok (.ireturn, 1) := by decide +kernel
theorem d_L_law_463 : decode (yB m_L_law) 463 = .ok (.goto 1613, 3) := by decide +kernel
theorem d_L_law_466 : decode (yB m_L_law) 466 = .ok (.aload_n 1, 1) := by decide +kernel
theorem d_L_law_467 : decode (yB m_L_law) 467 = .ok (.aload_n 0, 1) := by decide +kernel
theorem d_L_law_468 : decode (yB m_L_law) 468 = .ok (.iload 4, 2) := by decide +kernel
theorem d_L_law_470 : decode (yB m_L_law) 470 = .ok (.iconst 1, 1) := by decide +kernel
theorem d_L_law_471 : decode (yB m_L_law) 471 = .ok (.iadd, 1) := by decide +kernel
theorem d_L_law_472 : decode (yB m_L_law) 472 = .ok (.iaload, 1) := by decide +kernel
theorem d_L_law_473 : decode (yB m_L_law) 473 = .ok (.aload_n 3, 1) := by decide +kernel
theorem d_L_law_474 : decode (yB m_L_law) 474 = .ok (.invokestatic 118, 3) := by decide +kernel
theorem d_L_law_477 : decode (yB m_L_law) 477 = .ok (.istore 5, 2) := by decide +kernel
theorem d_L_law_479 : decode (yB m_L_law) 479 = .ok (.aload_n 2, 1) := by decide +kernel
theorem d_L_law_480 : decode (yB m_L_law) 480 = .ok (.aload_n 0, 1) := by decide +kernel
theorem d_L_law_481 : decode (yB m_L_law) 481 = .ok (.iload 4, 2) := by decide +kernel
theorem d_L_law_483 : decode (yB m_L_law) 483 = .ok (.iconst 1, 1) := by decide +kernel
theorem d_L_law_484 : decode (yB m_L_law) 484 = .ok (.iadd, 1) := by decide +kernel
theorem d_L_law_485 : decode (yB m_L_law) 485 = .ok (.iaload, 1) := by decide +kernel
theorem d_L_law_486 : decode (yB m_L_law) 486 = .ok (.invokevirtual 120, 3) := by decide +kernel
theorem d_L_law_489 : decode (yB m_L_law) 489 = .ok (.istore 6, 2) := by decide +kernel
theorem d_L_law_491 : decode (yB m_L_law) 491 = .ok (.aload_n 2, 1) := by decide +kernel
theorem d_L_law_492 : decode (yB m_L_law) 492 = .ok (.invokevirtual 104, 3) := by decide +kernel
theorem d_L_law_495 : decode (yB m_L_law) 495 = .ok (.iload 5, 2) := by decide +kernel
theorem d_L_law_497 : decode (yB m_L_law) 497 = .ok (.if_icmp .eq 5, 3) := by decide +kernel
theorem d_L_law_500 : decode (yB m_L_law) 500 = .ok (.iconst 0, 1) := by decide +kernel
theorem d_L_law_501 : decode (yB m_L_law) 501 = .ok (.ireturn, 1) := by decide +kernel
theorem d_L_law_502 : decode (yB m_L_law) 502 = .ok (.iload 5, 2) := by decide +kernel
theorem d_L_law_504 : decode (yB m_L_law) 504 = .ok (.ifCond .ne 15, 3) := by decide +kernel
theorem d_L_law_507 : decode (yB m_L_law) 507 = .ok (.aload_n 3, 1) := by decide +kernel
theorem d_L_law_508 : decode (yB m_L_law) 508 = .ok (.iconst 0, 1) := by decide +kernel
theorem d_L_law_509 : decode (yB m_L_law) 509 = .ok (.laload, 1) := by decide +kernel
theorem d_L_law_510 : decode (yB m_L_law) 510 = .ok (.iload 6, 2) := by decide +kernel
theorem d_L_law_512 : decode (yB m_L_law) 512 = .ok (.i2l, 1) := by decide +kernel
theorem d_L_law_513 : decode (yB m_L_law) 513 = .ok (.lcmp, 1) := by decide +kernel
theorem d_L_law_514 : decode (yB m_L_law) 514 = .ok (.ifCond .eq 5, 3) := by decide +kernel
theorem d_L_law_517 : decode (yB m_L_law) 517 = .ok (.iconst 0, 1) := by decide +kernel
theorem d_L_law_518 : decode (yB m_L_law) 518 = .ok (.ireturn, 1) := by decide +kernel
theorem d_L_law_519 : decode (yB m_L_law) 519 = .ok (.goto 1557, 3) := by decide +kernel
theorem d_L_law_522 : decode (yB m_L_law) 522 = .ok (.aload_n 1, 1) := by decide +kernel
theorem d_L_law_523 : decode (yB m_L_law) 523 = .ok (.aload_n 0, 1) := by decide +kernel
theorem d_L_law_524 : decode (yB m_L_law) 524 = .ok (.iload 4, 2) := by decide +kernel
theorem d_L_law_526 : decode (yB m_L_law) 526 = .ok (.iconst 1, 1) := by decide +kernel
theorem d_L_law_527 : decode (yB m_L_law) 527 = .ok (.iadd, 1) := by decide +kernel
theorem d_L_law_528 : decode (yB m_L_law) 528 = .ok (.iaload, 1) := by decide +kernel
theorem d_L_law_529 : decode (yB m_L_law) 529 = .ok (.aload_n 3, 1) := by decide +kernel
theorem d_L_law_530 : decode (yB m_L_law) 530 = .ok (.invokestatic 121, 3) := by decide +kernel
theorem d_L_law_533 : decode (yB m_L_law) 533 = .ok (.istore 5, 2) := by decide +kernel
theorem d_L_law_535 : decode (yB m_L_law) 535 = .ok (.aload_n 2, 1) := by decide +kernel
theorem d_L_law_536 : decode (yB m_L_law) 536 = .ok (.aload_n 0, 1) := by decide +kernel
theorem d_L_law_537 : decode (yB m_L_law) 537 = .ok (.iload 4, 2) := by decide +kernel
theorem d_L_law_539 : decode (yB m_L_law) 539 = .ok (.iconst 1, 1) := by decide +kernel
theorem d_L_law_540 : decode (yB m_L_law) 540 = .ok (.iadd, 1) := by decide +kernel
theorem d_L_law_541 : decode (yB m_L_law) 541 = .ok (.iaload, 1) := by decide +kernel
theorem d_L_law_542 : decode (yB m_L_law) 542 = .ok (.invokevirtual 123, 3) := by decide +kernel
theorem d_L_law_545 : decode (yB m_L_law) 545 = .ok (.istore 6, 2) := by decide +kernel
theorem d_L_law_547 : decode (yB m_L_law) 547 = .ok (.aload_n 2, 1) := by decide +kernel
theorem d_L_law_548 : decode (yB m_L_law) 548 = .ok (.invokevirtual 104, 3) := by decide +kernel
theorem d_L_law_551 : decode (yB m_L_law) 551 = .ok (.iload 5, 2) := by decide +kernel
theorem d_L_law_553 : decode (yB m_L_law) 553 = .ok (.if_icmp .eq 5, 3) := by decide +kernel
theorem d_L_law_556 : decode (yB m_L_law) 556 = .ok (.iconst 0, 1) := by decide +kernel
theorem d_L_law_557 : decode (yB m_L_law) 557 = .ok (.ireturn, 1) := by decide +kernel
theorem d_L_law_558 : decode (yB m_L_law) 558 = .ok (.iload 5, 2) := by decide +kernel
theorem d_L_law_560 : decode (yB m_L_law) 560 = .ok (.ifCond .ne 15, 3) := by decide +kernel
theorem d_L_law_563 : decode (yB m_L_law) 563 = .ok (.aload_n 3, 1) := by decide +kernel
theorem d_L_law_564 : decode (yB m_L_law) 564 = .ok (.iconst 0, 1) := by decide +kernel
theorem d_L_law_565 : decode (yB m_L_law) 565 = .ok (.laload, 1) := by decide +kernel
theorem d_L_law_566 : decode (yB m_L_law) 566 = .ok (.iload 6, 2) := by decide +kernel
theorem d_L_law_568 : decode (yB m_L_law) 568 = .ok (.i2l, 1) := by decide +kernel
theorem d_L_law_569 : decode (yB m_L_law) 569 = .ok (.lcmp, 1) := by decide +kernel
theorem d_L_law_570 : decode (yB m_L_law) 570 = .ok (.ifCond .eq 5, 3) := by decide +kernel
theorem d_L_law_573 : decode (yB m_L_law) 573 = .ok (.iconst 0, 1) := by decide +kernel
theorem d_L_law_574 : decode (yB m_L_law) 574 = .ok (.ireturn, 1) := by decide +kernel
theorem d_L_law_575 : decode (yB m_L_law) 575 = .ok (.goto 1501, 3) := by decide +kernel
theorem d_L_law_578 : decode (yB m_L_law) 578 = .ok (.aload_n 1, 1) := by decide +kernel
theorem d_L_law_579 : decode (yB m_L_law) 579 = .ok (.aload_n 0, 1) := by decide +kernel
theorem d_L_law_580 : decode (yB m_L_law) 580 = .ok (.iload 4, 2) := by decide +kernel
theorem d_L_law_582 : decode (yB m_L_law) 582 = .ok (.iconst 1, 1) := by decide +kernel
theorem d_L_law_583 : decode (yB m_L_law) 583 = .ok (.iadd, 1) := by decide +kernel
theorem d_L_law_584 : decode (yB m_L_law) 584 = .ok (.iaload, 1) := by decide +kernel
theorem d_L_law_585 : decode (yB m_L_law) 585 = .ok (.aload_n 0, 1) := by decide +kernel
theorem d_L_law_586 : decode (yB m_L_law) 586 = .ok (.iload 4, 2) := by decide +kernel
theorem d_L_law_588 : decode (yB m_L_law) 588 = .ok (.iconst 2, 1) := by decide +kernel
theorem d_L_law_589 : decode (yB m_L_law) 589 = .ok (.iadd, 1) := by decide +kernel
theorem d_L_law_590 : decode (yB m_L_law) 590 = .ok (.iaload, 1) := by decide +kernel
theorem d_L_law_591 : decode (yB m_L_law) 591 = .ok (.aload_n 3, 1) := by decide +kernel
theorem d_L_law_592 : decode (yB m_L_law) 592 = .ok (.invokestatic 124, 3) := by decide +kernel
theorem d_L_law_595 : decode (yB m_L_law) 595 = .ok (.istore 5, 2) := by decide +kernel
theorem d_L_law_597 : decode (yB m_L_law) 597 = .ok (.aload_n 2, 1) := by decide +kernel
theorem d_L_law_598 : decode (yB m_L_law) 598 = .ok (.aload_n 0, 1) := by decide +kernel
theorem d_L_law_599 : decode (yB m_L_law) 599 = .ok (.iload 4, 2) := by decide +kernel
theorem d_L_law_601 : decode (yB m_L_law) 601 = .ok (.iconst 1, 1) := by decide +kernel
theorem d_L_law_602 : decode (yB m_L_law) 602 = .ok (.iadd, 1) := by decide +kernel
theorem d_L_law_603 : decode (yB m_L_law) 603 = .ok (.iaload, 1) := by decide +kernel
theorem d_L_law_604 : decode (yB m_L_law) 604 = .ok (.aload_n 0, 1) := by decide +kernel
theorem d_L_law_605 : decode (yB m_L_law) 605 = .ok (.iload 4, 2) := by decide +kernel
theorem d_L_law_607 : decode (yB m_L_law) 607 = .ok (.iconst 2, 1) := by decide +kernel
theorem d_L_law_608 : decode (yB m_L_law) 608 = .ok (.iadd, 1) := by decide +kernel
theorem d_L_law_609 : decode (yB m_L_law) 609 = .ok (.iaload, 1) := by decide +kernel
theorem d_L_law_610 : decode (yB m_L_law) 610 = .ok (.invokevirtual 127, 3) := by decide +kernel
theorem d_L_law_613 : decode (yB m_L_law) 613 = .ok (.istore 6, 2) := by decide +kernel
theorem d_L_law_615 : decode (yB m_L_law) 615 = .ok (.aload_n 2, 1) := by decide +kernel
theorem d_L_law_616 : decode (yB m_L_law) 616 = .ok (.invokevirtual 104, 3) := by decide +kernel
theorem d_L_law_619 : decode (yB m_L_law) 619 = .ok (.iload 5, 2) := by decide +kernel
theorem d_L_law_621 : decode (yB m_L_law) 621 = .ok (.if_icmp .eq 5, 3) := by decide +kernel
theorem d_L_law_624 : decode (yB m_L_law) 624 = .ok (.iconst 0, 1) := by decide +kernel
theorem d_L_law_625 : decode (yB m_L_law) 625 = .ok (.ireturn, 1) := by decide +kernel
theorem d_L_law_626 : decode (yB m_L_law) 626 = .ok (.iload 5, 2) := by decide +kernel
theorem d_L_law_628 : decode (yB m_L_law) 628 = .ok (.ifCond .ne 15, 3) := by decide +kernel
theorem d_L_law_631 : decode (yB m_L_law) 631 = .ok (.aload_n 3, 1) := by decide +kernel
theorem d_L_law_632 : decode (yB m_L_law) 632 = .ok (.iconst 0, 1) := by decide +kernel
theorem d_L_law_633 : decode (yB m_L_law) 633 = .ok (.laload, 1) := by decide +kernel
theorem d_L_law_634 : decode (yB m_L_law) 634 = .ok (.iload 6, 2) := by decide +kernel
theorem d_L_law_636 : decode (yB m_L_law) 636 = .ok (.i2l, 1) := by decide +kernel
theorem d_L_law_637 : decode (yB m_L_law) 637 = .ok (.lcmp, 1) := by decide +kernel
theorem d_L_law_638 : decode (yB m_L_law) 638 = .ok (.ifCond .eq 5, 3) := by decide +kernel
theorem d_L_law_641 : decode (yB m_L_law) 641 = .ok (.iconst 0, 1) := by decide +kernel
theorem d_L_law_642 : decode (yB m_L_law) 642 = .ok (.ireturn, 1) := by decide +kernel
theorem d_L_law_643 : decode (yB m_L_law) 643 = .ok (.goto 1433, 3) := by decide +kernel
theorem d_L_law_646 : decode (yB m_L_law) 646 = .ok (.aload_n 1, 1) := by decide +kernel
theorem d_L_law_647 : decode (yB m_L_law) 647 = .ok (.aload_n 0, 1) := by decide +kernel
theorem d_L_law_648 : decode (yB m_L_law) 648 = .ok (.iload 4, 2) := by decide +kernel
theorem d_L_law_650 : decode (yB m_L_law) 650 = .ok (.iconst 1, 1) := by decide +kernel
theorem d_L_law_651 : decode (yB m_L_law) 651 = .ok (.iadd, 1) := by decide +kernel
theorem d_L_law_652 : decode (yB m_L_law) 652 = .ok (.iaload, 1) := by decide +kernel
theorem d_L_law_653 : decode (yB m_L_law) 653 = .ok (.aload_n 3, 1) := by decide +kernel
theorem d_L_law_654 : decode (yB m_L_law) 654 = .ok (.invokestatic 128, 3) := by decide +kernel
theorem d_L_law_657 : decode (yB m_L_law) 657 = .ok (.istore 5, 2) := by decide +kernel
theorem d_L_law_659 : decode (yB m_L_law) 659 = .ok (.aload_n 2, 1) := by decide +kernel
theorem d_L_law_660 : decode (yB m_L_law) 660 = .ok (.aload_n 0, 1) := by decide +kernel
theorem d_L_law_661 : decode (yB m_L_law) 661 = .ok (.iload 4, 2) := by decide +kernel
theorem d_L_law_663 : decode (yB m_L_law) 663 = .ok (.iconst 1, 1) := by decide +kernel
theorem d_L_law_664 : decode (yB m_L_law) 664 = .ok (.iadd, 1) := by decide +kernel
theorem d_L_law_665 : decode (yB m_L_law) 665 = .ok (.iaload, 1) := by decide +kernel
theorem d_L_law_666 : decode (yB m_L_law) 666 = .ok (.invokevirtual 130, 3) := by decide +kernel
theorem d_L_law_669 : decode (yB m_L_law) 669 = .ok (.istore 6, 2) := by decide +kernel
theorem d_L_law_671 : decode (yB m_L_law) 671 = .ok (.aload_n 2, 1) := by decide +kernel
theorem d_L_law_672 : decode (yB m_L_law) 672 = .ok (.invokevirtual 104, 3) := by decide +kernel
theorem d_L_law_675 : decode (yB m_L_law) 675 = .ok (.iload 5, 2) := by decide +kernel
theorem d_L_law_677 : decode (yB m_L_law) 677 = .ok (.if_icmp .eq 5, 3) := by decide +kernel
theorem d_L_law_680 : decode (yB m_L_law) 680 = .ok (.iconst 0, 1) := by decide +kernel
theorem d_L_law_681 : decode (yB m_L_law) 681 = .ok (.ireturn, 1) := by decide +kernel
theorem d_L_law_682 : decode (yB m_L_law) 682 = .ok (.iload 5, 2) := by decide +kernel
theorem d_L_law_684 : decode (yB m_L_law) 684 = .ok (.ifCond .ne 15, 3) := by decide +kernel
theorem d_L_law_687 : decode (yB m_L_law) 687 = .ok (.aload_n 3, 1) := by decide +kernel
theorem d_L_law_688 : decode (yB m_L_law) 688 = .ok (.iconst 0, 1) := by decide +kernel
theorem d_L_law_689 : decode (yB m_L_law) 689 = .ok (.laload, 1) := by decide +kernel
theorem d_L_law_690 : decode (yB m_L_law) 690 = .ok (.iload 6, 2) := by decide +kernel
theorem d_L_law_692 : decode (yB m_L_law) 692 = .ok (.i2l, 1) := by decide +kernel
theorem d_L_law_693 : decode (yB m_L_law) 693 = .ok (.lcmp, 1) := by decide +kernel
theorem d_L_law_694 : decode (yB m_L_law) 694 = .ok (.ifCond .eq 5, 3) := by decide +kernel
theorem d_L_law_697 : decode (yB m_L_law) 697 = .ok (.iconst 0, 1) := by decide +kernel
theorem d_L_law_698 : decode (yB m_L_law) 698 = .ok (.ireturn, 1) := by decide +kernel
theorem d_L_law_699 : decode (yB m_L_law) 699 = .ok (.goto 1377, 3) := by decide +kernel
theorem d_L_law_702 : decode (yB m_L_law) 702 = .ok (.aload_n 1, 1) := by decide +kernel
theorem d_L_law_703 : decode (yB m_L_law) 703 = .ok (.aload_n 0, 1) := by decide +kernel
theorem d_L_law_704 : decode (yB m_L_law) 704 = .ok (.iload 4, 2) := by decide +kernel
theorem d_L_law_706 : decode (yB m_L_law) 706 = .ok (.iconst 1, 1) := by decide +kernel
theorem d_L_law_707 : decode (yB m_L_law) 707 = .ok (.iadd, 1) := by decide +kernel
theorem d_L_law_708 : decode (yB m_L_law) 708 = .ok (.iaload, 1) := by decide +kernel
theorem d_L_law_709 : decode (yB m_L_law) 709 = .ok (.aload_n 3, 1) := by decide +kernel
theorem d_L_law_710 : decode (yB m_L_law) 710 = .ok (.invokestatic 131, 3) := by decide +kernel
theorem d_L_law_713 : decode (yB m_L_law) 713 = .ok (.istore 5, 2) := by decide +kernel
theorem d_L_law_715 : decode (yB m_L_law) 715 = .ok (.aload_n 2, 1) := by decide +kernel
theorem d_L_law_716 : decode (yB m_L_law) 716 = .ok (.aload_n 0, 1) := by decide +kernel
theorem d_L_law_717 : decode (yB m_L_law) 717 = .ok (.iload 4, 2) := by decide +kernel
theorem d_L_law_719 : decode (yB m_L_law) 719 = .ok (.iconst 1, 1) := by decide +kernel
theorem d_L_law_720 : decode (yB m_L_law) 720 = .ok (.iadd, 1) := by decide +kernel
theorem d_L_law_721 : decode (yB m_L_law) 721 = .ok (.iaload, 1) := by decide +kernel
theorem d_L_law_722 : decode (yB m_L_law) 722 = .ok (.invokevirtual 133, 3) := by decide +kernel
theorem d_L_law_725 : decode (yB m_L_law) 725 = .ok (.istore 6, 2) := by decide +kernel
theorem d_L_law_727 : decode (yB m_L_law) 727 = .ok (.aload_n 2, 1) := by decide +kernel
theorem d_L_law_728 : decode (yB m_L_law) 728 = .ok (.invokevirtual 104, 3) := by decide +kernel
theorem d_L_law_731 : decode (yB m_L_law) 731 = .ok (.iload 5, 2) := by decide +kernel
theorem d_L_law_733 : decode (yB m_L_law) 733 = .ok (.if_icmp .eq 5, 3) := by decide +kernel
theorem d_L_law_736 : decode (yB m_L_law) 736 = .ok (.iconst 0, 1) := by decide +kernel
theorem d_L_law_737 : decode (yB m_L_law) 737 = .ok (.ireturn, 1) := by decide +kernel
theorem d_L_law_738 : decode (yB m_L_law) 738 = .ok (.iload 5, 2) := by decide +kernel
theorem d_L_law_740 : decode (yB m_L_law) 740 = .ok (.ifCond .ne 15, 3) := by decide +kernel
theorem d_L_law_743 : decode (yB m_L_law) 743 = .ok (.aload_n 3, 1) := by decide +kernel
theorem d_L_law_744 : decode (yB m_L_law) 744 = .ok (.iconst 0, 1) := by decide +kernel
theorem d_L_law_745 : decode (yB m_L_law) 745 = .ok (.laload, 1) := by decide +kernel
theorem d_L_law_746 : decode (yB m_L_law) 746 = .ok (.iload 6, 2) := by decide +kernel
theorem d_L_law_748 : decode (yB m_L_law) 748 = .ok (.i2l, 1) := by decide +kernel
theorem d_L_law_749 : decode (yB m_L_law) 749 = .ok (.lcmp, 1) := by decide +kernel
theorem d_L_law_750 : decode (yB m_L_law) 750 = .ok (.ifCond .eq 5, 3) := by decide +kernel
theorem d_L_law_753 : decode (yB m_L_law) 753 = .ok (.iconst 0, 1) := by decide +kernel
theorem d_L_law_754 : decode (yB m_L_law) 754 = .ok (.ireturn, 1) := by decide +kernel
theorem d_L_law_755 : decode (yB m_L_law) 755 = .ok (.goto 1321, 3) := by decide +kernel
theorem d_L_law_758 : decode (yB m_L_law) 758 = .ok (.aload_n 1, 1) := by decide +kernel
theorem d_L_law_759 : decode (yB m_L_law) 759 = .ok (.aload_n 0, 1) := by decide +kernel
theorem d_L_law_760 : decode (yB m_L_law) 760 = .ok (.iload 4, 2) := by decide +kernel
theorem d_L_law_762 : decode (yB m_L_law) 762 = .ok (.iconst 1, 1) := by decide +kernel
theorem d_L_law_763 : decode (yB m_L_law) 763 = .ok (.iadd, 1) := by decide +kernel
theorem d_L_law_764 : decode (yB m_L_law) 764 = .ok (.iaload, 1) := by decide +kernel
theorem d_L_law_765 : decode (yB m_L_law) 765 = .ok (.aload_n 0, 1) := by decide +kernel
theorem d_L_law_766 : decode (yB m_L_law) 766 = .ok (.iload 4, 2) := by decide +kernel
theorem d_L_law_768 : decode (yB m_L_law) 768 = .ok (.iconst 2, 1) := by decide +kernel
theorem d_L_law_769 : decode (yB m_L_law) 769 = .ok (.iadd, 1) := by decide +kernel
theorem d_L_law_770 : decode (yB m_L_law) 770 = .ok (.iaload, 1) := by decide +kernel
theorem d_L_law_771 : decode (yB m_L_law) 771 = .ok (.aload_n 3, 1) := by decide +kernel
theorem d_L_law_772 : decode (yB m_L_law) 772 = .ok (.invokestatic 134, 3) := by decide +kernel
theorem d_L_law_775 : decode (yB m_L_law) 775 = .ok (.istore 5, 2) := by decide +kernel
theorem d_L_law_777 : decode (yB m_L_law) 777 = .ok (.aload_n 2, 1) := by decide +kernel
theorem d_L_law_778 : decode (yB m_L_law) 778 = .ok (.aload_n 0, 1) := by decide +kernel
theorem d_L_law_779 : decode (yB m_L_law) 779 = .ok (.iload 4, 2) := by decide +kernel
theorem d_L_law_781 : decode (yB m_L_law) 781 = .ok (.iconst 1, 1) := by decide +kernel
theorem d_L_law_782 : decode (yB m_L_law) 782 = .ok (.iadd, 1) := by decide +kernel
theorem d_L_law_783 : decode (yB m_L_law) 783 = .ok (.iaload, 1) := by decide +kernel
theorem d_L_law_784 : decode (yB m_L_law) 784 = .ok (.aload_n 0, 1) := by decide +kernel
theorem d_L_law_785 : decode (yB m_L_law) 785 = .ok (.iload 4, 2) := by decide +kernel
theorem d_L_law_787 : decode (yB m_L_law) 787 = .ok (.iconst 2, 1) := by decide +kernel
theorem d_L_law_788 : decode (yB m_L_law) 788 = .ok (.iadd, 1) := by decide +kernel
theorem d_L_law_789 : decode (yB m_L_law) 789 = .ok (.iaload, 1) := by decide +kernel
theorem d_L_law_790 : decode (yB m_L_law) 790 = .ok (.invokevirtual 136, 3) := by decide +kernel
theorem d_L_law_793 : decode (yB m_L_law) 793 = .ok (.istore 6, 2) := by decide +kernel
theorem d_L_law_795 : decode (yB m_L_law) 795 = .ok (.aload_n 2, 1) := by decide +kernel
theorem d_L_law_796 : decode (yB m_L_law) 796 = .ok (.invokevirtual 104, 3) := by decide +kernel
theorem d_L_law_799 : decode (yB m_L_law) 799 = .ok (.iload 5, 2) := by decide +kernel
theorem d_L_law_801 : decode (yB m_L_law) 801 = .ok (.if_icmp .eq 5, 3) := by decide +kernel
theorem d_L_law_804 : decode (yB m_L_law) 804 = .ok (.iconst 0, 1) := by decide +kernel
theorem d_L_law_805 : decode (yB m_L_law) 805 = .ok (.ireturn, 1) := by decide +kernel
theorem d_L_law_806 : decode (yB m_L_law) 806 = .ok (.iload 5, 2) := by decide +kernel
theorem d_L_law_808 : decode (yB m_L_law) 808 = .ok (.ifCond .ne 15, 3) := by decide +kernel
theorem d_L_law_811 : decode (yB m_L_law) 811 = .ok (.aload_n 3, 1) := by decide +kernel
theorem d_L_law_812 : decode (yB m_L_law) 812 = .ok (.iconst 0, 1) := by decide +kernel
theorem d_L_law_813 : decode (yB m_L_law) 813 = .ok (.laload, 1) := by decide +kernel
theorem d_L_law_814 : decode (yB m_L_law) 814 = .ok (.iload 6, 2) := by decide +kernel
theorem d_L_law_816 : decode (yB m_L_law) 816 = .ok (.i2l, 1) := by decide +kernel
theorem d_L_law_817 : decode (yB m_L_law) 817 = .ok (.lcmp, 1) := by decide +kernel
theorem d_L_law_818 : decode (yB m_L_law) 818 = .ok (.ifCond .eq 5, 3) := by decide +kernel
theorem d_L_law_821 : decode (yB m_L_law) 821 = .ok (.iconst 0, 1) := by decide +kernel
theorem d_L_law_822 : decode (yB m_L_law) 822 = .ok (.ireturn, 1) := by decide +kernel
theorem d_L_law_823 : decode (yB m_L_law) 823 = .ok (.goto 1253, 3) := by decide +kernel
theorem d_L_law_826 : decode (yB m_L_law) 826 = .ok (.aload_n 1, 1) := by decide +kernel
theorem d_L_law_827 : decode (yB m_L_law) 827 = .ok (.invokevirtual 137, 3) := by decide +kernel
theorem d_L_law_830 : decode (yB m_L_law) 830 = .ok (.aload_n 2, 1) := by decide +kernel
theorem d_L_law_831 : decode (yB m_L_law) 831 = .ok (.invokevirtual 140, 3) := by decide +kernel
theorem d_L_law_834 : decode (yB m_L_law) 834 = .ok (.if_icmp .eq 1242, 3) := by decide +kernel
theorem d_L_law_837 : decode (yB m_L_law) 837 = .ok (.iconst 0, 1) := by decide +kernel
theorem d_L_law_838 : decode (yB m_L_law) 838 = .ok (.ireturn, 1) := by decide +kernel
theorem d_L_law_839 : decode (yB m_L_law) 839 = .ok (.aload_n 1, 1) := by decide +kernel
theorem d_L_law_840 : decode (yB m_L_law) 840 = .ok (.aload_n 0, 1) := by decide +kernel
theorem d_L_law_841 : decode (yB m_L_law) 841 = .ok (.iload 4, 2) := by decide +kernel
theorem d_L_law_843 : decode (yB m_L_law) 843 = .ok (.iconst 1, 1) := by decide +kernel
theorem d_L_law_844 : decode (yB m_L_law) 844 = .ok (.iadd, 1) := by decide +kernel
theorem d_L_law_845 : decode (yB m_L_law) 845 = .ok (.iaload, 1) := by decide +kernel
theorem d_L_law_846 : decode (yB m_L_law) 846 = .ok (.aload_n 3, 1) := by decide +kernel
theorem d_L_law_847 : decode (yB m_L_law) 847 = .ok (.invokestatic 141, 3) := by decide +kernel
theorem d_L_law_850 : decode (yB m_L_law) 850 = .ok (.istore 5, 2) := by decide +kernel
theorem d_L_law_852 : decode (yB m_L_law) 852 = .ok (.aload_n 2, 1) := by decide +kernel
theorem d_L_law_853 : decode (yB m_L_law) 853 = .ok (.aload_n 0, 1) := by decide +kernel
theorem d_L_law_854 : decode (yB m_L_law) 854 = .ok (.iload 4, 2) := by decide +kernel
theorem d_L_law_856 : decode (yB m_L_law) 856 = .ok (.iconst 1, 1) := by decide +kernel
theorem d_L_law_857 : decode (yB m_L_law) 857 = .ok (.iadd, 1) := by decide +kernel
theorem d_L_law_858 : decode (yB m_L_law) 858 = .ok (.iaload, 1) := by decide +kernel
theorem d_L_law_859 : decode (yB m_L_law) 859 = .ok (.invokevirtual 143, 3) := by decide +kernel
theorem d_L_law_862 : decode (yB m_L_law) 862 = .ok (.istore 6, 2) := by decide +kernel
theorem d_L_law_864 : decode (yB m_L_law) 864 = .ok (.aload_n 2, 1) := by decide +kernel
theorem d_L_law_865 : decode (yB m_L_law) 865 = .ok (.invokevirtual 104, 3) := by decide +kernel
theorem d_L_law_868 : decode (yB m_L_law) 868 = .ok (.iload 5, 2) := by decide +kernel
theorem d_L_law_870 : decode (yB m_L_law) 870 = .ok (.if_icmp .eq 5, 3) := by decide +kernel
theorem d_L_law_873 : decode (yB m_L_law) 873 = .ok (.iconst 0, 1) := by decide +kernel
theorem d_L_law_874 : decode (yB m_L_law) 874 = .ok (.ireturn, 1) := by decide +kernel
theorem d_L_law_875 : decode (yB m_L_law) 875 = .ok (.iload 5, 2) := by decide +kernel
theorem d_L_law_877 : decode (yB m_L_law) 877 = .ok (.ifCond .ne 15, 3) := by decide +kernel
theorem d_L_law_880 : decode (yB m_L_law) 880 = .ok (.aload_n 3, 1) := by decide +kernel
theorem d_L_law_881 : decode (yB m_L_law) 881 = .ok (.iconst 0, 1) := by decide +kernel
theorem d_L_law_882 : decode (yB m_L_law) 882 = .ok (.laload, 1) := by decide +kernel
theorem d_L_law_883 : decode (yB m_L_law) 883 = .ok (.iload 6, 2) := by decide +kernel
theorem d_L_law_885 : decode (yB m_L_law) 885 = .ok (.i2l, 1) := by decide +kernel
theorem d_L_law_886 : decode (yB m_L_law) 886 = .ok (.lcmp, 1) := by decide +kernel
theorem d_L_law_887 : decode (yB m_L_law) 887 = .ok (.ifCond .eq 5, 3) := by decide +kernel
theorem d_L_law_890 : decode (yB m_L_law) 890 = .ok (.iconst 0, 1) := by decide +kernel
theorem d_L_law_891 : decode (yB m_L_law) 891 = .ok (.ireturn, 1) := by decide +kernel
theorem d_L_law_892 : decode (yB m_L_law) 892 = .ok (.goto 1184, 3) := by decide +kernel
theorem d_L_law_895 : decode (yB m_L_law) 895 = .ok (.aload_n 1, 1) := by decide +kernel
theorem d_L_law_896 : decode (yB m_L_law) 896 = .ok (.aload_n 0, 1) := by decide +kernel
theorem d_L_law_897 : decode (yB m_L_law) 897 = .ok (.iload 4, 2) := by decide +kernel
theorem d_L_law_899 : decode (yB m_L_law) 899 = .ok (.iconst 1, 1) := by decide +kernel
theorem d_L_law_900 : decode (yB m_L_law) 900 = .ok (.iadd, 1) := by decide +kernel
theorem d_L_law_901 : decode (yB m_L_law) 901 = .ok (.iaload, 1) := by decide +kernel
theorem d_L_law_902 : decode (yB m_L_law) 902 = .ok (.aload_n 0, 1) := by decide +kernel
theorem d_L_law_903 : decode (yB m_L_law) 903 = .ok (.iload 4, 2) := by decide +kernel
theorem d_L_law_905 : decode (yB m_L_law) 905 = .ok (.iconst 2, 1) := by decide +kernel
theorem d_L_law_906 : decode (yB m_L_law) 906 = .ok (.iadd, 1) := by decide +kernel
theorem d_L_law_907 : decode (yB m_L_law) 907 = .ok (.iaload, 1) := by decide +kernel
theorem d_L_law_908 : decode (yB m_L_law) 908 = .ok (.aload_n 3, 1) := by decide +kernel
theorem d_L_law_909 : decode (yB m_L_law) 909 = .ok (.invokestatic 144, 3) := by decide +kernel
theorem d_L_law_912 : decode (yB m_L_law) 912 = .ok (.istore 5, 2) := by decide +kernel
theorem d_L_law_914 : decode (yB m_L_law) 914 = .ok (.aload_n 2, 1) := by decide +kernel
theorem d_L_law_915 : decode (yB m_L_law) 915 = .ok (.aload_n 0, 1) := by decide +kernel
theorem d_L_law_916 : decode (yB m_L_law) 916 = .ok (.iload 4, 2) := by decide +kernel
theorem d_L_law_918 : decode (yB m_L_law) 918 = .ok (.iconst 1, 1) := by decide +kernel
theorem d_L_law_919 : decode (yB m_L_law) 919 = .ok (.iadd, 1) := by decide +kernel
theorem d_L_law_920 : decode (yB m_L_law) 920 = .ok (.iaload, 1) := by decide +kernel
theorem d_L_law_921 : decode (yB m_L_law) 921 = .ok (.aload_n 0, 1) := by decide +kernel
theorem d_L_law_922 : decode (yB m_L_law) 922 = .ok (.iload 4, 2) := by decide +kernel
theorem d_L_law_924 : decode (yB m_L_law) 924 = .ok (.iconst 2, 1) := by decide +kernel
theorem d_L_law_925 : decode (yB m_L_law) 925 = .ok (.iadd, 1) := by decide +kernel
theorem d_L_law_926 : decode (yB m_L_law) 926 = .ok (.iaload, 1) := by decide +kernel
theorem d_L_law_927 : decode (yB m_L_law) 927 = .ok (.invokevirtual 146, 3) := by decide +kernel
theorem d_L_law_930 : decode (yB m_L_law) 930 = .ok (.istore 6, 2) := by decide +kernel
theorem d_L_law_932 : decode (yB m_L_law) 932 = .ok (.aload_n 2, 1) := by decide +kernel
theorem d_L_law_933 : decode (yB m_L_law) 933 = .ok (.invokevirtual 104, 3) := by decide +kernel
theorem d_L_law_936 : decode (yB m_L_law) 936 = .ok (.iload 5, 2) := by decide +kernel
theorem d_L_law_938 : decode (yB m_L_law) 938 = .ok (.if_icmp .eq 5, 3) := by decide +kernel
theorem d_L_law_941 : decode (yB m_L_law) 941 = .ok (.iconst 0, 1) := by decide +kernel
theorem d_L_law_942 : decode (yB m_L_law) 942 = .ok (.ireturn, 1) := by decide +kernel
theorem d_L_law_943 : decode (yB m_L_law) 943 = .ok (.iload 5, 2) := by decide +kernel
theorem d_L_law_945 : decode (yB m_L_law) 945 = .ok (.ifCond .ne 15, 3) := by decide +kernel
theorem d_L_law_948 : decode (yB m_L_law) 948 = .ok (.aload_n 3, 1) := by decide +kernel
theorem d_L_law_949 : decode (yB m_L_law) 949 = .ok (.iconst 0, 1) := by decide +kernel
theorem d_L_law_950 : decode (yB m_L_law) 950 = .ok (.laload, 1) := by decide +kernel
theorem d_L_law_951 : decode (yB m_L_law) 951 = .ok (.iload 6, 2) := by decide +kernel
theorem d_L_law_953 : decode (yB m_L_law) 953 = .ok (.i2l, 1) := by decide +kernel
theorem d_L_law_954 : decode (yB m_L_law) 954 = .ok (.lcmp, 1) := by decide +kernel
theorem d_L_law_955 : decode (yB m_L_law) 955 = .ok (.ifCond .eq 5, 3) := by decide +kernel
theorem d_L_law_958 : decode (yB m_L_law) 958 = .ok (.iconst 0, 1) := by decide +kernel
theorem d_L_law_959 : decode (yB m_L_law) 959 = .ok (.ireturn, 1) := by decide +kernel
theorem d_L_law_960 : decode (yB m_L_law) 960 = .ok (.goto 1116, 3) := by decide +kernel
theorem d_L_law_963 : decode (yB m_L_law) 963 = .ok (.aload_n 1, 1) := by decide +kernel
theorem d_L_law_964 : decode (yB m_L_law) 964 = .ok (.aload_n 0, 1) := by decide +kernel
theorem d_L_law_965 : decode (yB m_L_law) 965 = .ok (.iload 4, 2) := by decide +kernel
theorem d_L_law_967 : decode (yB m_L_law) 967 = .ok (.iconst 1, 1) := by decide +kernel
theorem d_L_law_968 : decode (yB m_L_law) 968 = .ok (.iadd, 1) := by decide +kernel
theorem d_L_law_969 : decode (yB m_L_law) 969 = .ok (.iaload, 1) := by decide +kernel
theorem d_L_law_970 : decode (yB m_L_law) 970 = .ok (.aload_n 0, 1) := by decide +kernel
theorem d_L_law_971 : decode (yB m_L_law) 971 = .ok (.iload 4, 2) := by decide +kernel
theorem d_L_law_973 : decode (yB m_L_law) 973 = .ok (.iconst 2, 1) := by decide +kernel
theorem d_L_law_974 : decode (yB m_L_law) 974 = .ok (.iadd, 1) := by decide +kernel
theorem d_L_law_975 : decode (yB m_L_law) 975 = .ok (.iaload, 1) := by decide +kernel
theorem d_L_law_976 : decode (yB m_L_law) 976 = .ok (.aload_n 3, 1) := by decide +kernel
theorem d_L_law_977 : decode (yB m_L_law) 977 = .ok (.invokestatic 147, 3) := by decide +kernel
theorem d_L_law_980 : decode (yB m_L_law) 980 = .ok (.istore 5, 2) := by decide +kernel
theorem d_L_law_982 : decode (yB m_L_law) 982 = .ok (.aload_n 2, 1) := by decide +kernel
theorem d_L_law_983 : decode (yB m_L_law) 983 = .ok (.aload_n 0, 1) := by decide +kernel
theorem d_L_law_984 : decode (yB m_L_law) 984 = .ok (.iload 4, 2) := by decide +kernel
theorem d_L_law_986 : decode (yB m_L_law) 986 = .ok (.iconst 1, 1) := by decide +kernel
theorem d_L_law_987 : decode (yB m_L_law) 987 = .ok (.iadd, 1) := by decide +kernel
theorem d_L_law_988 : decode (yB m_L_law) 988 = .ok (.iaload, 1) := by decide +kernel
theorem d_L_law_989 : decode (yB m_L_law) 989 = .ok (.aload_n 0, 1) := by decide +kernel
theorem d_L_law_990 : decode (yB m_L_law) 990 = .ok (.iload 4, 2) := by decide +kernel
theorem d_L_law_992 : decode (yB m_L_law) 992 = .ok (.iconst 2, 1) := by decide +kernel
theorem d_L_law_993 : decode (yB m_L_law) 993 = .ok (.iadd, 1) := by decide +kernel
theorem d_L_law_994 : decode (yB m_L_law) 994 = .ok (.iaload, 1) := by decide +kernel
theorem d_L_law_995 : decode (yB m_L_law) 995 = .ok (.invokevirtual 149, 3) := by decide +kernel
theorem d_L_law_998 : decode (yB m_L_law) 998 = .ok (.istore 6, 2) := by decide +kernel
theorem d_L_law_1000 : decode (yB m_L_law) 1000 = .ok (.aload_n 2, 1) := by decide +kernel
theorem d_L_law_1001 : decode (yB m_L_law) 1001 = .ok (.invokevirtual 104, 3) := by decide +kernel
theorem d_L_law_1004 : decode (yB m_L_law) 1004 = .ok (.iload 5, 2) := by decide +kernel
theorem d_L_law_1006 : decode (yB m_L_law) 1006 = .ok (.if_icmp .eq 5, 3) := by decide +kernel
theorem d_L_law_1009 : decode (yB m_L_law) 1009 = .ok (.iconst 0, 1) := by decide +kernel
theorem d_L_law_1010 : decode (yB m_L_law) 1010 = .ok (.ireturn, 1) := by decide +kernel
theorem d_L_law_1011 : decode (yB m_L_law) 1011 = .ok (.iload 5, 2) := by decide +kernel
theorem d_L_law_1013 : decode (yB m_L_law) 1013 = .ok (.ifCond .ne 15, 3) := by decide +kernel
theorem d_L_law_1016 : decode (yB m_L_law) 1016 = .ok (.aload_n 3, 1) := by decide +kernel
theorem d_L_law_1017 : decode (yB m_L_law) 1017 = .ok (.iconst 0, 1) := by decide +kernel
theorem d_L_law_1018 : decode (yB m_L_law) 1018 = .ok (.laload, 1) := by decide +kernel
theorem d_L_law_1019 : decode (yB m_L_law) 1019 = .ok (.iload 6, 2) := by decide +kernel
theorem d_L_law_1021 : decode (yB m_L_law) 1021 = .ok (.i2l, 1) := by decide +kernel
theorem d_L_law_1022 : decode (yB m_L_law) 1022 = .ok (.lcmp, 1) := by decide +kernel
theorem d_L_law_1023 : decode (yB m_L_law) 1023 = .ok (.ifCond .eq 5, 3) := by decide +kernel
theorem d_L_law_1026 : decode (yB m_L_law) 1026 = .ok (.iconst 0, 1) := by decide +kernel
theorem d_L_law_1027 : decode (yB m_L_law) 1027 = .ok (.ireturn, 1) := by decide +kernel
theorem d_L_law_1028 : decode (yB m_L_law) 1028 = .ok (.goto 1048, 3) := by decide +kernel
theorem d_L_law_1031 : decode (yB m_L_law) 1031 = .ok (.aload_n 1, 1) := by decide +kernel
theorem d_L_law_1032 : decode (yB m_L_law) 1032 = .ok (.aload_n 0, 1) := by decide +kernel
theorem d_L_law_1033 : decode (yB m_L_law) 1033 = .ok (.iload 4, 2) := by decide +kernel
theorem d_L_law_1035 : decode (yB m_L_law) 1035 = .ok (.iconst 1, 1) := by decide +kernel
theorem d_L_law_1036 : decode (yB m_L_law) 1036 = .ok (.iadd, 1) := by decide +kernel
theorem d_L_law_1037 : decode (yB m_L_law) 1037 = .ok (.iaload, 1) := by decide +kernel
theorem d_L_law_1038 : decode (yB m_L_law) 1038 = .ok (.aload_n 0, 1) := by decide +kernel
theorem d_L_law_1039 : decode (yB m_L_law) 1039 = .ok (.iload 4, 2) := by decide +kernel
theorem d_L_law_1041 : decode (yB m_L_law) 1041 = .ok (.iconst 2, 1) := by decide +kernel
theorem d_L_law_1042 : decode (yB m_L_law) 1042 = .ok (.iadd, 1) := by decide +kernel
theorem d_L_law_1043 : decode (yB m_L_law) 1043 = .ok (.iaload, 1) := by decide +kernel
theorem d_L_law_1044 : decode (yB m_L_law) 1044 = .ok (.aload_n 3, 1) := by decide +kernel
theorem d_L_law_1045 : decode (yB m_L_law) 1045 = .ok (.invokestatic 150, 3) := by decide +kernel
theorem d_L_law_1048 : decode (yB m_L_law) 1048 = .ok (.istore 5, 2) := by decide +kernel
theorem d_L_law_1050 : decode (yB m_L_law) 1050 = .ok (.aload_n 2, 1) := by decide +kernel
theorem d_L_law_1051 : decode (yB m_L_law) 1051 = .ok (.aload_n 0, 1) := by decide +kernel
theorem d_L_law_1052 : decode (yB m_L_law) 1052 = .ok (.iload 4, 2) := by decide +kernel
theorem d_L_law_1054 : decode (yB m_L_law) 1054 = .ok (.iconst 1, 1) := by decide +kernel
theorem d_L_law_1055 : decode (yB m_L_law) 1055 = .ok (.iadd, 1) := by decide +kernel
theorem d_L_law_1056 : decode (yB m_L_law) 1056 = .ok (.iaload, 1) := by decide +kernel
theorem d_L_law_1057 : decode (yB m_L_law) 1057 = .ok (.aload_n 0, 1) := by decide +kernel
theorem d_L_law_1058 : decode (yB m_L_law) 1058 = .ok (.iload 4, 2) := by decide +kernel
theorem d_L_law_1060 : decode (yB m_L_law) 1060 = .ok (.iconst 2, 1) := by decide +kernel
theorem d_L_law_1061 : decode (yB m_L_law) 1061 = .ok (.iadd, 1) := by decide +kernel
theorem d_L_law_1062 : decode (yB m_L_law) 1062 = .ok (.iaload, 1) := by decide +kernel
theorem d_L_law_1063 : decode (yB m_L_law) 1063 = .ok (.invokevirtual 152, 3) := by decide +kernel
theorem d_L_law_1066 : decode (yB m_L_law) 1066 = .ok (.istore 6, 2) := by decide +kernel
theorem d_L_law_1068 : decode (yB m_L_law) 1068 = .ok (.aload_n 2, 1) := by decide +kernel
theorem d_L_law_1069 : decode (yB m_L_law) 1069 = .ok (.invokevirtual 104, 3) := by decide +kernel
theorem d_L_law_1072 : decode (yB m_L_law) 1072 = .ok (.iload 5, 2) := by decide +kernel
theorem d_L_law_1074 : decode (yB m_L_law) 1074 = .ok (.if_icmp .eq 5, 3) := by decide +kernel
theorem d_L_law_1077 : decode (yB m_L_law) 1077 = .ok (.iconst 0, 1) := by decide +kernel
theorem d_L_law_1078 : decode (yB m_L_law) 1078 = .ok (.ireturn, 1) := by decide +kernel
theorem d_L_law_1079 : decode (yB m_L_law) 1079 = .ok (.iload 5, 2) := by decide +kernel
theorem d_L_law_1081 : decode (yB m_L_law) 1081 = .ok (.ifCond .ne 15, 3) := by decide +kernel
theorem d_L_law_1084 : decode (yB m_L_law) 1084 = .ok (.aload_n 3, 1) := by decide +kernel
theorem d_L_law_1085 : decode (yB m_L_law) 1085 = .ok (.iconst 0, 1) := by decide +kernel
theorem d_L_law_1086 : decode (yB m_L_law) 1086 = .ok (.laload, 1) := by decide +kernel
theorem d_L_law_1087 : decode (yB m_L_law) 1087 = .ok (.iload 6, 2) := by decide +kernel
theorem d_L_law_1089 : decode (yB m_L_law) 1089 = .ok (.i2l, 1) := by decide +kernel
theorem d_L_law_1090 : decode (yB m_L_law) 1090 = .ok (.lcmp, 1) := by decide +kernel
theorem d_L_law_1091 : decode (yB m_L_law) 1091 = .ok (.ifCond .eq 5, 3) := by decide +kernel
theorem d_L_law_1094 : decode (yB m_L_law) 1094 = .ok (.iconst 0, 1) := by decide +kernel
theorem d_L_law_1095 : decode (yB m_L_law) 1095 = .ok (.ireturn, 1) := by decide +kernel
theorem d_L_law_1096 : decode (yB m_L_law) 1096 = .ok (.goto 980, 3) := by decide +kernel
theorem d_L_law_1099 : decode (yB m_L_law) 1099 = .ok (.aload_n 1, 1) := by decide +kernel
theorem d_L_law_1100 : decode (yB m_L_law) 1100 = .ok (.aload_n 0, 1) := by decide +kernel
theorem d_L_law_1101 : decode (yB m_L_law) 1101 = .ok (.iload 4, 2) := by decide +kernel
theorem d_L_law_1103 : decode (yB m_L_law) 1103 = .ok (.iconst 1, 1) := by decide +kernel
theorem d_L_law_1104 : decode (yB m_L_law) 1104 = .ok (.iadd, 1) := by decide +kernel
theorem d_L_law_1105 : decode (yB m_L_law) 1105 = .ok (.iaload, 1) := by decide +kernel
theorem d_L_law_1106 : decode (yB m_L_law) 1106 = .ok (.aload_n 0, 1) := by decide +kernel
theorem d_L_law_1107 : decode (yB m_L_law) 1107 = .ok (.iload 4, 2) := by decide +kernel
theorem d_L_law_1109 : decode (yB m_L_law) 1109 = .ok (.iconst 2, 1) := by decide +kernel
theorem d_L_law_1110 : decode (yB m_L_law) 1110 = .ok (.iadd, 1) := by decide +kernel
theorem d_L_law_1111 : decode (yB m_L_law) 1111 = .ok (.iaload, 1) := by decide +kernel
theorem d_L_law_1112 : decode (yB m_L_law) 1112 = .ok (.aload_n 3, 1) := by decide +kernel
theorem d_L_law_1113 : decode (yB m_L_law) 1113 = .ok (.invokestatic 153, 3) := by decide +kernel
theorem d_L_law_1116 : decode (yB m_L_law) 1116 = .ok (.istore 5, 2) := by decide +kernel
theorem d_L_law_1118 : decode (yB m_L_law) 1118 = .ok (.aload_n 2, 1) := by decide +kernel
theorem d_L_law_1119 : decode (yB m_L_law) 1119 = .ok (.aload_n 0, 1) := by decide +kernel
theorem d_L_law_1120 : decode (yB m_L_law) 1120 = .ok (.iload 4, 2) := by decide +kernel
theorem d_L_law_1122 : decode (yB m_L_law) 1122 = .ok (.iconst 1, 1) := by decide +kernel
theorem d_L_law_1123 : decode (yB m_L_law) 1123 = .ok (.iadd, 1) := by decide +kernel
theorem d_L_law_1124 : decode (yB m_L_law) 1124 = .ok (.iaload, 1) := by decide +kernel
theorem d_L_law_1125 : decode (yB m_L_law) 1125 = .ok (.aload_n 0, 1) := by decide +kernel
theorem d_L_law_1126 : decode (yB m_L_law) 1126 = .ok (.iload 4, 2) := by decide +kernel
theorem d_L_law_1128 : decode (yB m_L_law) 1128 = .ok (.iconst 2, 1) := by decide +kernel
theorem d_L_law_1129 : decode (yB m_L_law) 1129 = .ok (.iadd, 1) := by decide +kernel
theorem d_L_law_1130 : decode (yB m_L_law) 1130 = .ok (.iaload, 1) := by decide +kernel
theorem d_L_law_1131 : decode (yB m_L_law) 1131 = .ok (.invokevirtual 155, 3) := by decide +kernel
theorem d_L_law_1134 : decode (yB m_L_law) 1134 = .ok (.istore 6, 2) := by decide +kernel
theorem d_L_law_1136 : decode (yB m_L_law) 1136 = .ok (.aload_n 2, 1) := by decide +kernel
theorem d_L_law_1137 : decode (yB m_L_law) 1137 = .ok (.invokevirtual 104, 3) := by decide +kernel
theorem d_L_law_1140 : decode (yB m_L_law) 1140 = .ok (.iload 5, 2) := by decide +kernel
theorem d_L_law_1142 : decode (yB m_L_law) 1142 = .ok (.if_icmp .eq 5, 3) := by decide +kernel
theorem d_L_law_1145 : decode (yB m_L_law) 1145 = .ok (.iconst 0, 1) := by decide +kernel
theorem d_L_law_1146 : decode (yB m_L_law) 1146 = .ok (.ireturn, 1) := by decide +kernel
theorem d_L_law_1147 : decode (yB m_L_law) 1147 = .ok (.iload 5, 2) := by decide +kernel
theorem d_L_law_1149 : decode (yB m_L_law) 1149 = .ok (.ifCond .ne 15, 3) := by decide +kernel
theorem d_L_law_1152 : decode (yB m_L_law) 1152 = .ok (.aload_n 3, 1) := by decide +kernel
theorem d_L_law_1153 : decode (yB m_L_law) 1153 = .ok (.iconst 0, 1) := by decide +kernel
theorem d_L_law_1154 : decode (yB m_L_law) 1154 = .ok (.laload, 1) := by decide +kernel
theorem d_L_law_1155 : decode (yB m_L_law) 1155 = .ok (.iload 6, 2) := by decide +kernel
theorem d_L_law_1157 : decode (yB m_L_law) 1157 = .ok (.i2l, 1) := by decide +kernel
theorem d_L_law_1158 : decode (yB m_L_law) 1158 = .ok (.lcmp, 1) := by decide +kernel
theorem d_L_law_1159 : decode (yB m_L_law) 1159 = .ok (.ifCond .eq 5, 3) := by decide +kernel
theorem d_L_law_1162 : decode (yB m_L_law) 1162 = .ok (.iconst 0, 1) := by decide +kernel
theorem d_L_law_1163 : decode (yB m_L_law) 1163 = .ok (.ireturn, 1) := by decide +kernel
theorem d_L_law_1164 : decode (yB m_L_law) 1164 = .ok (.goto 912, 3) := by decide +kernel
theorem d_L_law_1167 : decode (yB m_L_law) 1167 = .ok (.aload_n 1, 1) := by decide +kernel
theorem d_L_law_1168 : decode (yB m_L_law) 1168 = .ok (.invokevirtual 156, 3) := by decide +kernel
theorem d_L_law_1171 : decode (yB m_L_law) 1171 = .ok (.aload_n 2, 1) := by decide +kernel
theorem d_L_law_1172 : decode (yB m_L_law) 1172 = .ok (.invokevirtual 159, 3) := by decide +kernel
theorem d_L_law_1175 : decode (yB m_L_law) 1175 = .ok (.if_icmp .eq 901, 3) := by decide +kernel
theorem d_L_law_1178 : decode (yB m_L_law) 1178 = .ok (.iconst 0, 1) := by decide +kernel
theorem d_L_law_1179 : decode (yB m_L_law) 1179 = .ok (.ireturn, 1) := by decide +kernel
theorem d_L_law_1180 : decode (yB m_L_law) 1180 = .ok (.aload_n 1, 1) := by decide +kernel
theorem d_L_law_1181 : decode (yB m_L_law) 1181 = .ok (.invokevirtual 160, 3) := by decide +kernel
theorem d_L_law_1184 : decode (yB m_L_law) 1184 = .ok (.aload_n 2, 1) := by decide +kernel
theorem d_L_law_1185 : decode (yB m_L_law) 1185 = .ok (.invokevirtual 163, 3) := by decide +kernel
theorem d_L_law_1188 : decode (yB m_L_law) 1188 = .ok (.if_icmp .eq 888, 3) := by decide +kernel
theorem d_L_law_1191 : decode (yB m_L_law) 1191 = .ok (.iconst 0, 1) := by decide +kernel
theorem d_L_law_1192 : decode (yB m_L_law) 1192 = .ok (.ireturn, 1) := by decide +kernel
theorem d_L_law_1193 : decode (yB m_L_law) 1193 = .ok (.aload_n 1, 1) := by decide +kernel
theorem d_L_law_1194 : decode (yB m_L_law) 1194 = .ok (.aload_n 0, 1) := by decide +kernel
theorem d_L_law_1195 : decode (yB m_L_law) 1195 = .ok (.iload 4, 2) := by decide +kernel
theorem d_L_law_1197 : decode (yB m_L_law) 1197 = .ok (.iconst 1, 1) := by decide +kernel
theorem d_L_law_1198 : decode (yB m_L_law) 1198 = .ok (.iadd, 1) := by decide +kernel
theorem d_L_law_1199 : decode (yB m_L_law) 1199 = .ok (.iaload, 1) := by decide +kernel
theorem d_L_law_1200 : decode (yB m_L_law) 1200 = .ok (.invokevirtual 164, 3) := by decide +kernel
theorem d_L_law_1203 : decode (yB m_L_law) 1203 = .ok (.aload_n 2, 1) := by decide +kernel
theorem d_L_law_1204 : decode (yB m_L_law) 1204 = .ok (.aload_n 0, 1) := by decide +kernel
theorem d_L_law_1205 : decode (yB m_L_law) 1205 = .ok (.iload 4, 2) := by decide +kernel
theorem d_L_law_1207 : decode (yB m_L_law) 1207 = .ok (.iconst 1, 1) := by decide +kernel
theorem d_L_law_1208 : decode (yB m_L_law) 1208 = .ok (.iadd, 1) := by decide +kernel
theorem d_L_law_1209 : decode (yB m_L_law) 1209 = .ok (.iaload, 1) := by decide +kernel
theorem d_L_law_1210 : decode (yB m_L_law) 1210 = .ok (.invokevirtual 167, 3) := by decide +kernel
theorem d_L_law_1213 : decode (yB m_L_law) 1213 = .ok (.if_icmp .eq 863, 3) := by decide +kernel
theorem d_L_law_1216 : decode (yB m_L_law) 1216 = .ok (.iconst 0, 1) := by decide +kernel
theorem d_L_law_1217 : decode (yB m_L_law) 1217 = .ok (.ireturn, 1) := by decide +kernel
theorem d_L_law_1218 : decode (yB m_L_law) 1218 = .ok (.aload_n 1, 1) := by decide +kernel
theorem d_L_law_1219 : decode (yB m_L_law) 1219 = .ok (.aload_n 0, 1) := by decide +kernel
theorem d_L_law_1220 : decode (yB m_L_law) 1220 = .ok (.iload 4, 2) := by decide +kernel
theorem d_L_law_1222 : decode (yB m_L_law) 1222 = .ok (.iconst 1, 1) := by decide +kernel
theorem d_L_law_1223 : decode (yB m_L_law) 1223 = .ok (.iadd, 1) := by decide +kernel
theorem d_L_law_1224 : decode (yB m_L_law) 1224 = .ok (.iaload, 1) := by decide +kernel
theorem d_L_law_1225 : decode (yB m_L_law) 1225 = .ok (.aload_n 0, 1) := by decide +kernel
theorem d_L_law_1226 : decode (yB m_L_law) 1226 = .ok (.iload 4, 2) := by decide +kernel
theorem d_L_law_1228 : decode (yB m_L_law) 1228 = .ok (.iconst 2, 1) := by decide +kernel
theorem d_L_law_1229 : decode (yB m_L_law) 1229 = .ok (.iadd, 1) := by decide +kernel
theorem d_L_law_1230 : decode (yB m_L_law) 1230 = .ok (.iaload, 1) := by decide +kernel
theorem d_L_law_1231 : decode (yB m_L_law) 1231 = .ok (.aload_n 3, 1) := by decide +kernel
theorem d_L_law_1232 : decode (yB m_L_law) 1232 = .ok (.invokestatic 168, 3) := by decide +kernel
theorem d_L_law_1235 : decode (yB m_L_law) 1235 = .ok (.istore 5, 2) := by decide +kernel
theorem d_L_law_1237 : decode (yB m_L_law) 1237 = .ok (.aload_n 2, 1) := by decide +kernel
theorem d_L_law_1238 : decode (yB m_L_law) 1238 = .ok (.aload_n 0, 1) := by decide +kernel
theorem d_L_law_1239 : decode (yB m_L_law) 1239 = .ok (.iload 4, 2) := by decide +kernel
theorem d_L_law_1241 : decode (yB m_L_law) 1241 = .ok (.iconst 1, 1) := by decide +kernel
theorem d_L_law_1242 : decode (yB m_L_law) 1242 = .ok (.iadd, 1) := by decide +kernel
theorem d_L_law_1243 : decode (yB m_L_law) 1243 = .ok (.iaload, 1) := by decide +kernel
theorem d_L_law_1244 : decode (yB m_L_law) 1244 = .ok (.aload_n 0, 1) := by decide +kernel
theorem d_L_law_1245 : decode (yB m_L_law) 1245 = .ok (.iload 4, 2) := by decide +kernel
theorem d_L_law_1247 : decode (yB m_L_law) 1247 = .ok (.iconst 2, 1) := by decide +kernel
theorem d_L_law_1248 : decode (yB m_L_law) 1248 = .ok (.iadd, 1) := by decide +kernel
theorem d_L_law_1249 : decode (yB m_L_law) 1249 = .ok (.iaload, 1) := by decide +kernel
theorem d_L_law_1250 : decode (yB m_L_law) 1250 = .ok (.invokevirtual 170, 3) := by decide +kernel
theorem d_L_law_1253 : decode (yB m_L_law) 1253 = .ok (.istore 6, 2) := by decide +kernel
theorem d_L_law_1255 : decode (yB m_L_law) 1255 = .ok (.aload_n 2, 1) := by decide +kernel
theorem d_L_law_1256 : decode (yB m_L_law) 1256 = .ok (.invokevirtual 104, 3) := by decide +kernel
theorem d_L_law_1259 : decode (yB m_L_law) 1259 = .ok (.iload 5, 2) := by decide +kernel
theorem d_L_law_1261 : decode (yB m_L_law) 1261 = .ok (.if_icmp .eq 5, 3) := by decide +kernel
theorem d_L_law_1264 : decode (yB m_L_law) 1264 = .ok (.iconst 0, 1) := by decide +kernel
theorem d_L_law_1265 : decode (yB m_L_law) 1265 = .ok (.ireturn, 1) := by decide +kernel
theorem d_L_law_1266 : decode (yB m_L_law) 1266 = .ok (.iload 5, 2) := by decide +kernel
theorem d_L_law_1268 : decode (yB m_L_law) 1268 = .ok (.ifCond .ne 15, 3) := by decide +kernel
theorem d_L_law_1271 : decode (yB m_L_law) 1271 = .ok (.aload_n 3, 1) := by decide +kernel
theorem d_L_law_1272 : decode (yB m_L_law) 1272 = .ok (.iconst 0, 1) := by decide +kernel
theorem d_L_law_1273 : decode (yB m_L_law) 1273 = .ok (.laload, 1) := by decide +kernel
theorem d_L_law_1274 : decode (yB m_L_law) 1274 = .ok (.iload 6, 2) := by decide +kernel
theorem d_L_law_1276 : decode (yB m_L_law) 1276 = .ok (.i2l, 1) := by decide +kernel
theorem d_L_law_1277 : decode (yB m_L_law) 1277 = .ok (.lcmp, 1) := by decide +kernel
theorem d_L_law_1278 : decode (yB m_L_law) 1278 = .ok (.ifCond .eq 5, 3) := by decide +kernel
theorem d_L_law_1281 : decode (yB m_L_law) 1281 = .ok (.iconst 0, 1) := by decide +kernel
theorem d_L_law_1282 : decode (yB m_L_law) 1282 = .ok (.ireturn, 1) := by decide +kernel
theorem d_L_law_1283 : decode (yB m_L_law) 1283 = .ok (.goto 793, 3) := by decide +kernel
theorem d_L_law_1286 : decode (yB m_L_law) 1286 = .ok (.aload_n 1, 1) := by decide +kernel
theorem d_L_law_1287 : decode (yB m_L_law) 1287 = .ok (.aload_n 0, 1) := by decide +kernel
theorem d_L_law_1288 : decode (yB m_L_law) 1288 = .ok (.iload 4, 2) := by decide +kernel
theorem d_L_law_1290 : decode (yB m_L_law) 1290 = .ok (.iconst 1, 1) := by decide +kernel
theorem d_L_law_1291 : decode (yB m_L_law) 1291 = .ok (.iadd, 1) := by decide +kernel
theorem d_L_law_1292 : decode (yB m_L_law) 1292 = .ok (.iaload, 1) := by decide +kernel
theorem d_L_law_1293 : decode (yB m_L_law) 1293 = .ok (.aload_n 3, 1) := by decide +kernel
theorem d_L_law_1294 : decode (yB m_L_law) 1294 = .ok (.invokestatic 171, 3) := by decide +kernel
theorem d_L_law_1297 : decode (yB m_L_law) 1297 = .ok (.istore 5, 2) := by decide +kernel
theorem d_L_law_1299 : decode (yB m_L_law) 1299 = .ok (.aload_n 2, 1) := by decide +kernel
theorem d_L_law_1300 : decode (yB m_L_law) 1300 = .ok (.aload_n 0, 1) := by decide +kernel
theorem d_L_law_1301 : decode (yB m_L_law) 1301 = .ok (.iload 4, 2) := by decide +kernel
theorem d_L_law_1303 : decode (yB m_L_law) 1303 = .ok (.iconst 1, 1) := by decide +kernel
theorem d_L_law_1304 : decode (yB m_L_law) 1304 = .ok (.iadd, 1) := by decide +kernel
theorem d_L_law_1305 : decode (yB m_L_law) 1305 = .ok (.iaload, 1) := by decide +kernel
theorem d_L_law_1306 : decode (yB m_L_law) 1306 = .ok (.invokevirtual 173, 3) := by decide +kernel
theorem d_L_law_1309 : decode (yB m_L_law) 1309 = .ok (.istore 6, 2) := by decide +kernel
theorem d_L_law_1311 : decode (yB m_L_law) 1311 = .ok (.aload_n 2, 1) := by decide +kernel
theorem d_L_law_1312 : decode (yB m_L_law) 1312 = .ok (.invokevirtual 104, 3) := by decide +kernel
theorem d_L_law_1315 : decode (yB m_L_law) 1315 = .ok (.iload 5, 2) := by decide +kernel
theorem d_L_law_1317 : decode (yB m_L_law) 1317 = .ok (.if_icmp .eq 5, 3) := by decide +kernel
theorem d_L_law_1320 : decode (yB m_L_law) 1320 = .ok (.iconst 0, 1) := by decide +kernel
theorem d_L_law_1321 : decode (yB m_L_law) 1321 = .ok (.ireturn, 1) := by decide +kernel
theorem d_L_law_1322 : decode (yB m_L_law) 1322 = .ok (.iload 5, 2) := by decide +kernel
theorem d_L_law_1324 : decode (yB m_L_law) 1324 = .ok (.ifCond .ne 15, 3) := by decide +kernel
theorem d_L_law_1327 : decode (yB m_L_law) 1327 = .ok (.aload_n 3, 1) := by decide +kernel
theorem d_L_law_1328 : decode (yB m_L_law) 1328 = .ok (.iconst 0, 1) := by decide +kernel
theorem d_L_law_1329 : decode (yB m_L_law) 1329 = .ok (.laload, 1) := by decide +kernel
theorem d_L_law_1330 : decode (yB m_L_law) 1330 = .ok (.iload 6, 2) := by decide +kernel
theorem d_L_law_1332 : decode (yB m_L_law) 1332 = .ok (.i2l, 1) := by decide +kernel
theorem d_L_law_1333 : decode (yB m_L_law) 1333 = .ok (.lcmp, 1) := by decide +kernel
theorem d_L_law_1334 : decode (yB m_L_law) 1334 = .ok (.ifCond .eq 5, 3) := by decide +kernel
theorem d_L_law_1337 : decode (yB m_L_law) 1337 = .ok (.iconst 0, 1) := by decide +kernel
theorem d_L_law_1338 : decode (yB m_L_law) 1338 = .ok (.ireturn, 1) := by decide +kernel
theorem d_L_law_1339 : decode (yB m_L_law) 1339 = .ok (.goto 737, 3) := by decide +kernel
theorem d_L_law_1342 : decode (yB m_L_law) 1342 = .ok (.aload_n 1, 1) := by decide +kernel
theorem d_L_law_1343 : decode (yB m_L_law) 1343 = .ok (.aload_n 0, 1) := by decide +kernel
theorem d_L_law_1344 : decode (yB m_L_law) 1344 = .ok (.iload 4, 2) := by decide +kernel
theorem d_L_law_1346 : decode (yB m_L_law) 1346 = .ok (.iconst 1, 1) := by decide +kernel
theorem d_L_law_1347 : decode (yB m_L_law) 1347 = .ok (.iadd, 1) := by decide +kernel
theorem d_L_law_1348 : decode (yB m_L_law) 1348 = .ok (.iaload, 1) := by decide +kernel
theorem d_L_law_1349 : decode (yB m_L_law) 1349 = .ok (.aload_n 0, 1) := by decide +kernel
theorem d_L_law_1350 : decode (yB m_L_law) 1350 = .ok (.iload 4, 2) := by decide +kernel
theorem d_L_law_1352 : decode (yB m_L_law) 1352 = .ok (.iconst 2, 1) := by decide +kernel
theorem d_L_law_1353 : decode (yB m_L_law) 1353 = .ok (.iadd, 1) := by decide +kernel
theorem d_L_law_1354 : decode (yB m_L_law) 1354 = .ok (.iaload, 1) := by decide +kernel
theorem d_L_law_1355 : decode (yB m_L_law) 1355 = .ok (.aload_n 3, 1) := by decide +kernel
theorem d_L_law_1356 : decode (yB m_L_law) 1356 = .ok (.invokestatic 174, 3) := by decide +kernel
theorem d_L_law_1359 : decode (yB m_L_law) 1359 = .ok (.istore 5, 2) := by decide +kernel
theorem d_L_law_1361 : decode (yB m_L_law) 1361 = .ok (.aload_n 2, 1) := by decide +kernel
theorem d_L_law_1362 : decode (yB m_L_law) 1362 = .ok (.aload_n 0, 1) := by decide +kernel
theorem d_L_law_1363 : decode (yB m_L_law) 1363 = .ok (.iload 4, 2) := by decide +kernel
theorem d_L_law_1365 : decode (yB m_L_law) 1365 = .ok (.iconst 1, 1) := by decide +kernel
theorem d_L_law_1366 : decode (yB m_L_law) 1366 = .ok (.iadd, 1) := by decide +kernel
theorem d_L_law_1367 : decode (yB m_L_law) 1367 = .ok (.iaload, 1) := by decide +kernel
theorem d_L_law_1368 : decode (yB m_L_law) 1368 = .ok (.aload_n 0, 1) := by decide +kernel
theorem d_L_law_1369 : decode (yB m_L_law) 1369 = .ok (.iload 4, 2) := by decide +kernel
theorem d_L_law_1371 : decode (yB m_L_law) 1371 = .ok (.iconst 2, 1) := by decide +kernel
theorem d_L_law_1372 : decode (yB m_L_law) 1372 = .ok (.iadd, 1) := by decide +kernel
theorem d_L_law_1373 : decode (yB m_L_law) 1373 = .ok (.iaload, 1) := by decide +kernel
theorem d_L_law_1374 : decode (yB m_L_law) 1374 = .ok (.invokevirtual 176, 3) := by decide +kernel
theorem d_L_law_1377 : decode (yB m_L_law) 1377 = .ok (.istore 6, 2) := by decide +kernel
theorem d_L_law_1379 : decode (yB m_L_law) 1379 = .ok (.aload_n 2, 1) := by decide +kernel
theorem d_L_law_1380 : decode (yB m_L_law) 1380 = .ok (.invokevirtual 104, 3) := by decide +kernel
theorem d_L_law_1383 : decode (yB m_L_law) 1383 = .ok (.iload 5, 2) := by decide +kernel
theorem d_L_law_1385 : decode (yB m_L_law) 1385 = .ok (.if_icmp .eq 5, 3) := by decide +kernel
theorem d_L_law_1388 : decode (yB m_L_law) 1388 = .ok (.iconst 0, 1) := by decide +kernel
theorem d_L_law_1389 : decode (yB m_L_law) 1389 = .ok (.ireturn, 1) := by decide +kernel
theorem d_L_law_1390 : decode (yB m_L_law) 1390 = .ok (.iload 5, 2) := by decide +kernel
theorem d_L_law_1392 : decode (yB m_L_law) 1392 = .ok (.ifCond .ne 15, 3) := by decide +kernel
theorem d_L_law_1395 : decode (yB m_L_law) 1395 = .ok (.aload_n 3, 1) := by decide +kernel
theorem d_L_law_1396 : decode (yB m_L_law) 1396 = .ok (.iconst 0, 1) := by decide +kernel
theorem d_L_law_1397 : decode (yB m_L_law) 1397 = .ok (.laload, 1) := by decide +kernel
theorem d_L_law_1398 : decode (yB m_L_law) 1398 = .ok (.iload 6, 2) := by decide +kernel
theorem d_L_law_1400 : decode (yB m_L_law) 1400 = .ok (.i2l, 1) := by decide +kernel
theorem d_L_law_1401 : decode (yB m_L_law) 1401 = .ok (.lcmp, 1) := by decide +kernel
theorem d_L_law_1402 : decode (yB m_L_law) 1402 = .ok (.ifCond .eq 5, 3) := by decide +kernel
theorem d_L_law_1405 : decode (yB m_L_law) 1405 = .ok (.iconst 0, 1) := by decide +kernel
theorem d_L_law_1406 : decode (yB m_L_law) 1406 = .ok (.ireturn, 1) := by decide +kernel
theorem d_L_law_1407 : decode (yB m_L_law) 1407 = .ok (.goto 669, 3) := by decide +kernel
theorem d_L_law_1410 : decode (yB m_L_law) 1410 = .ok (.aload_n 1, 1) := by decide +kernel
theorem d_L_law_1411 : decode (yB m_L_law) 1411 = .ok (.invokevirtual 177, 3) := by decide +kernel
theorem d_L_law_1414 : decode (yB m_L_law) 1414 = .ok (.aload_n 2, 1) := by decide +kernel
theorem d_L_law_1415 : decode (yB m_L_law) 1415 = .ok (.invokevirtual 180, 3) := by decide +kernel
theorem d_L_law_1418 : decode (yB m_L_law) 1418 = .ok (.if_icmp .eq 658, 3) := by decide +kernel
theorem d_L_law_1421 : decode (yB m_L_law) 1421 = .ok (.iconst 0, 1) := by decide +kernel
theorem d_L_law_1422 : decode (yB m_L_law) 1422 = .ok (.ireturn, 1) := by decide +kernel
theorem d_L_law_1423 : decode (yB m_L_law) 1423 = .ok (.aload_n 1, 1) := by decide +kernel
theorem d_L_law_1424 : decode (yB m_L_law) 1424 = .ok (.aload_n 0, 1) := by decide +kernel
theorem d_L_law_1425 : decode (yB m_L_law) 1425 = .ok (.iload 4, 2) := by decide +kernel
theorem d_L_law_1427 : decode (yB m_L_law) 1427 = .ok (.iconst 1, 1) := by decide +kernel
theorem d_L_law_1428 : decode (yB m_L_law) 1428 = .ok (.iadd, 1) := by decide +kernel
theorem d_L_law_1429 : decode (yB m_L_law) 1429 = .ok (.iaload, 1) := by decide +kernel
theorem d_L_law_1430 : decode (yB m_L_law) 1430 = .ok (.aload_n 3, 1) := by decide +kernel
theorem d_L_law_1431 : decode (yB m_L_law) 1431 = .ok (.invokestatic 181, 3) := by decide +kernel
theorem d_L_law_1434 : decode (yB m_L_law) 1434 = .ok (.istore 5, 2) := by decide +kernel
theorem d_L_law_1436 : decode (yB m_L_law) 1436 = .ok (.aload_n 2, 1) := by decide +kernel
theorem d_L_law_1437 : decode (yB m_L_law) 1437 = .ok (.aload_n 0, 1) := by decide +kernel
theorem d_L_law_1438 : decode (yB m_L_law) 1438 = .ok (.iload 4, 2) := by decide +kernel
theorem d_L_law_1440 : decode (yB m_L_law) 1440 = .ok (.iconst 1, 1) := by decide +kernel
theorem d_L_law_1441 : decode (yB m_L_law) 1441 = .ok (.iadd, 1) := by decide +kernel
theorem d_L_law_1442 : decode (yB m_L_law) 1442 = .ok (.iaload, 1) := by decide +kernel
theorem d_L_law_1443 : decode (yB m_L_law) 1443 = .ok (.invokevirtual 183, 3) := by decide +kernel
theorem d_L_law_1446 : decode (yB m_L_law) 1446 = .ok (.istore 6, 2) := by decide +kernel
theorem d_L_law_1448 : decode (yB m_L_law) 1448 = .ok (.aload_n 2, 1) := by decide +kernel
theorem d_L_law_1449 : decode (yB m_L_law) 1449 = .ok (.invokevirtual 104, 3) := by decide +kernel
theorem d_L_law_1452 : decode (yB m_L_law) 1452 = .ok (.iload 5, 2) := by decide +kernel
theorem d_L_law_1454 : decode (yB m_L_law) 1454 = .ok (.if_icmp .eq 5, 3) := by decide +kernel
theorem d_L_law_1457 : decode (yB m_L_law) 1457 = .ok (.iconst 0, 1) := by decide +kernel
theorem d_L_law_1458 : decode (yB m_L_law) 1458 = .ok (.ireturn, 1) := by decide +kernel
theorem d_L_law_1459 : decode (yB m_L_law) 1459 = .ok (.iload 5, 2) := by decide +kernel
theorem d_L_law_1461 : decode (yB m_L_law) 1461 = .ok (.ifCond .ne 15, 3) := by decide +kernel
theorem d_L_law_1464 : decode (yB m_L_law) 1464 = .ok (.aload_n 3, 1) := by decide +kernel
theorem d_L_law_1465 : decode (yB m_L_law) 1465 = .ok (.iconst 0, 1) := by decide +kernel
theorem d_L_law_1466 : decode (yB m_L_law) 1466 = .ok (.laload, 1) := by decide +kernel
theorem d_L_law_1467 : decode (yB m_L_law) 1467 = .ok (.iload 6, 2) := by decide +kernel
theorem d_L_law_1469 : decode (yB m_L_law) 1469 = .ok (.i2l, 1) := by decide +kernel
theorem d_L_law_1470 : decode (yB m_L_law) 1470 = .ok (.lcmp, 1) := by decide +kernel
theorem d_L_law_1471 : decode (yB m_L_law) 1471 = .ok (.ifCond .eq 5, 3) := by decide +kernel
theorem d_L_law_1474 : decode (yB m_L_law) 1474 = .ok (.iconst 0, 1) := by decide +kernel
theorem d_L_law_1475 : decode (yB m_L_law) 1475 = .ok (.ireturn, 1) := by decide +kernel
theorem d_L_law_1476 : decode (yB m_L_law) 1476 = .ok (.goto 600, 3) := by decide +kernel
theorem d_L_law_1479 : decode (yB m_L_law) 1479 = .ok (.aload_n 1, 1) := by decide +kernel
theorem d_L_law_1480 : decode (yB m_L_law) 1480 = .ok (.invokevirtual 184, 3) := by decide +kernel
theorem d_L_law_1483 : decode (yB m_L_law) 1483 = .ok (.aload_n 2, 1) := by decide +kernel
theorem d_L_law_1484 : decode (yB m_L_law) 1484 = .ok (.invokevirtual 187, 3) := by decide +kernel
theorem d_L_law_1487 : decode (yB m_L_law) 1487 = .ok (.if_icmp .eq 589, 3) := by decide +kernel
theorem d_L_law_1490 : decode (yB m_L_law) 1490 = .ok (.iconst 0, 1) := by decide +kernel
theorem d_L_law_1491 : decode (yB m_L_law) 1491 = .ok (.ireturn, 1) := by decide +kernel
theorem d_L_law_1492 : decode (yB m_L_law) 1492 = .ok (.aload_n 1, 1) := by decide +kernel
theorem d_L_law_1493 : decode (yB m_L_law) 1493 = .ok (.aload_n 0, 1) := by decide +kernel
theorem d_L_law_1494 : decode (yB m_L_law) 1494 = .ok (.iload 4, 2) := by decide +kernel
theorem d_L_law_1496 : decode (yB m_L_law) 1496 = .ok (.iconst 1, 1) := by decide +kernel
theorem d_L_law_1497 : decode (yB m_L_law) 1497 = .ok (.iadd, 1) := by decide +kernel
theorem d_L_law_1498 : decode (yB m_L_law) 1498 = .ok (.iaload, 1) := by decide +kernel
theorem d_L_law_1499 : decode (yB m_L_law) 1499 = .ok (.aload_n 3, 1) := by decide +kernel
theorem d_L_law_1500 : decode (yB m_L_law) 1500 = .ok (.invokestatic 188, 3) := by decide +kernel
theorem d_L_law_1503 : decode (yB m_L_law) 1503 = .ok (.istore 5, 2) := by decide +kernel
theorem d_L_law_1505 : decode (yB m_L_law) 1505 = .ok (.aload_n 2, 1) := by decide +kernel
theorem d_L_law_1506 : decode (yB m_L_law) 1506 = .ok (.aload_n 0, 1) := by decide +kernel
theorem d_L_law_1507 : decode (yB m_L_law) 1507 = .ok (.iload 4, 2) := by decide +kernel
theorem d_L_law_1509 : decode (yB m_L_law) 1509 = .ok (.iconst 1, 1) := by decide +kernel
theorem d_L_law_1510 : decode (yB m_L_law) 1510 = .ok (.iadd, 1) := by decide +kernel
theorem d_L_law_1511 : decode (yB m_L_law) 1511 = .ok (.iaload, 1) := by decide +kernel
theorem d_L_law_1512 : decode (yB m_L_law) 1512 = .ok (.invokevirtual 190, 3) := by decide +kernel
theorem d_L_law_1515 : decode (yB m_L_law) 1515 = .ok (.istore 6, 2) := by decide +kernel
theorem d_L_law_1517 : decode (yB m_L_law) 1517 = .ok (.aload_n 2, 1) := by decide +kernel
theorem d_L_law_1518 : decode (yB m_L_law) 1518 = .ok (.invokevirtual 104, 3) := by decide +kernel
theorem d_L_law_1521 : decode (yB m_L_law) 1521 = .ok (.iload 5, 2) := by decide +kernel
theorem d_L_law_1523 : decode (yB m_L_law) 1523 = .ok (.if_icmp .eq 5, 3) := by decide +kernel
theorem d_L_law_1526 : decode (yB m_L_law) 1526 = .ok (.iconst 0, 1) := by decide +kernel
theorem d_L_law_1527 : decode (yB m_L_law) 1527 = .ok (.ireturn, 1) := by decide +kernel
theorem d_L_law_1528 : decode (yB m_L_law) 1528 = .ok (.iload 5, 2) := by decide +kernel
theorem d_L_law_1530 : decode (yB m_L_law) 1530 = .ok (.ifCond .ne 15, 3) := by decide +kernel
theorem d_L_law_1533 : decode (yB m_L_law) 1533 = .ok (.aload_n 3, 1) := by decide +kernel
theorem d_L_law_1534 : decode (yB m_L_law) 1534 = .ok (.iconst 0, 1) := by decide +kernel
theorem d_L_law_1535 : decode (yB m_L_law) 1535 = .ok (.laload, 1) := by decide +kernel
theorem d_L_law_1536 : decode (yB m_L_law) 1536 = .ok (.iload 6, 2) := by decide +kernel
theorem d_L_law_1538 : decode (yB m_L_law) 1538 = .ok (.i2l, 1) := by decide +kernel
theorem d_L_law_1539 : decode (yB m_L_law) 1539 = .ok (.lcmp, 1) := by decide +kernel
theorem d_L_law_1540 : decode (yB m_L_law) 1540 = .ok (.ifCond .eq 5, 3) := by decide +kernel
theorem d_L_law_1543 : decode (yB m_L_law) 1543 = .ok (.iconst 0, 1) := by decide +kernel
theorem d_L_law_1544 : decode (yB m_L_law) 1544 = .ok (.ireturn, 1) := by decide +kernel
theorem d_L_law_1545 : decode (yB m_L_law) 1545 = .ok (.goto 531, 3) := by decide +kernel
theorem d_L_law_1548 : decode (yB m_L_law) 1548 = .ok (.aload_n 1, 1) := by decide +kernel
theorem d_L_law_1549 : decode (yB m_L_law) 1549 = .ok (.invokevirtual 191, 3) := by decide +kernel
theorem d_L_law_1552 : decode (yB m_L_law) 1552 = .ok (.aload_n 2, 1) := by decide +kernel
theorem d_L_law_1553 : decode (yB m_L_law) 1553 = .ok (.invokevirtual 194, 3) := by decide +kernel
theorem d_L_law_1556 : decode (yB m_L_law) 1556 = .ok (.if_icmp .eq 520, 3) := by decide +kernel
theorem d_L_law_1559 : decode (yB m_L_law) 1559 = .ok (.iconst 0, 1) := by decide +kernel
theorem d_L_law_1560 : decode (yB m_L_law) 1560 = .ok (.ireturn, 1) := by decide +kernel
theorem d_L_law_1561 : decode (yB m_L_law) 1561 = .ok (.aload_n 1, 1) := by decide +kernel
theorem d_L_law_1562 : decode (yB m_L_law) 1562 = .ok (.invokevirtual 195, 3) := by decide +kernel
theorem d_L_law_1565 : decode (yB m_L_law) 1565 = .ok (.aload_n 2, 1) := by decide +kernel
theorem d_L_law_1566 : decode (yB m_L_law) 1566 = .ok (.invokevirtual 198, 3) := by decide +kernel
theorem d_L_law_1569 : decode (yB m_L_law) 1569 = .ok (.if_icmp .eq 507, 3) := by decide +kernel
theorem d_L_law_1572 : decode (yB m_L_law) 1572 = .ok (.iconst 0, 1) := by decide +kernel
theorem d_L_law_1573 : decode (yB m_L_law) 1573 = .ok (.ireturn, 1) := by decide +kernel
theorem d_L_law_1574 : decode (yB m_L_law) 1574 = .ok (.aload_n 1, 1) := by decide +kernel
theorem d_L_law_1575 : decode (yB m_L_law) 1575 = .ok (.aload_n 0, 1) := by decide +kernel
theorem d_L_law_1576 : decode (yB m_L_law) 1576 = .ok (.iload 4, 2) := by decide +kernel
theorem d_L_law_1578 : decode (yB m_L_law) 1578 = .ok (.iconst 1, 1) := by decide +kernel
theorem d_L_law_1579 : decode (yB m_L_law) 1579 = .ok (.iadd, 1) := by decide +kernel
theorem d_L_law_1580 : decode (yB m_L_law) 1580 = .ok (.iaload, 1) := by decide +kernel
theorem d_L_law_1581 : decode (yB m_L_law) 1581 = .ok (.aload_n 0, 1) := by decide +kernel
theorem d_L_law_1582 : decode (yB m_L_law) 1582 = .ok (.iload 4, 2) := by decide +kernel
theorem d_L_law_1584 : decode (yB m_L_law) 1584 = .ok (.iconst 2, 1) := by decide +kernel
theorem d_L_law_1585 : decode (yB m_L_law) 1585 = .ok (.iadd, 1) := by decide +kernel
theorem d_L_law_1586 : decode (yB m_L_law) 1586 = .ok (.iaload, 1) := by decide +kernel
theorem d_L_law_1587 : decode (yB m_L_law) 1587 = .ok (.aload_n 0, 1) := by decide +kernel
theorem d_L_law_1588 : decode (yB m_L_law) 1588 = .ok (.iload 4, 2) := by decide +kernel
theorem d_L_law_1590 : decode (yB m_L_law) 1590 = .ok (.iconst 3, 1) := by decide +kernel
theorem d_L_law_1591 : decode (yB m_L_law) 1591 = .ok (.iadd, 1) := by decide +kernel
theorem d_L_law_1592 : decode (yB m_L_law) 1592 = .ok (.iaload, 1) := by decide +kernel
theorem d_L_law_1593 : decode (yB m_L_law) 1593 = .ok (.aload_n 3, 1) := by decide +kernel
theorem d_L_law_1594 : decode (yB m_L_law) 1594 = .ok (.invokestatic 199, 3) := by decide +kernel
theorem d_L_law_1597 : decode (yB m_L_law) 1597 = .ok (.istore 5, 2) := by decide +kernel
theorem d_L_law_1599 : decode (yB m_L_law) 1599 = .ok (.aload_n 2, 1) := by decide +kernel
theorem d_L_law_1600 : decode (yB m_L_law) 1600 = .ok (.aload_n 0, 1) := by decide +kernel
theorem d_L_law_1601 : decode (yB m_L_law) 1601 = .ok (.iload 4, 2) := by decide +kernel
theorem d_L_law_1603 : decode (yB m_L_law) 1603 = .ok (.iconst 1, 1) := by decide +kernel
theorem d_L_law_1604 : decode (yB m_L_law) 1604 = .ok (.iadd, 1) := by decide +kernel
theorem d_L_law_1605 : decode (yB m_L_law) 1605 = .ok (.iaload, 1) := by decide +kernel
theorem d_L_law_1606 : decode (yB m_L_law) 1606 = .ok (.aload_n 0, 1) := by decide +kernel
theorem d_L_law_1607 : decode (yB m_L_law) 1607 = .ok (.iload 4, 2) := by decide +kernel
theorem d_L_law_1609 : decode (yB m_L_law) 1609 = .ok (.iconst 2, 1) := by decide +kernel
theorem d_L_law_1610 : decode (yB m_L_law) 1610 = .ok (.iadd, 1) := by decide +kernel
theorem d_L_law_1611 : decode (yB m_L_law) 1611 = .ok (.iaload, 1) := by decide +kernel
theorem d_L_law_1612 : decode (yB m_L_law) 1612 = .ok (.aload_n 0, 1) := by decide +kernel
theorem d_L_law_1613 : decode (yB m_L_law) 1613 = .ok (.iload 4, 2) := by decide +kernel
theorem d_L_law_1615 : decode (yB m_L_law) 1615 = .ok (.iconst 3, 1) := by decide +kernel
theorem d_L_law_1616 : decode (yB m_L_law) 1616 = .ok (.iadd, 1) := by decide +kernel
theorem d_L_law_1617 : decode (yB m_L_law) 1617 = .ok (.iaload, 1) := by decide +kernel
theorem d_L_law_1618 : decode (yB m_L_law) 1618 = .ok (.invokevirtual 202, 3) := by decide +kernel
theorem d_L_law_1621 : decode (yB m_L_law) 1621 = .ok (.istore 6, 2) := by decide +kernel
theorem d_L_law_1623 : decode (yB m_L_law) 1623 = .ok (.aload_n 2, 1) := by decide +kernel
theorem d_L_law_1624 : decode (yB m_L_law) 1624 = .ok (.invokevirtual 104, 3) := by decide +kernel
theorem d_L_law_1627 : decode (yB m_L_law) 1627 = .ok (.iload 5, 2) := by decide +kernel
theorem d_L_law_1629 : decode (yB m_L_law) 1629 = .ok (.if_icmp .eq 5, 3) := by decide +kernel
theorem d_L_law_1632 : decode (yB m_L_law) 1632 = .ok (.iconst 0, 1) := by decide +kernel
theorem d_L_law_1633 : decode (yB m_L_law) 1633 = .ok (.ireturn, 1) := by decide +kernel
theorem d_L_law_1634 : decode (yB m_L_law) 1634 = .ok (.iload 5, 2) := by decide +kernel
theorem d_L_law_1636 : decode (yB m_L_law) 1636 = .ok (.ifCond .ne 15, 3) := by decide +kernel
theorem d_L_law_1639 : decode (yB m_L_law) 1639 = .ok (.aload_n 3, 1) := by decide +kernel
theorem d_L_law_1640 : decode (yB m_L_law) 1640 = .ok (.iconst 0, 1) := by decide +kernel
theorem d_L_law_1641 : decode (yB m_L_law) 1641 = .ok (.laload, 1) := by decide +kernel
theorem d_L_law_1642 : decode (yB m_L_law) 1642 = .ok (.iload 6, 2) := by decide +kernel
theorem d_L_law_1644 : decode (yB m_L_law) 1644 = .ok (.i2l, 1) := by decide +kernel
theorem d_L_law_1645 : decode (yB m_L_law) 1645 = .ok (.lcmp, 1) := by decide +kernel
theorem d_L_law_1646 : decode (yB m_L_law) 1646 = .ok (.ifCond .eq 5, 3) := by decide +kernel
theorem d_L_law_1649 : decode (yB m_L_law) 1649 = .ok (.iconst 0, 1) := by decide +kernel
theorem d_L_law_1650 : decode (yB m_L_law) 1650 = .ok (.ireturn, 1) := by decide +kernel
theorem d_L_law_1651 : decode (yB m_L_law) 1651 = .ok (.goto 425, 3) := by decide +kernel
theorem d_L_law_1654 : decode (yB m_L_law) 1654 = .ok (.aload_n 1, 1) := by decide +kernel
theorem d_L_law_1655 : decode (yB m_L_law) 1655 = .ok (.invokevirtual 203, 3) := by decide +kernel
theorem d_L_law_1658 : decode (yB m_L_law) 1658 = .ok (.aload_n 2, 1) := by decide +kernel
theorem d_L_law_1659 : decode (yB m_L_law) 1659 = .ok (.invokevirtual 206, 3) := by decide +kernel
theorem d_L_law_1662 : decode (yB m_L_law) 1662 = .ok (.if_icmp .eq 414, 3) := by decide +kernel
theorem d_L_law_1665 : decode (yB m_L_law) 1665 = .ok (.iconst 0, 1) := by decide +kernel
theorem d_L_law_1666 : decode (yB m_L_law) 1666 = .ok (.ireturn, 1) := by decide +kernel
theorem d_L_law_1667 : decode (yB m_L_law) 1667 = .ok (.aload_n 1, 1) := by decide +kernel
theorem d_L_law_1668 : decode (yB m_L_law) 1668 = .ok (.aload_n 0, 1) := by decide +kernel
theorem d_L_law_1669 : decode (yB m_L_law) 1669 = .ok (.iload 4, 2) := by decide +kernel
theorem d_L_law_1671 : decode (yB m_L_law) 1671 = .ok (.iconst 1, 1) := by decide +kernel
theorem d_L_law_1672 : decode (yB m_L_law) 1672 = .ok (.iadd, 1) := by decide +kernel
theorem d_L_law_1673 : decode (yB m_L_law) 1673 = .ok (.iaload, 1) := by decide +kernel
theorem d_L_law_1674 : decode (yB m_L_law) 1674 = .ok (.aload_n 0, 1) := by decide +kernel
theorem d_L_law_1675 : decode (yB m_L_law) 1675 = .ok (.iload 4, 2) := by decide +kernel
theorem d_L_law_1677 : decode (yB m_L_law) 1677 = .ok (.iconst 2, 1) := by decide +kernel
theorem d_L_law_1678 : decode (yB m_L_law) 1678 = .ok (.iadd, 1) := by decide +kernel
theorem d_L_law_1679 : decode (yB m_L_law) 1679 = .ok (.iaload, 1) := by decide +kernel
theorem d_L_law_1680 : decode (yB m_L_law) 1680 = .ok (.aload_n 0, 1) := by decide +kernel
theorem d_L_law_1681 : decode (yB m_L_law) 1681 = .ok (.iload 4, 2) := by decide +kernel
theorem d_L_law_1683 : decode (yB m_L_law) 1683 = .ok (.iconst 3, 1) := by decide +kernel
theorem d_L_law_1684 : decode (yB m_L_law) 1684 = .ok (.iadd, 1) := by decide +kernel
theorem d_L_law_1685 : decode (yB m_L_law) 1685 = .ok (.iaload, 1) := by decide +kernel
theorem d_L_law_1686 : decode (yB m_L_law) 1686 = .ok (.ifCond .eq 7, 3) := by decide +kernel
theorem d_L_law_1689 : decode (yB m_L_law) 1689 = .ok (.iconst 1, 1) := by decide +kernel
theorem d_L_law_1690 : decode (yB m_L_law) 1690 = .ok (.goto 4, 3) := by decide +kernel
theorem d_L_law_1693 : decode (yB m_L_law) 1693 = .ok (.iconst 0, 1) := by decide +kernel
theorem d_L_law_1694 : decode (yB m_L_law) 1694 = .ok (.aload_n 3, 1) := by decide +kernel
theorem d_L_law_1695 : decode (yB m_L_law) 1695 = .ok (.invokestatic 207, 3) := by decide +kernel
theorem d_L_law_1698 : decode (yB m_L_law) 1698 = .ok (.istore 5, 2) := by decide +kernel
theorem d_L_law_1700 : decode (yB m_L_law) 1700 = .ok (.aload_n 2, 1) := by decide +kernel
theorem d_L_law_1701 : decode (yB m_L_law) 1701 = .ok (.aload_n 0, 1) := by decide +kernel
theorem d_L_law_1702 : decode (yB m_L_law) 1702 = .ok (.iload 4, 2) := by decide +kernel
theorem d_L_law_1704 : decode (yB m_L_law) 1704 = .ok (.iconst 1, 1) := by decide +kernel
theorem d_L_law_1705 : decode (yB m_L_law) 1705 = .ok (.iadd, 1) := by decide +kernel
theorem d_L_law_1706 : decode (yB m_L_law) 1706 = .ok (.iaload, 1) := by decide +kernel
theorem d_L_law_1707 : decode (yB m_L_law) 1707 = .ok (.aload_n 0, 1) := by decide +kernel
theorem d_L_law_1708 : decode (yB m_L_law) 1708 = .ok (.iload 4, 2) := by decide +kernel
theorem d_L_law_1710 : decode (yB m_L_law) 1710 = .ok (.iconst 2, 1) := by decide +kernel
theorem d_L_law_1711 : decode (yB m_L_law) 1711 = .ok (.iadd, 1) := by decide +kernel
theorem d_L_law_1712 : decode (yB m_L_law) 1712 = .ok (.iaload, 1) := by decide +kernel
theorem d_L_law_1713 : decode (yB m_L_law) 1713 = .ok (.aload_n 0, 1) := by decide +kernel
theorem d_L_law_1714 : decode (yB m_L_law) 1714 = .ok (.iload 4, 2) := by decide +kernel
theorem d_L_law_1716 : decode (yB m_L_law) 1716 = .ok (.iconst 3, 1) := by decide +kernel
theorem d_L_law_1717 : decode (yB m_L_law) 1717 = .ok (.iadd, 1) := by decide +kernel
theorem d_L_law_1718 : decode (yB m_L_law) 1718 = .ok (.iaload, 1) := by decide +kernel
theorem d_L_law_1719 : decode (yB m_L_law) 1719 = .ok (.ifCond .eq 7, 3) := by decide +kernel
theorem d_L_law_1722 : decode (yB m_L_law) 1722 = .ok (.iconst 1, 1) := by decide +kernel
theorem d_L_law_1723 : decode (yB m_L_law) 1723 = .ok (.goto 4, 3) := by decide +kernel
theorem d_L_law_1726 : decode (yB m_L_law) 1726 = .ok (.iconst 0, 1) := by decide +kernel
theorem d_L_law_1727 : decode (yB m_L_law) 1727 = .ok (.invokevirtual 210, 3) := by decide +kernel
theorem d_L_law_1730 : decode (yB m_L_law) 1730 = .ok (.istore 6, 2) := by decide +kernel
theorem d_L_law_1732 : decode (yB m_L_law) 1732 = .ok (.aload_n 2, 1) := by decide +kernel
theorem d_L_law_1733 : decode (yB m_L_law) 1733 = .ok (.invokevirtual 104, 3) := by decide +kernel
theorem d_L_law_1736 : decode (yB m_L_law) 1736 = .ok (.iload 5, 2) := by decide +kernel
theorem d_L_law_1738 : decode (yB m_L_law) 1738 = .ok (.if_icmp .eq 5, 3) := by decide +kernel
theorem d_L_law_1741 : decode (yB m_L_law) 1741 = .ok (.iconst 0, 1) := by decide +kernel
theorem d_L_law_1742 : decode (yB m_L_law) 1742 = .ok (.ireturn, 1) := by decide +kernel
theorem d_L_law_1743 : decode (yB m_L_law) 1743 = .ok (.iload 5, 2) := by decide +kernel
theorem d_L_law_1745 : decode (yB m_L_law) 1745 = .ok (.ifCond .ne 15, 3) := by decide +kernel
theorem d_L_law_1748 : decode (yB m_L_law) 1748 = .ok (.aload_n 3, 1) := by decide +kernel
theorem d_L_law_1749 : decode (yB m_L_law) 1749 = .ok (.iconst 0, 1) := by decide +kernel
theorem d_L_law_1750 : decode (yB m_L_law) 1750 = .ok (.laload, 1) := by decide +kernel
theorem d_L_law_1751 : decode (yB m_L_law) 1751 = .ok (.iload 6, 2) := by decide +kernel
theorem d_L_law_1753 : decode (yB m_L_law) 1753 = .ok (.i2l, 1) := by decide +kernel
theorem d_L_law_1754 : decode (yB m_L_law) 1754 = .ok (.lcmp, 1) := by decide +kernel
theorem d_L_law_1755 : decode (yB m_L_law) 1755 = .ok (.ifCond .eq 5, 3) := by decide +kernel
theorem d_L_law_1758 : decode (yB m_L_law) 1758 = .ok (.iconst 0, 1) := by decide +kernel
theorem d_L_law_1759 : decode (yB m_L_law) 1759 = .ok (.ireturn, 1) := by decide +kernel
theorem d_L_law_1760 : decode (yB m_L_law) 1760 = .ok (.goto 316, 3) := by decide +kernel
theorem d_L_law_1763 : decode (yB m_L_law) 1763 = .ok (.aload_n 1, 1) := by decide +kernel
theorem d_L_law_1764 : decode (yB m_L_law) 1764 = .ok (.aload_n 0, 1) := by decide +kernel
theorem d_L_law_1765 : decode (yB m_L_law) 1765 = .ok (.iload 4, 2) := by decide +kernel
theorem d_L_law_1767 : decode (yB m_L_law) 1767 = .ok (.iconst 1, 1) := by decide +kernel
theorem d_L_law_1768 : decode (yB m_L_law) 1768 = .ok (.iadd, 1) := by decide +kernel
theorem d_L_law_1769 : decode (yB m_L_law) 1769 = .ok (.iaload, 1) := by decide +kernel
theorem d_L_law_1770 : decode (yB m_L_law) 1770 = .ok (.aload_n 0, 1) := by decide +kernel
theorem d_L_law_1771 : decode (yB m_L_law) 1771 = .ok (.iload 4, 2) := by decide +kernel
theorem d_L_law_1773 : decode (yB m_L_law) 1773 = .ok (.iconst 2, 1) := by decide +kernel
theorem d_L_law_1774 : decode (yB m_L_law) 1774 = .ok (.iadd, 1) := by decide +kernel
theorem d_L_law_1775 : decode (yB m_L_law) 1775 = .ok (.iaload, 1) := by decide +kernel
theorem d_L_law_1776 : decode (yB m_L_law) 1776 = .ok (.aload_n 0, 1) := by decide +kernel
theorem d_L_law_1777 : decode (yB m_L_law) 1777 = .ok (.iload 4, 2) := by decide +kernel
theorem d_L_law_1779 : decode (yB m_L_law) 1779 = .ok (.iconst 3, 1) := by decide +kernel
theorem d_L_law_1780 : decode (yB m_L_law) 1780 = .ok (.iadd, 1) := by decide +kernel
theorem d_L_law_1781 : decode (yB m_L_law) 1781 = .ok (.iaload, 1) := by decide +kernel
theorem d_L_law_1782 : decode (yB m_L_law) 1782 = .ok (.ifCond .eq 7, 3) := by decide +kernel
theorem d_L_law_1785 : decode (yB m_L_law) 1785 = .ok (.iconst 1, 1) := by decide +kernel
theorem d_L_law_1786 : decode (yB m_L_law) 1786 = .ok (.goto 4, 3) := by decide +kernel
theorem d_L_law_1789 : decode (yB m_L_law) 1789 = .ok (.iconst 0, 1) := by decide +kernel
theorem d_L_law_1790 : decode (yB m_L_law) 1790 = .ok (.aload_n 3, 1) := by decide +kernel
theorem d_L_law_1791 : decode (yB m_L_law) 1791 = .ok (.invokestatic 211, 3) := by decide +kernel
theorem d_L_law_1794 : decode (yB m_L_law) 1794 = .ok (.istore 5, 2) := by decide +kernel
theorem d_L_law_1796 : decode (yB m_L_law) 1796 = .ok (.aload_n 2, 1) := by decide +kernel
theorem d_L_law_1797 : decode (yB m_L_law) 1797 = .ok (.aload_n 0, 1) := by decide +kernel
theorem d_L_law_1798 : decode (yB m_L_law) 1798 = .ok (.iload 4, 2) := by decide +kernel
theorem d_L_law_1800 : decode (yB m_L_law) 1800 = .ok (.iconst 1, 1) := by decide +kernel
theorem d_L_law_1801 : decode (yB m_L_law) 1801 = .ok (.iadd, 1) := by decide +kernel
theorem d_L_law_1802 : decode (yB m_L_law) 1802 = .ok (.iaload, 1) := by decide +kernel
theorem d_L_law_1803 : decode (yB m_L_law) 1803 = .ok (.aload_n 0, 1) := by decide +kernel
theorem d_L_law_1804 : decode (yB m_L_law) 1804 = .ok (.iload 4, 2) := by decide +kernel
theorem d_L_law_1806 : decode (yB m_L_law) 1806 = .ok (.iconst 2, 1) := by decide +kernel
theorem d_L_law_1807 : decode (yB m_L_law) 1807 = .ok (.iadd, 1) := by decide +kernel
theorem d_L_law_1808 : decode (yB m_L_law) 1808 = .ok (.iaload, 1) := by decide +kernel
theorem d_L_law_1809 : decode (yB m_L_law) 1809 = .ok (.aload_n 0, 1) := by decide +kernel
theorem d_L_law_1810 : decode (yB m_L_law) 1810 = .ok (.iload 4, 2) := by decide +kernel
theorem d_L_law_1812 : decode (yB m_L_law) 1812 = .ok (.iconst 3, 1) := by decide +kernel
theorem d_L_law_1813 : decode (yB m_L_law) 1813 = .ok (.iadd, 1) := by decide +kernel
theorem d_L_law_1814 : decode (yB m_L_law) 1814 = .ok (.iaload, 1) := by decide +kernel
theorem d_L_law_1815 : decode (yB m_L_law) 1815 = .ok (.ifCond .eq 7, 3) := by decide +kernel
theorem d_L_law_1818 : decode (yB m_L_law) 1818 = .ok (.iconst 1, 1) := by decide +kernel
theorem d_L_law_1819 : decode (yB m_L_law) 1819 = .ok (.goto 4, 3) := by decide +kernel
theorem d_L_law_1822 : decode (yB m_L_law) 1822 = .ok (.iconst 0, 1) := by decide +kernel
theorem d_L_law_1823 : decode (yB m_L_law) 1823 = .ok (.invokevirtual 213, 3) := by decide +kernel
theorem d_L_law_1826 : decode (yB m_L_law) 1826 = .ok (.istore 6, 2) := by decide +kernel
theorem d_L_law_1828 : decode (yB m_L_law) 1828 = .ok (.aload_n 2, 1) := by decide +kernel
theorem d_L_law_1829 : decode (yB m_L_law) 1829 = .ok (.invokevirtual 104, 3) := by decide +kernel
theorem d_L_law_1832 : decode (yB m_L_law) 1832 = .ok (.iload 5, 2) := by decide +kernel
theorem d_L_law_1834 : decode (yB m_L_law) 1834 = .ok (.if_icmp .eq 5, 3) := by decide +kernel
theorem d_L_law_1837 : decode (yB m_L_law) 1837 = .ok (.iconst 0, 1) := by decide +kernel
theorem d_L_law_1838 : decode (yB m_L_law) 1838 = .ok (.ireturn, 1) := by decide +kernel
theorem d_L_law_1839 : decode (yB m_L_law) 1839 = .ok (.iload 5, 2) := by decide +kernel
theorem d_L_law_1841 : decode (yB m_L_law) 1841 = .ok (.ifCond .ne 15, 3) := by decide +kernel
theorem d_L_law_1844 : decode (yB m_L_law) 1844 = .ok (.aload_n 3, 1) := by decide +kernel
theorem d_L_law_1845 : decode (yB m_L_law) 1845 = .ok (.iconst 0, 1) := by decide +kernel
theorem d_L_law_1846 : decode (yB m_L_law) 1846 = .ok (.laload, 1) := by decide +kernel
theorem d_L_law_1847 : decode (yB m_L_law) 1847 = .ok (.iload 6, 2) := by decide +kernel
theorem d_L_law_1849 : decode (yB m_L_law) 1849 = .ok (.i2l, 1) := by decide +kernel
theorem d_L_law_1850 : decode (yB m_L_law) 1850 = .ok (.lcmp, 1) := by decide +kernel
theorem d_L_law_1851 : decode (yB m_L_law) 1851 = .ok (.ifCond .eq 5, 3) := by decide +kernel
theorem d_L_law_1854 : decode (yB m_L_law) 1854 = .ok (.iconst 0, 1) := by decide +kernel
theorem d_L_law_1855 : decode (yB m_L_law) 1855 = .ok (.ireturn, 1) := by decide +kernel
theorem d_L_law_1856 : decode (yB m_L_law) 1856 = .ok (.goto 220, 3) := by decide +kernel
theorem d_L_law_1859 : decode (yB m_L_law) 1859 = .ok (.aload_n 1, 1) := by decide +kernel
theorem d_L_law_1860 : decode (yB m_L_law) 1860 = .ok (.aload_n 0, 1) := by decide +kernel
theorem d_L_law_1861 : decode (yB m_L_law) 1861 = .ok (.iload 4, 2) := by decide +kernel
theorem d_L_law_1863 : decode (yB m_L_law) 1863 = .ok (.iconst 1, 1) := by decide +kernel
theorem d_L_law_1864 : decode (yB m_L_law) 1864 = .ok (.iadd, 1) := by decide +kernel
theorem d_L_law_1865 : decode (yB m_L_law) 1865 = .ok (.iaload, 1) := by decide +kernel
theorem d_L_law_1866 : decode (yB m_L_law) 1866 = .ok (.aload_n 0, 1) := by decide +kernel
theorem d_L_law_1867 : decode (yB m_L_law) 1867 = .ok (.iload 4, 2) := by decide +kernel
theorem d_L_law_1869 : decode (yB m_L_law) 1869 = .ok (.iconst 2, 1) := by decide +kernel
theorem d_L_law_1870 : decode (yB m_L_law) 1870 = .ok (.iadd, 1) := by decide +kernel
theorem d_L_law_1871 : decode (yB m_L_law) 1871 = .ok (.iaload, 1) := by decide +kernel
theorem d_L_law_1872 : decode (yB m_L_law) 1872 = .ok (.ifCond .eq 7, 3) := by decide +kernel
theorem d_L_law_1875 : decode (yB m_L_law) 1875 = .ok (.iconst 1, 1) := by decide +kernel
theorem d_L_law_1876 : decode (yB m_L_law) 1876 = .ok (.goto 4, 3) := by decide +kernel
theorem d_L_law_1879 : decode (yB m_L_law) 1879 = .ok (.iconst 0, 1) := by decide +kernel
theorem d_L_law_1880 : decode (yB m_L_law) 1880 = .ok (.aload_n 3, 1) := by decide +kernel
theorem d_L_law_1881 : decode (yB m_L_law) 1881 = .ok (.invokestatic 214, 3) := by decide +kernel
theorem d_L_law_1884 : decode (yB m_L_law) 1884 = .ok (.istore 5, 2) := by decide +kernel
theorem d_L_law_1886 : decode (yB m_L_law) 1886 = .ok (.aload_n 2, 1) := by decide +kernel
theorem d_L_law_1887 : decode (yB m_L_law) 1887 = .ok (.aload_n 0, 1) := by decide +kernel
theorem d_L_law_1888 : decode (yB m_L_law) 1888 = .ok (.iload 4, 2) := by decide +kernel
theorem d_L_law_1890 : decode (yB m_L_law) 1890 = .ok (.iconst 1, 1) := by decide +kernel
theorem d_L_law_1891 : decode (yB m_L_law) 1891 = .ok (.iadd, 1) := by decide +kernel
theorem d_L_law_1892 : decode (yB m_L_law) 1892 = .ok (.iaload, 1) := by decide +kernel
theorem d_L_law_1893 : decode (yB m_L_law) 1893 = .ok (.aload_n 0, 1) := by decide +kernel
theorem d_L_law_1894 : decode (yB m_L_law) 1894 = .ok (.iload 4, 2) := by decide +kernel
theorem d_L_law_1896 : decode (yB m_L_law) 1896 = .ok (.iconst 2, 1) := by decide +kernel
theorem d_L_law_1897 : decode (yB m_L_law) 1897 = .ok (.iadd, 1) := by decide +kernel
theorem d_L_law_1898 : decode (yB m_L_law) 1898 = .ok (.iaload, 1) := by decide +kernel
theorem d_L_law_1899 : decode (yB m_L_law) 1899 = .ok (.ifCond .eq 7, 3) := by decide +kernel
theorem d_L_law_1902 : decode (yB m_L_law) 1902 = .ok (.iconst 1, 1) := by decide +kernel
theorem d_L_law_1903 : decode (yB m_L_law) 1903 = .ok (.goto 4, 3) := by decide +kernel
theorem d_L_law_1906 : decode (yB m_L_law) 1906 = .ok (.iconst 0, 1) := by decide +kernel
theorem d_L_law_1907 : decode (yB m_L_law) 1907 = .ok (.invokevirtual 217, 3) := by decide +kernel
theorem d_L_law_1910 : decode (yB m_L_law) 1910 = .ok (.istore 6, 2) := by decide +kernel
theorem d_L_law_1912 : decode (yB m_L_law) 1912 = .ok (.aload_n 2, 1) := by decide +kernel
theorem d_L_law_1913 : decode (yB m_L_law) 1913 = .ok (.invokevirtual 104, 3) := by decide +kernel
theorem d_L_law_1916 : decode (yB m_L_law) 1916 = .ok (.iload 5, 2) := by decide +kernel
theorem d_L_law_1918 : decode (yB m_L_law) 1918 = .ok (.if_icmp .eq 5, 3) := by decide +kernel
theorem d_L_law_1921 : decode (yB m_L_law) 1921 = .ok (.iconst 0, 1) := by decide +kernel
theorem d_L_law_1922 : decode (yB m_L_law) 1922 = .ok (.ireturn, 1) := by decide +kernel
theorem d_L_law_1923 : decode (yB m_L_law) 1923 = .ok (.iload 5, 2) := by decide +kernel
theorem d_L_law_1925 : decode (yB m_L_law) 1925 = .ok (.ifCond .ne 15, 3) := by decide +kernel
theorem d_L_law_1928 : decode (yB m_L_law) 1928 = .ok (.aload_n 3, 1) := by decide +kernel
theorem d_L_law_1929 : decode (yB m_L_law) 1929 = .ok (.iconst 0, 1) := by decide +kernel
theorem d_L_law_1930 : decode (yB m_L_law) 1930 = .ok (.laload, 1) := by decide +kernel
theorem d_L_law_1931 : decode (yB m_L_law) 1931 = .ok (.iload 6, 2) := by decide +kernel
theorem d_L_law_1933 : decode (yB m_L_law) 1933 = .ok (.i2l, 1) := by decide +kernel
theorem d_L_law_1934 : decode (yB m_L_law) 1934 = .ok (.lcmp, 1) := by decide +kernel
theorem d_L_law_1935 : decode (yB m_L_law) 1935 = .ok (.ifCond .eq 5, 3) := by decide +kernel
theorem d_L_law_1938 : decode (yB m_L_law) 1938 = .ok (.iconst 0, 1) := by decide +kernel
theorem d_L_law_1939 : decode (yB m_L_law) 1939 = .ok (.ireturn, 1) := by decide +kernel
theorem d_L_law_1940 : decode (yB m_L_law) 1940 = .ok (.goto 136, 3) := by decide +kernel
theorem d_L_law_1943 : decode (yB m_L_law) 1943 = .ok (.aload_n 1, 1) := by decide +kernel
theorem d_L_law_1944 : decode (yB m_L_law) 1944 = .ok (.aload_n 0, 1) := by decide +kernel
theorem d_L_law_1945 : decode (yB m_L_law) 1945 = .ok (.iload 4, 2) := by decide +kernel
theorem d_L_law_1947 : decode (yB m_L_law) 1947 = .ok (.iconst 1, 1) := by decide +kernel
theorem d_L_law_1948 : decode (yB m_L_law) 1948 = .ok (.iadd, 1) := by decide +kernel
theorem d_L_law_1949 : decode (yB m_L_law) 1949 = .ok (.iaload, 1) := by decide +kernel
theorem d_L_law_1950 : decode (yB m_L_law) 1950 = .ok (.ifCond .eq 7, 3) := by decide +kernel
theorem d_L_law_1953 : decode (yB m_L_law) 1953 = .ok (.iconst 1, 1) := by decide +kernel
theorem d_L_law_1954 : decode (yB m_L_law) 1954 = .ok (.goto 4, 3) := by decide +kernel
theorem d_L_law_1957 : decode (yB m_L_law) 1957 = .ok (.iconst 0, 1) := by decide +kernel
theorem d_L_law_1958 : decode (yB m_L_law) 1958 = .ok (.invokevirtual 218, 3) := by decide +kernel
theorem d_L_law_1961 : decode (yB m_L_law) 1961 = .ok (.aload_n 2, 1) := by decide +kernel
theorem d_L_law_1962 : decode (yB m_L_law) 1962 = .ok (.aload_n 0, 1) := by decide +kernel
theorem d_L_law_1963 : decode (yB m_L_law) 1963 = .ok (.iload 4, 2) := by decide +kernel
theorem d_L_law_1965 : decode (yB m_L_law) 1965 = .ok (.iconst 1, 1) := by decide +kernel
theorem d_L_law_1966 : decode (yB m_L_law) 1966 = .ok (.iadd, 1) := by decide +kernel
theorem d_L_law_1967 : decode (yB m_L_law) 1967 = .ok (.iaload, 1) := by decide +kernel
theorem d_L_law_1968 : decode (yB m_L_law) 1968 = .ok (.ifCond .eq 7, 3) := by decide +kernel
theorem d_L_law_1971 : decode (yB m_L_law) 1971 = .ok (.iconst 1, 1) := by decide +kernel
theorem d_L_law_1972 : decode (yB m_L_law) 1972 = .ok (.goto 4, 3) := by decide +kernel
theorem d_L_law_1975 : decode (yB m_L_law) 1975 = .ok (.iconst 0, 1) := by decide +kernel
theorem d_L_law_1976 : decode (yB m_L_law) 1976 = .ok (.invokevirtual 222, 3) := by decide +kernel
theorem d_L_law_1979 : decode (yB m_L_law) 1979 = .ok (.if_icmp .eq 97, 3) := by decide +kernel
theorem d_L_law_1982 : decode (yB m_L_law) 1982 = .ok (.iconst 0, 1) := by decide +kernel
theorem d_L_law_1983 : decode (yB m_L_law) 1983 = .ok (.ireturn, 1) := by decide +kernel
theorem d_L_law_1984 : decode (yB m_L_law) 1984 = .ok (.aload_n 1, 1) := by decide +kernel
theorem d_L_law_1985 : decode (yB m_L_law) 1985 = .ok (.aload_n 0, 1) := by decide +kernel
theorem d_L_law_1986 : decode (yB m_L_law) 1986 = .ok (.iload 4, 2) := by decide +kernel
theorem d_L_law_1988 : decode (yB m_L_law) 1988 = .ok (.iconst 1, 1) := by decide +kernel
theorem d_L_law_1989 : decode (yB m_L_law) 1989 = .ok (.iadd, 1) := by decide +kernel
theorem d_L_law_1990 : decode (yB m_L_law) 1990 = .ok (.iaload, 1) := by decide +kernel
theorem d_L_law_1991 : decode (yB m_L_law) 1991 = .ok (.ifCond .eq 7, 3) := by decide +kernel
theorem d_L_law_1994 : decode (yB m_L_law) 1994 = .ok (.iconst 1, 1) := by decide +kernel
theorem d_L_law_1995 : decode (yB m_L_law) 1995 = .ok (.goto 4, 3) := by decide +kernel
theorem d_L_law_1998 : decode (yB m_L_law) 1998 = .ok (.iconst 0, 1) := by decide +kernel
theorem d_L_law_1999 : decode (yB m_L_law) 1999 = .ok (.invokevirtual 223, 3) := by decide +kernel
theorem d_L_law_2002 : decode (yB m_L_law) 2002 = .ok (.aload_n 2, 1) := by decide +kernel
theorem d_L_law_2003 : decode (yB m_L_law) 2003 = .ok (.aload_n 0, 1) := by decide +kernel
theorem d_L_law_2004 : decode (yB m_L_law) 2004 = .ok (.iload 4, 2) := by decide +kernel
theorem d_L_law_2006 : decode (yB m_L_law) 2006 = .ok (.iconst 1, 1) := by decide +kernel
theorem d_L_law_2007 : decode (yB m_L_law) 2007 = .ok (.iadd, 1) := by decide +kernel
theorem d_L_law_2008 : decode (yB m_L_law) 2008 = .ok (.iaload, 1) := by decide +kernel
theorem d_L_law_2009 : decode (yB m_L_law) 2009 = .ok (.ifCond .eq 7, 3) := by decide +kernel
theorem d_L_law_2012 : decode (yB m_L_law) 2012 = .ok (.iconst 1, 1) := by decide +kernel
theorem d_L_law_2013 : decode (yB m_L_law) 2013 = .ok (.goto 4, 3) := by decide +kernel
theorem d_L_law_2016 : decode (yB m_L_law) 2016 = .ok (.iconst 0, 1) := by decide +kernel
theorem d_L_law_2017 : decode (yB m_L_law) 2017 = .ok (.invokevirtual 226, 3) := by decide +kernel
theorem d_L_law_2020 : decode (yB m_L_law) 2020 = .ok (.if_icmp .eq 56, 3) := by decide +kernel
theorem d_L_law_2023 : decode (yB m_L_law) 2023 = .ok (.iconst 0, 1) := by decide +kernel
theorem d_L_law_2024 : decode (yB m_L_law) 2024 = .ok (.ireturn, 1) := by decide +kernel
theorem d_L_law_2025 : decode (yB m_L_law) 2025 = .ok (.aload_n 1, 1) := by decide +kernel
theorem d_L_law_2026 : decode (yB m_L_law) 2026 = .ok (.invokevirtual 227, 3) := by decide +kernel
theorem d_L_law_2029 : decode (yB m_L_law) 2029 = .ok (.aload_n 2, 1) := by decide +kernel
theorem d_L_law_2030 : decode (yB m_L_law) 2030 = .ok (.invokevirtual 230, 3) := by decide +kernel
theorem d_L_law_2033 : decode (yB m_L_law) 2033 = .ok (.if_icmp .eq 43, 3) := by decide +kernel
theorem d_L_law_2036 : decode (yB m_L_law) 2036 = .ok (.iconst 0, 1) := by decide +kernel
theorem d_L_law_2037 : decode (yB m_L_law) 2037 = .ok (.ireturn, 1) := by decide +kernel
theorem d_L_law_2038 : decode (yB m_L_law) 2038 = .ok (.aload_n 1, 1) := by decide +kernel
theorem d_L_law_2039 : decode (yB m_L_law) 2039 = .ok (.invokevirtual 231, 3) := by decide +kernel
theorem d_L_law_2042 : decode (yB m_L_law) 2042 = .ok (.aload_n 2, 1) := by decide +kernel
theorem d_L_law_2043 : decode (yB m_L_law) 2043 = .ok (.invokevirtual 234, 3) := by decide +kernel
theorem d_L_law_2046 : decode (yB m_L_law) 2046 = .ok (.if_icmp .eq 30, 3) := by decide +kernel
theorem d_L_law_2049 : decode (yB m_L_law) 2049 = .ok (.iconst 0, 1) := by decide +kernel
theorem d_L_law_2050 : decode (yB m_L_law) 2050 = .ok (.ireturn, 1) := by decide +kernel
theorem d_L_law_2051 : decode (yB m_L_law) 2051 = .ok (.aload_n 1, 1) := by decide +kernel
theorem d_L_law_2052 : decode (yB m_L_law) 2052 = .ok (.aload_n 0, 1) := by decide +kernel
theorem d_L_law_2053 : decode (yB m_L_law) 2053 = .ok (.iload 4, 2) := by decide +kernel
theorem d_L_law_2055 : decode (yB m_L_law) 2055 = .ok (.iconst 1, 1) := by decide +kernel
theorem d_L_law_2056 : decode (yB m_L_law) 2056 = .ok (.iadd, 1) := by decide +kernel
theorem d_L_law_2057 : decode (yB m_L_law) 2057 = .ok (.iaload, 1) := by decide +kernel
theorem d_L_law_2058 : decode (yB m_L_law) 2058 = .ok (.invokevirtual 235, 3) := by decide +kernel
theorem d_L_law_2061 : decode (yB m_L_law) 2061 = .ok (.aload_n 2, 1) := by decide +kernel
theorem d_L_law_2062 : decode (yB m_L_law) 2062 = .ok (.aload_n 0, 1) := by decide +kernel
theorem d_L_law_2063 : decode (yB m_L_law) 2063 = .ok (.iload 4, 2) := by decide +kernel
theorem d_L_law_2065 : decode (yB m_L_law) 2065 = .ok (.iconst 1, 1) := by decide +kernel
theorem d_L_law_2066 : decode (yB m_L_law) 2066 = .ok (.iadd, 1) := by decide +kernel
theorem d_L_law_2067 : decode (yB m_L_law) 2067 = .ok (.iaload, 1) := by decide +kernel
theorem d_L_law_2068 : decode (yB m_L_law) 2068 = .ok (.invokevirtual 238, 3) := by decide +kernel
theorem d_L_law_2071 : decode (yB m_L_law) 2071 = .ok (.if_icmp .eq 5, 3) := by decide +kernel
theorem d_L_law_2074 : decode (yB m_L_law) 2074 = .ok (.iconst 0, 1) := by decide +kernel
theorem d_L_law_2075 : decode (yB m_L_law) 2075 = .ok (.ireturn, 1) := by decide +kernel
theorem d_L_law_2076 : decode (yB m_L_law) 2076 = .ok (.iinc 4 6, 3) := by decide +kernel
theorem d_L_law_2079 : decode (yB m_L_law) 2079 = .ok (.goto (-2056), 3) := by decide +kernel
theorem d_L_law_2082 : decode (yB m_L_law) 2082 = .ok (.iconst 1, 1) := by decide +kernel
theorem d_L_law_2083 : decode (yB m_L_law) 2083 = .ok (.ireturn, 1) := by decide +kernel
def fc_0 (w : Nat → Int32) (nS : Nat) (k : zD → Option (Int32 × Nat × zD)) (v4 : Int32) (D : zD) : Option (Int32 × Nat × zD) := zck (v4 + (1 : Int32)) nS <| zck (v4 + (2 : Int32)) nS <| zck (v4 + (3 : Int32)) nS <| zck (v4 + (4 : Int32)) nS <| zck (v4 + (5 : Int32)) nS <| (fn_X11_feed (w (v4 + (1 : Int32)).toNatClampNeg) (w (v4 + (2 : Int32)).toNatClampNeg) (w (v4 + (3 : Int32)).toNatClampNeg) (w (v4 + (4 : Int32)).toNatClampNeg) (w (v4 + (5 : Int32)).toNatClampNeg) D).bind fun q6 => zck (v4 + (1 : Int32)) nS <| zck (v4 + (2 : Int32)) nS <| zck (v4 + (3 : Int32)) nS <| zck (v4 + (4 : Int32)) nS <| zck (v4 + (5 : Int32)) nS <| (fn_X12_feed (w (v4 + (1 : Int32)).toNatClampNeg) (w (v4 + (2 : Int32)).toNatClampNeg) (w (v4 + (3 : Int32)).toNatClampNeg) (w (v4 + (4 : Int32)).toNatClampNeg) (w (v4 + (5 : Int32)).toNatClampNeg) q6.2).bind fun q12 => (if q6.1 = q12.1 then ((k q12.2)) else ((some ((0 : Int32), 0, q12.2))))
theorem lc_0 {X : zX} {d : Nat} {w : Nat → Int32} {nS : Nat} (hst : (zl X).stackTraces = false) (hs : zScr X nS w) (hd : 146 ≤ d) {k : zD → Option (Int32 × Nat × zD)} {v4 : Int32} (hk : ∀ (Sh : zSh) (D : zD), zSh0 Sh → Rn X m_L_law (d + 1) 2076 [(0, .ref 1006000), (1, .ref 0), (2, .ref 102), (3, .ref 206), (4, .int v4)] [] (Sh, D) (oW Sh (k D))) {Sh : zSh} (h0 : zSh0 Sh) {D : zD} : Rn X m_L_law (d + 1) 212 [(0, .ref 1006000), (1, .ref 0), (2, .ref 102), (3, .ref 206), (4, .int v4)] [] (Sh, D) (oW Sh (fc_0 w nS k v4 D)) := by
  unfold fc_0
  refine r_aload_n (pc := 212) 1 d_L_law_212 rfl rfl ?_
  refine r_aload_n (pc := 213) 0 d_L_law_213 rfl rfl ?_
  refine r_iload (pc := 214) 4 d_L_law_214 rfl ?_
  refine r_iconst (pc := 216) (1 : Int32) d_L_law_216 rfl ?_
  refine r_iadd (pc := 217) d_L_law_217 ?_
  refine r_ck (f := (oW Sh)) rfl (fun hc1 => ?_)
  refine r_scr (pc := 218) (j := (v4 + (1 : Int32)).toNatClampNeg) hs hc1 rfl d_L_law_218 ?_
  refine r_aload_n (pc := 219) 0 d_L_law_219 rfl rfl ?_
  refine r_iload (pc := 220) 4 d_L_law_220 rfl ?_
  refine r_iconst (pc := 222) (2 : Int32) d_L_law_222 rfl ?_
  refine r_iadd (pc := 223) d_L_law_223 ?_
  refine r_ck (f := (oW Sh)) rfl (fun hc2 => ?_)
  refine r_scr (pc := 224) (j := (v4 + (2 : Int32)).toNatClampNeg) hs hc2 rfl d_L_law_224 ?_
  refine r_aload_n (pc := 225) 0 d_L_law_225 rfl rfl ?_
  refine r_iload (pc := 226) 4 d_L_law_226 rfl ?_
  refine r_iconst (pc := 228) (3 : Int32) d_L_law_228 rfl ?_
  refine r_iadd (pc := 229) d_L_law_229 ?_
  refine r_ck (f := (oW Sh)) rfl (fun hc3 => ?_)
  refine r_scr (pc := 230) (j := (v4 + (3 : Int32)).toNatClampNeg) hs hc3 rfl d_L_law_230 ?_
  refine r_aload_n (pc := 231) 0 d_L_law_231 rfl rfl ?_
  refine r_iload (pc := 232) 4 d_L_law_232 rfl ?_
  refine r_iconst (pc := 234) (4 : Int32) d_L_law_234 rfl ?_
  refine r_iadd (pc := 235) d_L_law_235 ?_
  refine r_ck (f := (oW Sh)) rfl (fun hc4 => ?_)
  refine r_scr (pc := 236) (j := (v4 + (4 : Int32)).toNatClampNeg) hs hc4 rfl d_L_law_236 ?_
  refine r_aload_n (pc := 237) 0 d_L_law_237 rfl rfl ?_
  refine r_iload (pc := 238) 4 d_L_law_238 rfl ?_
  refine r_iconst (pc := 240) (5 : Int32) d_L_law_240 rfl ?_
  refine r_iadd (pc := 241) d_L_law_241 ?_
  refine r_ck (f := (oW Sh)) rfl (fun hc5 => ?_)
  refine r_scr (pc := 242) (j := (v4 + (5 : Int32)).toNatClampNeg) hs hc5 rfl d_L_law_242 ?_
  refine q_cI (f := (oW Sh)) (av := [.ref 0, .int (w (v4 + (1 : Int32)).toNatClampNeg), .int (w (v4 + (2 : Int32)).toNatClampNeg), .int (w (v4 + (3 : Int32)).toNatClampNeg), .int (w (v4 + (4 : Int32)).toNatClampNeg), .int (w (v4 + (5 : Int32)).toNatClampNeg)]) (st := []) (z_runV ck_X11_feed rfl ml_L_93 ci_X11_feed cv_X11_feed (K_0 h0) (ci := 11) rfl rfl (Nat.le_of_ble_eq_true rfl) d_L_law_243) (s_X11_feed hst h0 (by omega)) kp_W (fun q6 _ => ?_)
  refine r_aload_n (pc := 246) 2 d_L_law_246 rfl rfl ?_
  refine r_aload_n (pc := 247) 0 d_L_law_247 rfl rfl ?_
  refine r_iload (pc := 248) 4 d_L_law_248 rfl ?_
  refine r_iconst (pc := 250) (1 : Int32) d_L_law_250 rfl ?_
  refine r_iadd (pc := 251) d_L_law_251 ?_
  refine r_ck (f := (oW Sh)) rfl (fun hc7 => ?_)
  refine r_scr (pc := 252) (j := (v4 + (1 : Int32)).toNatClampNeg) hs hc7 rfl d_L_law_252 ?_
  refine r_aload_n (pc := 253) 0 d_L_law_253 rfl rfl ?_
  refine r_iload (pc := 254) 4 d_L_law_254 rfl ?_
  refine r_iconst (pc := 256) (2 : Int32) d_L_law_256 rfl ?_
  refine r_iadd (pc := 257) d_L_law_257 ?_
  refine r_ck (f := (oW Sh)) rfl (fun hc8 => ?_)
  refine r_scr (pc := 258) (j := (v4 + (2 : Int32)).toNatClampNeg) hs hc8 rfl d_L_law_258 ?_
  refine r_aload_n (pc := 259) 0 d_L_law_259 rfl rfl ?_
  refine r_iload (pc := 260) 4 d_L_law_260 rfl ?_
  refine r_iconst (pc := 262) (3 : Int32) d_L_law_262 rfl ?_
  refine r_iadd (pc := 263) d_L_law_263 ?_
  refine r_ck (f := (oW Sh)) rfl (fun hc9 => ?_)
  refine r_scr (pc := 264) (j := (v4 + (3 : Int32)).toNatClampNeg) hs hc9 rfl d_L_law_264 ?_
  refine r_aload_n (pc := 265) 0 d_L_law_265 rfl rfl ?_
  refine r_iload (pc := 266) 4 d_L_law_266 rfl ?_
  refine r_iconst (pc := 268) (4 : Int32) d_L_law_268 rfl ?_
  refine r_iadd (pc := 269) d_L_law_269 ?_
  refine r_ck (f := (oW Sh)) rfl (fun hc10 => ?_)
  refine r_scr (pc := 270) (j := (v4 + (4 : Int32)).toNatClampNeg) hs hc10 rfl d_L_law_270 ?_
  refine r_aload_n (pc := 271) 0 d_L_law_271 rfl rfl ?_
  refine r_iload (pc := 272) 4 d_L_law_272 rfl ?_
  refine r_iconst (pc := 274) (5 : Int32) d_L_law_274 rfl ?_
  refine r_iadd (pc := 275) d_L_law_275 ?_
  refine r_ck (f := (oW Sh)) rfl (fun hc11 => ?_)
  refine r_scr (pc := 276) (j := (v4 + (5 : Int32)).toNatClampNeg) hs hc11 rfl d_L_law_276 ?_
  refine q_cI (f := (oW Sh)) (av := [.ref 102, .int (w (v4 + (1 : Int32)).toNatClampNeg), .int (w (v4 + (2 : Int32)).toNatClampNeg), .int (w (v4 + (3 : Int32)).toNatClampNeg), .int (w (v4 + (4 : Int32)).toNatClampNeg), .int (w (v4 + (5 : Int32)).toNatClampNeg)]) (st := [.int q6.1]) (z_runV ck_X12_feed rfl ml_L_97 ci_X12_feed cv_X12_feed (K_102 h0) (ci := 12) rfl rfl (Nat.le_of_ble_eq_true rfl) d_L_law_277) (s_X12_feed hst h0 (by omega)) kp_W (fun q12 _ => ?_)
  refine r_icmp_eq (f := (oW Sh)) (pc := 280) 2076 d_L_law_280 (by decide) (fun c13 => ?_) (fun c13 => ?_)
  · refine r_pick [0, 1, 2, 3, 4] (ls' := [(0, .ref 1006000), (1, .ref 0), (2, .ref 102), (3, .ref 206), (4, .int v4)]) rfl ?_
    exact hk Sh q12.2 h0
  · refine r_iconst (pc := 283) (0 : Int32) d_L_law_283 rfl ?_
    exact r_zret (pc := 284) rfl (by decide) d_L_law_284
def fc_1 (w : Nat → Int32) (nS : Nat) (k : zD → Option (Int32 × Nat × zD)) (v4 : Int32) (D : zD) : Option (Int32 × Nat × zD) := zck (v4 + (1 : Int32)) nS <| fwA (fw_L_alphabet (w (v4 + (1 : Int32)).toNatClampNeg) D) fun x2 D3 => zck (v4 + (1 : Int32)) nS <| (fn_X12_alphabet (w (v4 + (1 : Int32)).toNatClampNeg) D3).bind fun q5 => (fn_X12_thrown q5.2).bind fun x6 => (if x6 = x2 then ((if x2 = 0 then ((if (lg_cmp (gL q5.2 206 0) (q5.1).toInt64) = 0 then ((k q5.2)) else ((some ((0 : Int32), 0, q5.2))))) else ((k q5.2)))) else ((some ((0 : Int32), 0, q5.2))))
theorem lc_1 {X : zX} {d : Nat} {w : Nat → Int32} {nS : Nat} (hst : (zl X).stackTraces = false) (hs : zScr X nS w) (hd : 146 ≤ d) {k : zD → Option (Int32 × Nat × zD)} {v4 : Int32} (hk : ∀ (Sh : zSh) (D : zD), zSh0 Sh → Rn X m_L_law (d + 1) 2076 [(0, .ref 1006000), (1, .ref 0), (2, .ref 102), (3, .ref 206), (4, .int v4)] [] (Sh, D) (oW Sh (k D))) {Sh : zSh} (h0 : zSh0 Sh) {D : zD} : Rn X m_L_law (d + 1) 285 [(0, .ref 1006000), (1, .ref 0), (2, .ref 102), (3, .ref 206), (4, .int v4)] [] (Sh, D) (oW Sh (fc_1 w nS k v4 D)) := by
  unfold fc_1
  refine r_aload_n (pc := 285) 1 d_L_law_285 rfl rfl ?_
  refine r_aload_n (pc := 286) 0 d_L_law_286 rfl rfl ?_
  refine r_iload (pc := 287) 4 d_L_law_287 rfl ?_
  refine r_iconst (pc := 289) (1 : Int32) d_L_law_289 rfl ?_
  refine r_iadd (pc := 290) d_L_law_290 ?_
  refine r_ck (f := (oW Sh)) rfl (fun hc1 => ?_)
  refine r_scr (pc := 291) (j := (v4 + (1 : Int32)).toNatClampNeg) hs hc1 rfl d_L_law_291 ?_
  refine r_aload_n (pc := 292) 3 d_L_law_292 rfl rfl ?_
  refine q_cW (av := [.ref 0, .int (w (v4 + (1 : Int32)).toNatClampNeg), .ref 206]) (st := []) h0 (z_runSX ck_L_alphabet rfl ml_L_98 cs_L_alphabet rfl (Nat.le_of_ble_eq_true rfl) d_L_law_293) (w_L_alphabet hst h0 (by omega)) (fun x2 Sh D3 h0 => ?_)
  refine r_istore (pc := 296) (ls' := [(5, .int x2), (0, .ref 1006000), (1, .ref 0), (2, .ref 102), (3, .ref 206), (4, .int v4)]) d_L_law_296 (Nat.le_of_ble_eq_true rfl) rfl ?_
  refine r_aload_n (pc := 298) 3 d_L_law_298 rfl rfl ?_
  refine r_aload_n (pc := 299) 1 d_L_law_299 rfl rfl ?_
  refine r_iload (pc := 300) 5 d_L_law_300 rfl ?_
  refine r_iconst (pc := 302) (1 : Int32) d_L_law_302 rfl ?_
  refine r_iadd (pc := 303) d_L_law_303 ?_
  refine r_ck (f := (oW Sh)) rfl (fun hc4 => ?_)
  refine r_scr (pc := 304) (j := (v4 + (1 : Int32)).toNatClampNeg) hs hc4 rfl d_L_law_304 ?_
  refine q_cI (f := (oW Sh)) (av := [.ref 102, .int (w (v4 + (1 : Int32)).toNatClampNeg)]) (st := []) (z_runV ck_X12_alphabet rfl ml_L_103 ci_X12_alphabet cv_X12_alphabet (K_102 h0) (ci := 12) rfl rfl (Nat.le_of_ble_eq_true rfl) d_L_law_305) (s_X12_alphabet hst h0 (by omega)) kp_W (fun q5 _ => ?_)
  refine r_istore (pc := 308) (ls' := [(6, .int q5.1), (5, .int x2), (0, .ref 1006000), (1, .ref 0), (2, .ref 102), (3, .ref 206), (4, .int v4)]) d_L_law_308 (Nat.le_of_ble_eq_true rfl) rfl ?_
  refine r_aload_n (pc := 310) 4 d_L_law_310 rfl rfl ?_
  refine q_cP (f := (oW Sh)) (av := [.ref 102]) (st := []) (z_runV ck_X12_thrown rfl ml_L_104 ci_X12_thrown cv_X12_thrown (K_102 h0) (ci := 12) rfl rfl (Nat.le_of_ble_eq_true rfl) d_L_law_311) (s_X12_thrown hst h0 (by omega)) kp_W (fun x6 _ => ?_)
  refine r_iload (pc := 314) 1 d_L_law_314 rfl ?_
  refine r_icmp_eq (f := (oW Sh)) (pc := 316) 321 d_L_law_316 (by decide) (fun c7 => ?_) (fun c7 => ?_)
  · refine r_iload (pc := 321) 1 d_L_law_321 rfl ?_
    refine r_if_ne (f := (oW Sh)) (pc := 323) 338 d_L_law_323 (by decide) (fun c8 => ?_) (fun c8 => ?_)
    · refine r_goto (pc := 338) 2076 d_L_law_338 (by decide) ?_
      refine r_pick [2, 3, 4, 5, 6] (ls' := [(0, .ref 1006000), (1, .ref 0), (2, .ref 102), (3, .ref 206), (4, .int v4)]) rfl ?_
      exact hk Sh q5.2 h0
    · refine r_aload_n (pc := 326) 5 d_L_law_326 rfl rfl ?_
      refine r_iconst (pc := 327) (0 : Int32) d_L_law_327 rfl ?_
      refine q_lald (pc := 328) (j := 0) (K_206 h0) (by unfold vp_in; decide) rfl d_L_law_328 ?_
      refine r_iload (pc := 329) 0 d_L_law_329 rfl ?_
      refine r_i2l (pc := 331) d_L_law_331 ?_
      refine r_lcmp (pc := 332) d_L_law_332 ?_
      refine r_if_eq (f := (oW Sh)) (pc := 333) 338 d_L_law_333 (by decide) (fun c9 => ?_) (fun c9 => ?_)
      · refine r_goto (pc := 338) 2076 d_L_law_338 (by decide) ?_
        refine r_pick [2, 3, 4, 5, 6] (ls' := [(0, .ref 1006000), (1, .ref 0), (2, .ref 102), (3, .ref 206), (4, .int v4)]) rfl ?_
        exact hk Sh q5.2 h0
      · refine r_iconst (pc := 336) (0 : Int32) d_L_law_336 rfl ?_
        exact r_zret (pc := 337) rfl (by decide) d_L_law_337
  · refine r_iconst (pc := 319) (0 : Int32) d_L_law_319 rfl ?_
    exact r_zret (pc := 320) rfl (by decide) d_L_law_320
def fc_2 (w : Nat → Int32) (nS : Nat) (k : zD → Option (Int32 × Nat × zD)) (v4 : Int32) (D : zD) : Option (Int32 × Nat × zD) := zck (v4 + (1 : Int32)) nS <| fwA (fw_L_rule (w (v4 + (1 : Int32)).toNatClampNeg) D) fun x2 D3 => zck (v4 + (1 : Int32)) nS <| (fn_X12_rule (w (v4 + (1 : Int32)).toNatClampNeg) D3).bind fun q5 => (fn_X12_thrown q5.2).bind fun x6 => (if x6 = x2 then ((if x2 = 0 then ((if (lg_cmp (gL q5.2 206 0) (q5.1).toInt64) = 0 then ((k q5.2)) else ((some ((0 : Int32), 0, q5.2))))) else ((k q5.2)))) else ((some ((0 : Int32), 0, q5.2))))
theorem lc_2 {X : zX} {d : Nat} {w : Nat → Int32} {nS : Nat} (hst : (zl X).stackTraces = false) (hs : zScr X nS w) (hd : 146 ≤ d) {k : zD → Option (Int32 × Nat × zD)} {v4 : Int32} (hk : ∀ (Sh : zSh) (D : zD), zSh0 Sh → Rn X m_L_law (d + 1) 2076 [(0, .ref 1006000), (1, .ref 0), (2, .ref 102), (3, .ref 206), (4, .int v4)] [] (Sh, D) (oW Sh (k D))) {Sh : zSh} (h0 : zSh0 Sh) {D : zD} : Rn X m_L_law (d + 1) 341 [(0, .ref 1006000), (1, .ref 0), (2, .ref 102), (3, .ref 206), (4, .int v4)] [] (Sh, D) (oW Sh (fc_2 w nS k v4 D)) := by
  unfold fc_2
  refine r_aload_n (pc := 341) 1 d_L_law_341 rfl rfl ?_
  refine r_aload_n (pc := 342) 0 d_L_law_342 rfl rfl ?_
  refine r_iload (pc := 343) 4 d_L_law_343 rfl ?_
  refine r_iconst (pc := 345) (1 : Int32) d_L_law_345 rfl ?_
  refine r_iadd (pc := 346) d_L_law_346 ?_
  refine r_ck (f := (oW Sh)) rfl (fun hc1 => ?_)
  refine r_scr (pc := 347) (j := (v4 + (1 : Int32)).toNatClampNeg) hs hc1 rfl d_L_law_347 ?_
  refine r_aload_n (pc := 348) 3 d_L_law_348 rfl rfl ?_
  refine q_cW (av := [.ref 0, .int (w (v4 + (1 : Int32)).toNatClampNeg), .ref 206]) (st := []) h0 (z_runSX ck_L_rule rfl ml_L_108 cs_L_rule rfl (Nat.le_of_ble_eq_true rfl) d_L_law_349) (w_L_rule hst h0 (by omega)) (fun x2 Sh D3 h0 => ?_)
  refine r_istore (pc := 352) (ls' := [(5, .int x2), (0, .ref 1006000), (1, .ref 0), (2, .ref 102), (3, .ref 206), (4, .int v4)]) d_L_law_352 (Nat.le_of_ble_eq_true rfl) rfl ?_
  refine r_aload_n (pc := 354) 3 d_L_law_354 rfl rfl ?_
  refine r_aload_n (pc := 355) 1 d_L_law_355 rfl rfl ?_
  refine r_iload (pc := 356) 5 d_L_law_356 rfl ?_
  refine r_iconst (pc := 358) (1 : Int32) d_L_law_358 rfl ?_
  refine r_iadd (pc := 359) d_L_law_359 ?_
  refine r_ck (f := (oW Sh)) rfl (fun hc4 => ?_)
  refine r_scr (pc := 360) (j := (v4 + (1 : Int32)).toNatClampNeg) hs hc4 rfl d_L_law_360 ?_
  refine q_cI (f := (oW Sh)) (av := [.ref 102, .int (w (v4 + (1 : Int32)).toNatClampNeg)]) (st := []) (z_runV ck_X12_rule rfl ml_L_110 ci_X12_rule cv_X12_rule (K_102 h0) (ci := 12) rfl rfl (Nat.le_of_ble_eq_true rfl) d_L_law_361) (s_X12_rule hst h0 (by omega)) kp_W (fun q5 _ => ?_)
  refine r_istore (pc := 364) (ls' := [(6, .int q5.1), (5, .int x2), (0, .ref 1006000), (1, .ref 0), (2, .ref 102), (3, .ref 206), (4, .int v4)]) d_L_law_364 (Nat.le_of_ble_eq_true rfl) rfl ?_
  refine r_aload_n (pc := 366) 4 d_L_law_366 rfl rfl ?_
  refine q_cP (f := (oW Sh)) (av := [.ref 102]) (st := []) (z_runV ck_X12_thrown rfl ml_L_104 ci_X12_thrown cv_X12_thrown (K_102 h0) (ci := 12) rfl rfl (Nat.le_of_ble_eq_true rfl) d_L_law_367) (s_X12_thrown hst h0 (by omega)) kp_W (fun x6 _ => ?_)
  refine r_iload (pc := 370) 1 d_L_law_370 rfl ?_
  refine r_icmp_eq (f := (oW Sh)) (pc := 372) 377 d_L_law_372 (by decide) (fun c7 => ?_) (fun c7 => ?_)
  · refine r_iload (pc := 377) 1 d_L_law_377 rfl ?_
    refine r_if_ne (f := (oW Sh)) (pc := 379) 394 d_L_law_379 (by decide) (fun c8 => ?_) (fun c8 => ?_)
    · refine r_goto (pc := 394) 2076 d_L_law_394 (by decide) ?_
      refine r_pick [2, 3, 4, 5, 6] (ls' := [(0, .ref 1006000), (1, .ref 0), (2, .ref 102), (3, .ref 206), (4, .int v4)]) rfl ?_
      exact hk Sh q5.2 h0
    · refine r_aload_n (pc := 382) 5 d_L_law_382 rfl rfl ?_
      refine r_iconst (pc := 383) (0 : Int32) d_L_law_383 rfl ?_
      refine q_lald (pc := 384) (j := 0) (K_206 h0) (by unfold vp_in; decide) rfl d_L_law_384 ?_
      refine r_iload (pc := 385) 0 d_L_law_385 rfl ?_
      refine r_i2l (pc := 387) d_L_law_387 ?_
      refine r_lcmp (pc := 388) d_L_law_388 ?_
      refine r_if_eq (f := (oW Sh)) (pc := 389) 394 d_L_law_389 (by decide) (fun c9 => ?_) (fun c9 => ?_)
      · refine r_goto (pc := 394) 2076 d_L_law_394 (by decide) ?_
        refine r_pick [2, 3, 4, 5, 6] (ls' := [(0, .ref 1006000), (1, .ref 0), (2, .ref 102), (3, .ref 206), (4, .int v4)]) rfl ?_
        exact hk Sh q5.2 h0
      · refine r_iconst (pc := 392) (0 : Int32) d_L_law_392 rfl ?_
        exact r_zret (pc := 393) rfl (by decide) d_L_law_393
  · refine r_iconst (pc := 375) (0 : Int32) d_L_law_375 rfl ?_
    exact r_zret (pc := 376) rfl (by decide) d_L_law_376
def fc_3 (w : Nat → Int32) (nS : Nat) (k : zD → Option (Int32 × Nat × zD)) (v4 : Int32) (D : zD) : Option (Int32 × Nat × zD) := (fn_X11_fault D).bind fun x1 => (fn_X12_fault D).bind fun q2 => (if x1 = q2.1 then ((k q2.2)) else ((some ((0 : Int32), 0, q2.2))))
theorem lc_3 {X : zX} {d : Nat} {w : Nat → Int32} {nS : Nat} (hst : (zl X).stackTraces = false) (hs : zScr X nS w) (hd : 146 ≤ d) {k : zD → Option (Int32 × Nat × zD)} {v4 : Int32} (hk : ∀ (Sh : zSh) (D : zD), zSh0 Sh → Rn X m_L_law (d + 1) 2076 [(0, .ref 1006000), (1, .ref 0), (2, .ref 102), (3, .ref 206), (4, .int v4)] [] (Sh, D) (oW Sh (k D))) {Sh : zSh} (h0 : zSh0 Sh) {D : zD} : Rn X m_L_law (d + 1) 397 [(0, .ref 1006000), (1, .ref 0), (2, .ref 102), (3, .ref 206), (4, .int v4)] [] (Sh, D) (oW Sh (fc_3 w nS k v4 D)) := by
  unfold fc_3
  refine r_aload_n (pc := 397) 1 d_L_law_397 rfl rfl ?_
  refine q_cP (f := (oW Sh)) (av := [.ref 0]) (st := []) (z_runV ck_X11_fault rfl ml_L_111 ci_X11_fault cv_X11_fault (K_0 h0) (ci := 11) rfl rfl (Nat.le_of_ble_eq_true rfl) d_L_law_398) (s_X11_fault hst h0 (by omega)) kp_W (fun x1 _ => ?_)
  refine r_aload_n (pc := 401) 2 d_L_law_401 rfl rfl ?_
  refine q_cI (f := (oW Sh)) (av := [.ref 102]) (st := [.int x1]) (z_runV ck_X12_fault rfl ml_L_114 ci_X12_fault cv_X12_fault (K_102 h0) (ci := 12) rfl rfl (Nat.le_of_ble_eq_true rfl) d_L_law_402) (s_X12_fault hst h0 (by omega)) kp_W (fun q2 _ => ?_)
  refine r_icmp_eq (f := (oW Sh)) (pc := 405) 2076 d_L_law_405 (by decide) (fun c3 => ?_) (fun c3 => ?_)
  · refine r_pick [0, 1, 2, 3, 4] (ls' := [(0, .ref 1006000), (1, .ref 0), (2, .ref 102), (3, .ref 206), (4, .int v4)]) rfl ?_
    exact hk Sh q2.2 h0
  · refine r_iconst (pc := 408) (0 : Int32) d_L_law_408 rfl ?_
    exact r_zret (pc := 409) rfl (by decide) d_L_law_409
def fc_4 (w : Nat → Int32) (nS : Nat) (k : zD → Option (Int32 × Nat × zD)) (v4 : Int32) (D : zD) : Option (Int32 × Nat × zD) := zck (v4 + (1 : Int32)) nS <| fwA (fw_L_told (w (v4 + (1 : Int32)).toNatClampNeg) D) fun x2 D3 => zck (v4 + (1 : Int32)) nS <| (fn_X12_told (w (v4 + (1 : Int32)).toNatClampNeg) D3).bind fun q5 => (fn_X12_thrown q5.2).bind fun x6 => (if x6 = x2 then ((if x2 = 0 then ((if (lg_cmp (gL q5.2 206 0) (q5.1).toInt64) = 0 then ((k q5.2)) else ((some ((0 : Int32), 0, q5.2))))) else ((k q5.2)))) else ((some ((0 : Int32), 0, q5.2))))
theorem lc_4 {X : zX} {d : Nat} {w : Nat → Int32} {nS : Nat} (hst : (zl X).stackTraces = false) (hs : zScr X nS w) (hd : 146 ≤ d) {k : zD → Option (Int32 × Nat × zD)} {v4 : Int32} (hk : ∀ (Sh : zSh) (D : zD), zSh0 Sh → Rn X m_L_law (d + 1) 2076 [(0, .ref 1006000), (1, .ref 0), (2, .ref 102), (3, .ref 206), (4, .int v4)] [] (Sh, D) (oW Sh (k D))) {Sh : zSh} (h0 : zSh0 Sh) {D : zD} : Rn X m_L_law (d + 1) 410 [(0, .ref 1006000), (1, .ref 0), (2, .ref 102), (3, .ref 206), (4, .int v4)] [] (Sh, D) (oW Sh (fc_4 w nS k v4 D)) := by
  unfold fc_4
  refine r_aload_n (pc := 410) 1 d_L_law_410 rfl rfl ?_
  refine r_aload_n (pc := 411) 0 d_L_law_411 rfl rfl ?_
  refine r_iload (pc := 412) 4 d_L_law_412 rfl ?_
  refine r_iconst (pc := 414) (1 : Int32) d_L_law_414 rfl ?_
  refine r_iadd (pc := 415) d_L_law_415 ?_
  refine r_ck (f := (oW Sh)) rfl (fun hc1 => ?_)
  refine r_scr (pc := 416) (j := (v4 + (1 : Int32)).toNatClampNeg) hs hc1 rfl d_L_law_416 ?_
  refine r_aload_n (pc := 417) 3 d_L_law_417 rfl rfl ?_
  refine q_cW (av := [.ref 0, .int (w (v4 + (1 : Int32)).toNatClampNeg), .ref 206]) (st := []) h0 (z_runSX ck_L_told rfl ml_L_115 cs_L_told rfl (Nat.le_of_ble_eq_true rfl) d_L_law_418) (w_L_told hst h0 (by omega)) (fun x2 Sh D3 h0 => ?_)
  refine r_istore (pc := 421) (ls' := [(5, .int x2), (0, .ref 1006000), (1, .ref 0), (2, .ref 102), (3, .ref 206), (4, .int v4)]) d_L_law_421 (Nat.le_of_ble_eq_true rfl) rfl ?_
  refine r_aload_n (pc := 423) 3 d_L_law_423 rfl rfl ?_
  refine r_aload_n (pc := 424) 1 d_L_law_424 rfl rfl ?_
  refine r_iload (pc := 425) 5 d_L_law_425 rfl ?_
  refine r_iconst (pc := 427) (1 : Int32) d_L_law_427 rfl ?_
  refine r_iadd (pc := 428) d_L_law_428 ?_
  refine r_ck (f := (oW Sh)) rfl (fun hc4 => ?_)
  refine r_scr (pc := 429) (j := (v4 + (1 : Int32)).toNatClampNeg) hs hc4 rfl d_L_law_429 ?_
  refine q_cI (f := (oW Sh)) (av := [.ref 102, .int (w (v4 + (1 : Int32)).toNatClampNeg)]) (st := []) (z_runV ck_X12_told rfl ml_L_117 ci_X12_told cv_X12_told (K_102 h0) (ci := 12) rfl rfl (Nat.le_of_ble_eq_true rfl) d_L_law_430) (s_X12_told hst h0 (by omega)) kp_W (fun q5 _ => ?_)
  refine r_istore (pc := 433) (ls' := [(6, .int q5.1), (5, .int x2), (0, .ref 1006000), (1, .ref 0), (2, .ref 102), (3, .ref 206), (4, .int v4)]) d_L_law_433 (Nat.le_of_ble_eq_true rfl) rfl ?_
  refine r_aload_n (pc := 435) 4 d_L_law_435 rfl rfl ?_
  refine q_cP (f := (oW Sh)) (av := [.ref 102]) (st := []) (z_runV ck_X12_thrown rfl ml_L_104 ci_X12_thrown cv_X12_thrown (K_102 h0) (ci := 12) rfl rfl (Nat.le_of_ble_eq_true rfl) d_L_law_436) (s_X12_thrown hst h0 (by omega)) kp_W (fun x6 _ => ?_)
  refine r_iload (pc := 439) 1 d_L_law_439 rfl ?_
  refine r_icmp_eq (f := (oW Sh)) (pc := 441) 446 d_L_law_441 (by decide) (fun c7 => ?_) (fun c7 => ?_)
  · refine r_iload (pc := 446) 1 d_L_law_446 rfl ?_
    refine r_if_ne (f := (oW Sh)) (pc := 448) 463 d_L_law_448 (by decide) (fun c8 => ?_) (fun c8 => ?_)
    · refine r_goto (pc := 463) 2076 d_L_law_463 (by decide) ?_
      refine r_pick [2, 3, 4, 5, 6] (ls' := [(0, .ref 1006000), (1, .ref 0), (2, .ref 102), (3, .ref 206), (4, .int v4)]) rfl ?_
      exact hk Sh q5.2 h0
    · refine r_aload_n (pc := 451) 5 d_L_law_451 rfl rfl ?_
      refine r_iconst (pc := 452) (0 : Int32) d_L_law_452 rfl ?_
      refine q_lald (pc := 453) (j := 0) (K_206 h0) (by unfold vp_in; decide) rfl d_L_law_453 ?_
      refine r_iload (pc := 454) 0 d_L_law_454 rfl ?_
      refine r_i2l (pc := 456) d_L_law_456 ?_
      refine r_lcmp (pc := 457) d_L_law_457 ?_
      refine r_if_eq (f := (oW Sh)) (pc := 458) 463 d_L_law_458 (by decide) (fun c9 => ?_) (fun c9 => ?_)
      · refine r_goto (pc := 463) 2076 d_L_law_463 (by decide) ?_
        refine r_pick [2, 3, 4, 5, 6] (ls' := [(0, .ref 1006000), (1, .ref 0), (2, .ref 102), (3, .ref 206), (4, .int v4)]) rfl ?_
        exact hk Sh q5.2 h0
      · refine r_iconst (pc := 461) (0 : Int32) d_L_law_461 rfl ?_
        exact r_zret (pc := 462) rfl (by decide) d_L_law_462
  · refine r_iconst (pc := 444) (0 : Int32) d_L_law_444 rfl ?_
    exact r_zret (pc := 445) rfl (by decide) d_L_law_445
def fc_5 (w : Nat → Int32) (nS : Nat) (k : zD → Option (Int32 × Nat × zD)) (v4 : Int32) (D : zD) : Option (Int32 × Nat × zD) := zck (v4 + (1 : Int32)) nS <| fwA (fw_L_sign (w (v4 + (1 : Int32)).toNatClampNeg) D) fun x2 D3 => zck (v4 + (1 : Int32)) nS <| (fn_X12_sign (w (v4 + (1 : Int32)).toNatClampNeg) D3).bind fun q5 => (fn_X12_thrown q5.2).bind fun x6 => (if x6 = x2 then ((if x2 = 0 then ((if (lg_cmp (gL q5.2 206 0) (q5.1).toInt64) = 0 then ((k q5.2)) else ((some ((0 : Int32), 0, q5.2))))) else ((k q5.2)))) else ((some ((0 : Int32), 0, q5.2))))
theorem lc_5 {X : zX} {d : Nat} {w : Nat → Int32} {nS : Nat} (hst : (zl X).stackTraces = false) (hs : zScr X nS w) (hd : 146 ≤ d) {k : zD → Option (Int32 × Nat × zD)} {v4 : Int32} (hk : ∀ (Sh : zSh) (D : zD), zSh0 Sh → Rn X m_L_law (d + 1) 2076 [(0, .ref 1006000), (1, .ref 0), (2, .ref 102), (3, .ref 206), (4, .int v4)] [] (Sh, D) (oW Sh (k D))) {Sh : zSh} (h0 : zSh0 Sh) {D : zD} : Rn X m_L_law (d + 1) 466 [(0, .ref 1006000), (1, .ref 0), (2, .ref 102), (3, .ref 206), (4, .int v4)] [] (Sh, D) (oW Sh (fc_5 w nS k v4 D)) := by
  unfold fc_5
  refine r_aload_n (pc := 466) 1 d_L_law_466 rfl rfl ?_
  refine r_aload_n (pc := 467) 0 d_L_law_467 rfl rfl ?_
  refine r_iload (pc := 468) 4 d_L_law_468 rfl ?_
  refine r_iconst (pc := 470) (1 : Int32) d_L_law_470 rfl ?_
  refine r_iadd (pc := 471) d_L_law_471 ?_
  refine r_ck (f := (oW Sh)) rfl (fun hc1 => ?_)
  refine r_scr (pc := 472) (j := (v4 + (1 : Int32)).toNatClampNeg) hs hc1 rfl d_L_law_472 ?_
  refine r_aload_n (pc := 473) 3 d_L_law_473 rfl rfl ?_
  refine q_cW (av := [.ref 0, .int (w (v4 + (1 : Int32)).toNatClampNeg), .ref 206]) (st := []) h0 (z_runSX ck_L_sign rfl ml_L_118 cs_L_sign rfl (Nat.le_of_ble_eq_true rfl) d_L_law_474) (w_L_sign hst h0 (by omega)) (fun x2 Sh D3 h0 => ?_)
  refine r_istore (pc := 477) (ls' := [(5, .int x2), (0, .ref 1006000), (1, .ref 0), (2, .ref 102), (3, .ref 206), (4, .int v4)]) d_L_law_477 (Nat.le_of_ble_eq_true rfl) rfl ?_
  refine r_aload_n (pc := 479) 3 d_L_law_479 rfl rfl ?_
  refine r_aload_n (pc := 480) 1 d_L_law_480 rfl rfl ?_
  refine r_iload (pc := 481) 5 d_L_law_481 rfl ?_
  refine r_iconst (pc := 483) (1 : Int32) d_L_law_483 rfl ?_
  refine r_iadd (pc := 484) d_L_law_484 ?_
  refine r_ck (f := (oW Sh)) rfl (fun hc4 => ?_)
  refine r_scr (pc := 485) (j := (v4 + (1 : Int32)).toNatClampNeg) hs hc4 rfl d_L_law_485 ?_
  refine q_cI (f := (oW Sh)) (av := [.ref 102, .int (w (v4 + (1 : Int32)).toNatClampNeg)]) (st := []) (z_runV ck_X12_sign rfl ml_L_120 ci_X12_sign cv_X12_sign (K_102 h0) (ci := 12) rfl rfl (Nat.le_of_ble_eq_true rfl) d_L_law_486) (s_X12_sign hst h0 (by omega)) kp_W (fun q5 _ => ?_)
  refine r_istore (pc := 489) (ls' := [(6, .int q5.1), (5, .int x2), (0, .ref 1006000), (1, .ref 0), (2, .ref 102), (3, .ref 206), (4, .int v4)]) d_L_law_489 (Nat.le_of_ble_eq_true rfl) rfl ?_
  refine r_aload_n (pc := 491) 4 d_L_law_491 rfl rfl ?_
  refine q_cP (f := (oW Sh)) (av := [.ref 102]) (st := []) (z_runV ck_X12_thrown rfl ml_L_104 ci_X12_thrown cv_X12_thrown (K_102 h0) (ci := 12) rfl rfl (Nat.le_of_ble_eq_true rfl) d_L_law_492) (s_X12_thrown hst h0 (by omega)) kp_W (fun x6 _ => ?_)
  refine r_iload (pc := 495) 1 d_L_law_495 rfl ?_
  refine r_icmp_eq (f := (oW Sh)) (pc := 497) 502 d_L_law_497 (by decide) (fun c7 => ?_) (fun c7 => ?_)
  · refine r_iload (pc := 502) 1 d_L_law_502 rfl ?_
    refine r_if_ne (f := (oW Sh)) (pc := 504) 519 d_L_law_504 (by decide) (fun c8 => ?_) (fun c8 => ?_)
    · refine r_goto (pc := 519) 2076 d_L_law_519 (by decide) ?_
      refine r_pick [2, 3, 4, 5, 6] (ls' := [(0, .ref 1006000), (1, .ref 0), (2, .ref 102), (3, .ref 206), (4, .int v4)]) rfl ?_
      exact hk Sh q5.2 h0
    · refine r_aload_n (pc := 507) 5 d_L_law_507 rfl rfl ?_
      refine r_iconst (pc := 508) (0 : Int32) d_L_law_508 rfl ?_
      refine q_lald (pc := 509) (j := 0) (K_206 h0) (by unfold vp_in; decide) rfl d_L_law_509 ?_
      refine r_iload (pc := 510) 0 d_L_law_510 rfl ?_
      refine r_i2l (pc := 512) d_L_law_512 ?_
      refine r_lcmp (pc := 513) d_L_law_513 ?_
      refine r_if_eq (f := (oW Sh)) (pc := 514) 519 d_L_law_514 (by decide) (fun c9 => ?_) (fun c9 => ?_)
      · refine r_goto (pc := 519) 2076 d_L_law_519 (by decide) ?_
        refine r_pick [2, 3, 4, 5, 6] (ls' := [(0, .ref 1006000), (1, .ref 0), (2, .ref 102), (3, .ref 206), (4, .int v4)]) rfl ?_
        exact hk Sh q5.2 h0
      · refine r_iconst (pc := 517) (0 : Int32) d_L_law_517 rfl ?_
        exact r_zret (pc := 518) rfl (by decide) d_L_law_518
  · refine r_iconst (pc := 500) (0 : Int32) d_L_law_500 rfl ?_
    exact r_zret (pc := 501) rfl (by decide) d_L_law_501
def fc_6 (w : Nat → Int32) (nS : Nat) (k : zD → Option (Int32 × Nat × zD)) (v4 : Int32) (D : zD) : Option (Int32 × Nat × zD) := zck (v4 + (1 : Int32)) nS <| fwA (fw_L_family (w (v4 + (1 : Int32)).toNatClampNeg) D) fun x2 D3 => zck (v4 + (1 : Int32)) nS <| (fn_X12_family (w (v4 + (1 : Int32)).toNatClampNeg) D3).bind fun q5 => (fn_X12_thrown q5.2).bind fun x6 => (if x6 = x2 then ((if x2 = 0 then ((if (lg_cmp (gL q5.2 206 0) (q5.1).toInt64) = 0 then ((k q5.2)) else ((some ((0 : Int32), 0, q5.2))))) else ((k q5.2)))) else ((some ((0 : Int32), 0, q5.2))))
theorem lc_6 {X : zX} {d : Nat} {w : Nat → Int32} {nS : Nat} (hst : (zl X).stackTraces = false) (hs : zScr X nS w) (hd : 146 ≤ d) {k : zD → Option (Int32 × Nat × zD)} {v4 : Int32} (hk : ∀ (Sh : zSh) (D : zD), zSh0 Sh → Rn X m_L_law (d + 1) 2076 [(0, .ref 1006000), (1, .ref 0), (2, .ref 102), (3, .ref 206), (4, .int v4)] [] (Sh, D) (oW Sh (k D))) {Sh : zSh} (h0 : zSh0 Sh) {D : zD} : Rn X m_L_law (d + 1) 522 [(0, .ref 1006000), (1, .ref 0), (2, .ref 102), (3, .ref 206), (4, .int v4)] [] (Sh, D) (oW Sh (fc_6 w nS k v4 D)) := by
  unfold fc_6
  refine r_aload_n (pc := 522) 1 d_L_law_522 rfl rfl ?_
  refine r_aload_n (pc := 523) 0 d_L_law_523 rfl rfl ?_
  refine r_iload (pc := 524) 4 d_L_law_524 rfl ?_
  refine r_iconst (pc := 526) (1 : Int32) d_L_law_526 rfl ?_
  refine r_iadd (pc := 527) d_L_law_527 ?_
  refine r_ck (f := (oW Sh)) rfl (fun hc1 => ?_)
  refine r_scr (pc := 528) (j := (v4 + (1 : Int32)).toNatClampNeg) hs hc1 rfl d_L_law_528 ?_
  refine r_aload_n (pc := 529) 3 d_L_law_529 rfl rfl ?_
  refine q_cW (av := [.ref 0, .int (w (v4 + (1 : Int32)).toNatClampNeg), .ref 206]) (st := []) h0 (z_runSX ck_L_family rfl ml_L_121 cs_L_family rfl (Nat.le_of_ble_eq_true rfl) d_L_law_530) (w_L_family hst h0 (by omega)) (fun x2 Sh D3 h0 => ?_)
  refine r_istore (pc := 533) (ls' := [(5, .int x2), (0, .ref 1006000), (1, .ref 0), (2, .ref 102), (3, .ref 206), (4, .int v4)]) d_L_law_533 (Nat.le_of_ble_eq_true rfl) rfl ?_
  refine r_aload_n (pc := 535) 3 d_L_law_535 rfl rfl ?_
  refine r_aload_n (pc := 536) 1 d_L_law_536 rfl rfl ?_
  refine r_iload (pc := 537) 5 d_L_law_537 rfl ?_
  refine r_iconst (pc := 539) (1 : Int32) d_L_law_539 rfl ?_
  refine r_iadd (pc := 540) d_L_law_540 ?_
  refine r_ck (f := (oW Sh)) rfl (fun hc4 => ?_)
  refine r_scr (pc := 541) (j := (v4 + (1 : Int32)).toNatClampNeg) hs hc4 rfl d_L_law_541 ?_
  refine q_cI (f := (oW Sh)) (av := [.ref 102, .int (w (v4 + (1 : Int32)).toNatClampNeg)]) (st := []) (z_runV ck_X12_family rfl ml_L_123 ci_X12_family cv_X12_family (K_102 h0) (ci := 12) rfl rfl (Nat.le_of_ble_eq_true rfl) d_L_law_542) (s_X12_family hst h0 (by omega)) kp_W (fun q5 _ => ?_)
  refine r_istore (pc := 545) (ls' := [(6, .int q5.1), (5, .int x2), (0, .ref 1006000), (1, .ref 0), (2, .ref 102), (3, .ref 206), (4, .int v4)]) d_L_law_545 (Nat.le_of_ble_eq_true rfl) rfl ?_
  refine r_aload_n (pc := 547) 4 d_L_law_547 rfl rfl ?_
  refine q_cP (f := (oW Sh)) (av := [.ref 102]) (st := []) (z_runV ck_X12_thrown rfl ml_L_104 ci_X12_thrown cv_X12_thrown (K_102 h0) (ci := 12) rfl rfl (Nat.le_of_ble_eq_true rfl) d_L_law_548) (s_X12_thrown hst h0 (by omega)) kp_W (fun x6 _ => ?_)
  refine r_iload (pc := 551) 1 d_L_law_551 rfl ?_
  refine r_icmp_eq (f := (oW Sh)) (pc := 553) 558 d_L_law_553 (by decide) (fun c7 => ?_) (fun c7 => ?_)
  · refine r_iload (pc := 558) 1 d_L_law_558 rfl ?_
    refine r_if_ne (f := (oW Sh)) (pc := 560) 575 d_L_law_560 (by decide) (fun c8 => ?_) (fun c8 => ?_)
    · refine r_goto (pc := 575) 2076 d_L_law_575 (by decide) ?_
      refine r_pick [2, 3, 4, 5, 6] (ls' := [(0, .ref 1006000), (1, .ref 0), (2, .ref 102), (3, .ref 206), (4, .int v4)]) rfl ?_
      exact hk Sh q5.2 h0
    · refine r_aload_n (pc := 563) 5 d_L_law_563 rfl rfl ?_
      refine r_iconst (pc := 564) (0 : Int32) d_L_law_564 rfl ?_
      refine q_lald (pc := 565) (j := 0) (K_206 h0) (by unfold vp_in; decide) rfl d_L_law_565 ?_
      refine r_iload (pc := 566) 0 d_L_law_566 rfl ?_
      refine r_i2l (pc := 568) d_L_law_568 ?_
      refine r_lcmp (pc := 569) d_L_law_569 ?_
      refine r_if_eq (f := (oW Sh)) (pc := 570) 575 d_L_law_570 (by decide) (fun c9 => ?_) (fun c9 => ?_)
      · refine r_goto (pc := 575) 2076 d_L_law_575 (by decide) ?_
        refine r_pick [2, 3, 4, 5, 6] (ls' := [(0, .ref 1006000), (1, .ref 0), (2, .ref 102), (3, .ref 206), (4, .int v4)]) rfl ?_
        exact hk Sh q5.2 h0
      · refine r_iconst (pc := 573) (0 : Int32) d_L_law_573 rfl ?_
        exact r_zret (pc := 574) rfl (by decide) d_L_law_574
  · refine r_iconst (pc := 556) (0 : Int32) d_L_law_556 rfl ?_
    exact r_zret (pc := 557) rfl (by decide) d_L_law_557
def fc_7 (w : Nat → Int32) (nS : Nat) (k : zD → Option (Int32 × Nat × zD)) (v4 : Int32) (D : zD) : Option (Int32 × Nat × zD) := zck (v4 + (1 : Int32)) nS <| zck (v4 + (2 : Int32)) nS <| fwA (fw_L_word (w (v4 + (1 : Int32)).toNatClampNeg) (w (v4 + (2 : Int32)).toNatClampNeg) D) fun x3 D4 => zck (v4 + (1 : Int32)) nS <| zck (v4 + (2 : Int32)) nS <| (fn_X12_word (w (v4 + (1 : Int32)).toNatClampNeg) (w (v4 + (2 : Int32)).toNatClampNeg) D4).bind fun q7 => (fn_X12_thrown q7.2).bind fun x8 => (if x8 = x3 then ((if x3 = 0 then ((if (lg_cmp (gL q7.2 206 0) (q7.1).toInt64) = 0 then ((k q7.2)) else ((some ((0 : Int32), 0, q7.2))))) else ((k q7.2)))) else ((some ((0 : Int32), 0, q7.2))))
theorem lc_7 {X : zX} {d : Nat} {w : Nat → Int32} {nS : Nat} (hst : (zl X).stackTraces = false) (hs : zScr X nS w) (hd : 146 ≤ d) {k : zD → Option (Int32 × Nat × zD)} {v4 : Int32} (hk : ∀ (Sh : zSh) (D : zD), zSh0 Sh → Rn X m_L_law (d + 1) 2076 [(0, .ref 1006000), (1, .ref 0), (2, .ref 102), (3, .ref 206), (4, .int v4)] [] (Sh, D) (oW Sh (k D))) {Sh : zSh} (h0 : zSh0 Sh) {D : zD} : Rn X m_L_law (d + 1) 578 [(0, .ref 1006000), (1, .ref 0), (2, .ref 102), (3, .ref 206), (4, .int v4)] [] (Sh, D) (oW Sh (fc_7 w nS k v4 D)) := by
  unfold fc_7
  refine r_aload_n (pc := 578) 1 d_L_law_578 rfl rfl ?_
  refine r_aload_n (pc := 579) 0 d_L_law_579 rfl rfl ?_
  refine r_iload (pc := 580) 4 d_L_law_580 rfl ?_
  refine r_iconst (pc := 582) (1 : Int32) d_L_law_582 rfl ?_
  refine r_iadd (pc := 583) d_L_law_583 ?_
  refine r_ck (f := (oW Sh)) rfl (fun hc1 => ?_)
  refine r_scr (pc := 584) (j := (v4 + (1 : Int32)).toNatClampNeg) hs hc1 rfl d_L_law_584 ?_
  refine r_aload_n (pc := 585) 0 d_L_law_585 rfl rfl ?_
  refine r_iload (pc := 586) 4 d_L_law_586 rfl ?_
  refine r_iconst (pc := 588) (2 : Int32) d_L_law_588 rfl ?_
  refine r_iadd (pc := 589) d_L_law_589 ?_
  refine r_ck (f := (oW Sh)) rfl (fun hc2 => ?_)
  refine r_scr (pc := 590) (j := (v4 + (2 : Int32)).toNatClampNeg) hs hc2 rfl d_L_law_590 ?_
  refine r_aload_n (pc := 591) 3 d_L_law_591 rfl rfl ?_
  refine q_cW (av := [.ref 0, .int (w (v4 + (1 : Int32)).toNatClampNeg), .int (w (v4 + (2 : Int32)).toNatClampNeg), .ref 206]) (st := []) h0 (z_runSX ck_L_word rfl ml_L_124 cs_L_word rfl (Nat.le_of_ble_eq_true rfl) d_L_law_592) (w_L_word hst h0 (by omega)) (fun x3 Sh D4 h0 => ?_)
  refine r_istore (pc := 595) (ls' := [(5, .int x3), (0, .ref 1006000), (1, .ref 0), (2, .ref 102), (3, .ref 206), (4, .int v4)]) d_L_law_595 (Nat.le_of_ble_eq_true rfl) rfl ?_
  refine r_aload_n (pc := 597) 3 d_L_law_597 rfl rfl ?_
  refine r_aload_n (pc := 598) 1 d_L_law_598 rfl rfl ?_
  refine r_iload (pc := 599) 5 d_L_law_599 rfl ?_
  refine r_iconst (pc := 601) (1 : Int32) d_L_law_601 rfl ?_
  refine r_iadd (pc := 602) d_L_law_602 ?_
  refine r_ck (f := (oW Sh)) rfl (fun hc5 => ?_)
  refine r_scr (pc := 603) (j := (v4 + (1 : Int32)).toNatClampNeg) hs hc5 rfl d_L_law_603 ?_
  refine r_aload_n (pc := 604) 1 d_L_law_604 rfl rfl ?_
  refine r_iload (pc := 605) 5 d_L_law_605 rfl ?_
  refine r_iconst (pc := 607) (2 : Int32) d_L_law_607 rfl ?_
  refine r_iadd (pc := 608) d_L_law_608 ?_
  refine r_ck (f := (oW Sh)) rfl (fun hc6 => ?_)
  refine r_scr (pc := 609) (j := (v4 + (2 : Int32)).toNatClampNeg) hs hc6 rfl d_L_law_609 ?_
  refine q_cI (f := (oW Sh)) (av := [.ref 102, .int (w (v4 + (1 : Int32)).toNatClampNeg), .int (w (v4 + (2 : Int32)).toNatClampNeg)]) (st := []) (z_runV ck_X12_word rfl ml_L_127 ci_X12_word cv_X12_word (K_102 h0) (ci := 12) rfl rfl (Nat.le_of_ble_eq_true rfl) d_L_law_610) (s_X12_word hst h0 (by omega)) kp_W (fun q7 _ => ?_)
  refine r_istore (pc := 613) (ls' := [(6, .int q7.1), (5, .int x3), (0, .ref 1006000), (1, .ref 0), (2, .ref 102), (3, .ref 206), (4, .int v4)]) d_L_law_613 (Nat.le_of_ble_eq_true rfl) rfl ?_
  refine r_aload_n (pc := 615) 4 d_L_law_615 rfl rfl ?_
  refine q_cP (f := (oW Sh)) (av := [.ref 102]) (st := []) (z_runV ck_X12_thrown rfl ml_L_104 ci_X12_thrown cv_X12_thrown (K_102 h0) (ci := 12) rfl rfl (Nat.le_of_ble_eq_true rfl) d_L_law_616) (s_X12_thrown hst h0 (by omega)) kp_W (fun x8 _ => ?_)
  refine r_iload (pc := 619) 1 d_L_law_619 rfl ?_
  refine r_icmp_eq (f := (oW Sh)) (pc := 621) 626 d_L_law_621 (by decide) (fun c9 => ?_) (fun c9 => ?_)
  · refine r_iload (pc := 626) 1 d_L_law_626 rfl ?_
    refine r_if_ne (f := (oW Sh)) (pc := 628) 643 d_L_law_628 (by decide) (fun c10 => ?_) (fun c10 => ?_)
    · refine r_goto (pc := 643) 2076 d_L_law_643 (by decide) ?_
      refine r_pick [2, 3, 4, 5, 6] (ls' := [(0, .ref 1006000), (1, .ref 0), (2, .ref 102), (3, .ref 206), (4, .int v4)]) rfl ?_
      exact hk Sh q7.2 h0
    · refine r_aload_n (pc := 631) 5 d_L_law_631 rfl rfl ?_
      refine r_iconst (pc := 632) (0 : Int32) d_L_law_632 rfl ?_
      refine q_lald (pc := 633) (j := 0) (K_206 h0) (by unfold vp_in; decide) rfl d_L_law_633 ?_
      refine r_iload (pc := 634) 0 d_L_law_634 rfl ?_
      refine r_i2l (pc := 636) d_L_law_636 ?_
      refine r_lcmp (pc := 637) d_L_law_637 ?_
      refine r_if_eq (f := (oW Sh)) (pc := 638) 643 d_L_law_638 (by decide) (fun c11 => ?_) (fun c11 => ?_)
      · refine r_goto (pc := 643) 2076 d_L_law_643 (by decide) ?_
        refine r_pick [2, 3, 4, 5, 6] (ls' := [(0, .ref 1006000), (1, .ref 0), (2, .ref 102), (3, .ref 206), (4, .int v4)]) rfl ?_
        exact hk Sh q7.2 h0
      · refine r_iconst (pc := 641) (0 : Int32) d_L_law_641 rfl ?_
        exact r_zret (pc := 642) rfl (by decide) d_L_law_642
  · refine r_iconst (pc := 624) (0 : Int32) d_L_law_624 rfl ?_
    exact r_zret (pc := 625) rfl (by decide) d_L_law_625
def fc_8 (w : Nat → Int32) (nS : Nat) (k : zD → Option (Int32 × Nat × zD)) (v4 : Int32) (D : zD) : Option (Int32 × Nat × zD) := zck (v4 + (1 : Int32)) nS <| fwA (fw_L_cover (w (v4 + (1 : Int32)).toNatClampNeg) D) fun x2 D3 => zck (v4 + (1 : Int32)) nS <| (fn_X12_cover (w (v4 + (1 : Int32)).toNatClampNeg) D3).bind fun q5 => (fn_X12_thrown q5.2).bind fun x6 => (if x6 = x2 then ((if x2 = 0 then ((if (lg_cmp (gL q5.2 206 0) (q5.1).toInt64) = 0 then ((k q5.2)) else ((some ((0 : Int32), 0, q5.2))))) else ((k q5.2)))) else ((some ((0 : Int32), 0, q5.2))))
theorem lc_8 {X : zX} {d : Nat} {w : Nat → Int32} {nS : Nat} (hst : (zl X).stackTraces = false) (hs : zScr X nS w) (hd : 146 ≤ d) {k : zD → Option (Int32 × Nat × zD)} {v4 : Int32} (hk : ∀ (Sh : zSh) (D : zD), zSh0 Sh → Rn X m_L_law (d + 1) 2076 [(0, .ref 1006000), (1, .ref 0), (2, .ref 102), (3, .ref 206), (4, .int v4)] [] (Sh, D) (oW Sh (k D))) {Sh : zSh} (h0 : zSh0 Sh) {D : zD} : Rn X m_L_law (d + 1) 646 [(0, .ref 1006000), (1, .ref 0), (2, .ref 102), (3, .ref 206), (4, .int v4)] [] (Sh, D) (oW Sh (fc_8 w nS k v4 D)) := by
  unfold fc_8
  refine r_aload_n (pc := 646) 1 d_L_law_646 rfl rfl ?_
  refine r_aload_n (pc := 647) 0 d_L_law_647 rfl rfl ?_
  refine r_iload (pc := 648) 4 d_L_law_648 rfl ?_
  refine r_iconst (pc := 650) (1 : Int32) d_L_law_650 rfl ?_
  refine r_iadd (pc := 651) d_L_law_651 ?_
  refine r_ck (f := (oW Sh)) rfl (fun hc1 => ?_)
  refine r_scr (pc := 652) (j := (v4 + (1 : Int32)).toNatClampNeg) hs hc1 rfl d_L_law_652 ?_
  refine r_aload_n (pc := 653) 3 d_L_law_653 rfl rfl ?_
  refine q_cW (av := [.ref 0, .int (w (v4 + (1 : Int32)).toNatClampNeg), .ref 206]) (st := []) h0 (z_runSX ck_L_cover rfl ml_L_128 cs_L_cover rfl (Nat.le_of_ble_eq_true rfl) d_L_law_654) (w_L_cover hst h0 (by omega)) (fun x2 Sh D3 h0 => ?_)
  refine r_istore (pc := 657) (ls' := [(5, .int x2), (0, .ref 1006000), (1, .ref 0), (2, .ref 102), (3, .ref 206), (4, .int v4)]) d_L_law_657 (Nat.le_of_ble_eq_true rfl) rfl ?_
  refine r_aload_n (pc := 659) 3 d_L_law_659 rfl rfl ?_
  refine r_aload_n (pc := 660) 1 d_L_law_660 rfl rfl ?_
  refine r_iload (pc := 661) 5 d_L_law_661 rfl ?_
  refine r_iconst (pc := 663) (1 : Int32) d_L_law_663 rfl ?_
  refine r_iadd (pc := 664) d_L_law_664 ?_
  refine r_ck (f := (oW Sh)) rfl (fun hc4 => ?_)
  refine r_scr (pc := 665) (j := (v4 + (1 : Int32)).toNatClampNeg) hs hc4 rfl d_L_law_665 ?_
  refine q_cI (f := (oW Sh)) (av := [.ref 102, .int (w (v4 + (1 : Int32)).toNatClampNeg)]) (st := []) (z_runV ck_X12_cover rfl ml_L_130 ci_X12_cover cv_X12_cover (K_102 h0) (ci := 12) rfl rfl (Nat.le_of_ble_eq_true rfl) d_L_law_666) (s_X12_cover hst h0 (by omega)) kp_W (fun q5 _ => ?_)
  refine r_istore (pc := 669) (ls' := [(6, .int q5.1), (5, .int x2), (0, .ref 1006000), (1, .ref 0), (2, .ref 102), (3, .ref 206), (4, .int v4)]) d_L_law_669 (Nat.le_of_ble_eq_true rfl) rfl ?_
  refine r_aload_n (pc := 671) 4 d_L_law_671 rfl rfl ?_
  refine q_cP (f := (oW Sh)) (av := [.ref 102]) (st := []) (z_runV ck_X12_thrown rfl ml_L_104 ci_X12_thrown cv_X12_thrown (K_102 h0) (ci := 12) rfl rfl (Nat.le_of_ble_eq_true rfl) d_L_law_672) (s_X12_thrown hst h0 (by omega)) kp_W (fun x6 _ => ?_)
  refine r_iload (pc := 675) 1 d_L_law_675 rfl ?_
  refine r_icmp_eq (f := (oW Sh)) (pc := 677) 682 d_L_law_677 (by decide) (fun c7 => ?_) (fun c7 => ?_)
  · refine r_iload (pc := 682) 1 d_L_law_682 rfl ?_
    refine r_if_ne (f := (oW Sh)) (pc := 684) 699 d_L_law_684 (by decide) (fun c8 => ?_) (fun c8 => ?_)
    · refine r_goto (pc := 699) 2076 d_L_law_699 (by decide) ?_
      refine r_pick [2, 3, 4, 5, 6] (ls' := [(0, .ref 1006000), (1, .ref 0), (2, .ref 102), (3, .ref 206), (4, .int v4)]) rfl ?_
      exact hk Sh q5.2 h0
    · refine r_aload_n (pc := 687) 5 d_L_law_687 rfl rfl ?_
      refine r_iconst (pc := 688) (0 : Int32) d_L_law_688 rfl ?_
      refine q_lald (pc := 689) (j := 0) (K_206 h0) (by unfold vp_in; decide) rfl d_L_law_689 ?_
      refine r_iload (pc := 690) 0 d_L_law_690 rfl ?_
      refine r_i2l (pc := 692) d_L_law_692 ?_
      refine r_lcmp (pc := 693) d_L_law_693 ?_
      refine r_if_eq (f := (oW Sh)) (pc := 694) 699 d_L_law_694 (by decide) (fun c9 => ?_) (fun c9 => ?_)
      · refine r_goto (pc := 699) 2076 d_L_law_699 (by decide) ?_
        refine r_pick [2, 3, 4, 5, 6] (ls' := [(0, .ref 1006000), (1, .ref 0), (2, .ref 102), (3, .ref 206), (4, .int v4)]) rfl ?_
        exact hk Sh q5.2 h0
      · refine r_iconst (pc := 697) (0 : Int32) d_L_law_697 rfl ?_
        exact r_zret (pc := 698) rfl (by decide) d_L_law_698
  · refine r_iconst (pc := 680) (0 : Int32) d_L_law_680 rfl ?_
    exact r_zret (pc := 681) rfl (by decide) d_L_law_681
def fc_9 (w : Nat → Int32) (nS : Nat) (k : zD → Option (Int32 × Nat × zD)) (v4 : Int32) (D : zD) : Option (Int32 × Nat × zD) := zck (v4 + (1 : Int32)) nS <| fwA (fw_L_dirt (w (v4 + (1 : Int32)).toNatClampNeg) D) fun x2 D3 => zck (v4 + (1 : Int32)) nS <| (fn_X12_dirt (w (v4 + (1 : Int32)).toNatClampNeg) D3).bind fun q5 => (fn_X12_thrown q5.2).bind fun x6 => (if x6 = x2 then ((if x2 = 0 then ((if (lg_cmp (gL q5.2 206 0) (q5.1).toInt64) = 0 then ((k q5.2)) else ((some ((0 : Int32), 0, q5.2))))) else ((k q5.2)))) else ((some ((0 : Int32), 0, q5.2))))
theorem lc_9 {X : zX} {d : Nat} {w : Nat → Int32} {nS : Nat} (hst : (zl X).stackTraces = false) (hs : zScr X nS w) (hd : 146 ≤ d) {k : zD → Option (Int32 × Nat × zD)} {v4 : Int32} (hk : ∀ (Sh : zSh) (D : zD), zSh0 Sh → Rn X m_L_law (d + 1) 2076 [(0, .ref 1006000), (1, .ref 0), (2, .ref 102), (3, .ref 206), (4, .int v4)] [] (Sh, D) (oW Sh (k D))) {Sh : zSh} (h0 : zSh0 Sh) {D : zD} : Rn X m_L_law (d + 1) 702 [(0, .ref 1006000), (1, .ref 0), (2, .ref 102), (3, .ref 206), (4, .int v4)] [] (Sh, D) (oW Sh (fc_9 w nS k v4 D)) := by
  unfold fc_9
  refine r_aload_n (pc := 702) 1 d_L_law_702 rfl rfl ?_
  refine r_aload_n (pc := 703) 0 d_L_law_703 rfl rfl ?_
  refine r_iload (pc := 704) 4 d_L_law_704 rfl ?_
  refine r_iconst (pc := 706) (1 : Int32) d_L_law_706 rfl ?_
  refine r_iadd (pc := 707) d_L_law_707 ?_
  refine r_ck (f := (oW Sh)) rfl (fun hc1 => ?_)
  refine r_scr (pc := 708) (j := (v4 + (1 : Int32)).toNatClampNeg) hs hc1 rfl d_L_law_708 ?_
  refine r_aload_n (pc := 709) 3 d_L_law_709 rfl rfl ?_
  refine q_cW (av := [.ref 0, .int (w (v4 + (1 : Int32)).toNatClampNeg), .ref 206]) (st := []) h0 (z_runSX ck_L_dirt rfl ml_L_131 cs_L_dirt rfl (Nat.le_of_ble_eq_true rfl) d_L_law_710) (w_L_dirt hst h0 (by omega)) (fun x2 Sh D3 h0 => ?_)
  refine r_istore (pc := 713) (ls' := [(5, .int x2), (0, .ref 1006000), (1, .ref 0), (2, .ref 102), (3, .ref 206), (4, .int v4)]) d_L_law_713 (Nat.le_of_ble_eq_true rfl) rfl ?_
  refine r_aload_n (pc := 715) 3 d_L_law_715 rfl rfl ?_
  refine r_aload_n (pc := 716) 1 d_L_law_716 rfl rfl ?_
  refine r_iload (pc := 717) 5 d_L_law_717 rfl ?_
  refine r_iconst (pc := 719) (1 : Int32) d_L_law_719 rfl ?_
  refine r_iadd (pc := 720) d_L_law_720 ?_
  refine r_ck (f := (oW Sh)) rfl (fun hc4 => ?_)
  refine r_scr (pc := 721) (j := (v4 + (1 : Int32)).toNatClampNeg) hs hc4 rfl d_L_law_721 ?_
  refine q_cI (f := (oW Sh)) (av := [.ref 102, .int (w (v4 + (1 : Int32)).toNatClampNeg)]) (st := []) (z_runV ck_X12_dirt rfl ml_L_133 ci_X12_dirt cv_X12_dirt (K_102 h0) (ci := 12) rfl rfl (Nat.le_of_ble_eq_true rfl) d_L_law_722) (s_X12_dirt hst h0 (by omega)) kp_W (fun q5 _ => ?_)
  refine r_istore (pc := 725) (ls' := [(6, .int q5.1), (5, .int x2), (0, .ref 1006000), (1, .ref 0), (2, .ref 102), (3, .ref 206), (4, .int v4)]) d_L_law_725 (Nat.le_of_ble_eq_true rfl) rfl ?_
  refine r_aload_n (pc := 727) 4 d_L_law_727 rfl rfl ?_
  refine q_cP (f := (oW Sh)) (av := [.ref 102]) (st := []) (z_runV ck_X12_thrown rfl ml_L_104 ci_X12_thrown cv_X12_thrown (K_102 h0) (ci := 12) rfl rfl (Nat.le_of_ble_eq_true rfl) d_L_law_728) (s_X12_thrown hst h0 (by omega)) kp_W (fun x6 _ => ?_)
  refine r_iload (pc := 731) 1 d_L_law_731 rfl ?_
  refine r_icmp_eq (f := (oW Sh)) (pc := 733) 738 d_L_law_733 (by decide) (fun c7 => ?_) (fun c7 => ?_)
  · refine r_iload (pc := 738) 1 d_L_law_738 rfl ?_
    refine r_if_ne (f := (oW Sh)) (pc := 740) 755 d_L_law_740 (by decide) (fun c8 => ?_) (fun c8 => ?_)
    · refine r_goto (pc := 755) 2076 d_L_law_755 (by decide) ?_
      refine r_pick [2, 3, 4, 5, 6] (ls' := [(0, .ref 1006000), (1, .ref 0), (2, .ref 102), (3, .ref 206), (4, .int v4)]) rfl ?_
      exact hk Sh q5.2 h0
    · refine r_aload_n (pc := 743) 5 d_L_law_743 rfl rfl ?_
      refine r_iconst (pc := 744) (0 : Int32) d_L_law_744 rfl ?_
      refine q_lald (pc := 745) (j := 0) (K_206 h0) (by unfold vp_in; decide) rfl d_L_law_745 ?_
      refine r_iload (pc := 746) 0 d_L_law_746 rfl ?_
      refine r_i2l (pc := 748) d_L_law_748 ?_
      refine r_lcmp (pc := 749) d_L_law_749 ?_
      refine r_if_eq (f := (oW Sh)) (pc := 750) 755 d_L_law_750 (by decide) (fun c9 => ?_) (fun c9 => ?_)
      · refine r_goto (pc := 755) 2076 d_L_law_755 (by decide) ?_
        refine r_pick [2, 3, 4, 5, 6] (ls' := [(0, .ref 1006000), (1, .ref 0), (2, .ref 102), (3, .ref 206), (4, .int v4)]) rfl ?_
        exact hk Sh q5.2 h0
      · refine r_iconst (pc := 753) (0 : Int32) d_L_law_753 rfl ?_
        exact r_zret (pc := 754) rfl (by decide) d_L_law_754
  · refine r_iconst (pc := 736) (0 : Int32) d_L_law_736 rfl ?_
    exact r_zret (pc := 737) rfl (by decide) d_L_law_737
def fc_10 (w : Nat → Int32) (nS : Nat) (k : zD → Option (Int32 × Nat × zD)) (v4 : Int32) (D : zD) : Option (Int32 × Nat × zD) := zck (v4 + (1 : Int32)) nS <| zck (v4 + (2 : Int32)) nS <| fwA (fw_L_confused (w (v4 + (1 : Int32)).toNatClampNeg) (w (v4 + (2 : Int32)).toNatClampNeg) D) fun x3 D4 => zck (v4 + (1 : Int32)) nS <| zck (v4 + (2 : Int32)) nS <| (fn_X12_confused (w (v4 + (1 : Int32)).toNatClampNeg) (w (v4 + (2 : Int32)).toNatClampNeg) D4).bind fun q7 => (fn_X12_thrown q7.2).bind fun x8 => (if x8 = x3 then ((if x3 = 0 then ((if (lg_cmp (gL q7.2 206 0) (q7.1).toInt64) = 0 then ((k q7.2)) else ((some ((0 : Int32), 0, q7.2))))) else ((k q7.2)))) else ((some ((0 : Int32), 0, q7.2))))
theorem lc_10 {X : zX} {d : Nat} {w : Nat → Int32} {nS : Nat} (hst : (zl X).stackTraces = false) (hs : zScr X nS w) (hd : 146 ≤ d) {k : zD → Option (Int32 × Nat × zD)} {v4 : Int32} (hk : ∀ (Sh : zSh) (D : zD), zSh0 Sh → Rn X m_L_law (d + 1) 2076 [(0, .ref 1006000), (1, .ref 0), (2, .ref 102), (3, .ref 206), (4, .int v4)] [] (Sh, D) (oW Sh (k D))) {Sh : zSh} (h0 : zSh0 Sh) {D : zD} : Rn X m_L_law (d + 1) 758 [(0, .ref 1006000), (1, .ref 0), (2, .ref 102), (3, .ref 206), (4, .int v4)] [] (Sh, D) (oW Sh (fc_10 w nS k v4 D)) := by
  unfold fc_10
  refine r_aload_n (pc := 758) 1 d_L_law_758 rfl rfl ?_
  refine r_aload_n (pc := 759) 0 d_L_law_759 rfl rfl ?_
  refine r_iload (pc := 760) 4 d_L_law_760 rfl ?_
  refine r_iconst (pc := 762) (1 : Int32) d_L_law_762 rfl ?_
  refine r_iadd (pc := 763) d_L_law_763 ?_
  refine r_ck (f := (oW Sh)) rfl (fun hc1 => ?_)
  refine r_scr (pc := 764) (j := (v4 + (1 : Int32)).toNatClampNeg) hs hc1 rfl d_L_law_764 ?_
  refine r_aload_n (pc := 765) 0 d_L_law_765 rfl rfl ?_
  refine r_iload (pc := 766) 4 d_L_law_766 rfl ?_
  refine r_iconst (pc := 768) (2 : Int32) d_L_law_768 rfl ?_
  refine r_iadd (pc := 769) d_L_law_769 ?_
  refine r_ck (f := (oW Sh)) rfl (fun hc2 => ?_)
  refine r_scr (pc := 770) (j := (v4 + (2 : Int32)).toNatClampNeg) hs hc2 rfl d_L_law_770 ?_
  refine r_aload_n (pc := 771) 3 d_L_law_771 rfl rfl ?_
  refine q_cW (av := [.ref 0, .int (w (v4 + (1 : Int32)).toNatClampNeg), .int (w (v4 + (2 : Int32)).toNatClampNeg), .ref 206]) (st := []) h0 (z_runSX ck_L_confused rfl ml_L_134 cs_L_confused rfl (Nat.le_of_ble_eq_true rfl) d_L_law_772) (w_L_confused hst h0 (by omega)) (fun x3 Sh D4 h0 => ?_)
  refine r_istore (pc := 775) (ls' := [(5, .int x3), (0, .ref 1006000), (1, .ref 0), (2, .ref 102), (3, .ref 206), (4, .int v4)]) d_L_law_775 (Nat.le_of_ble_eq_true rfl) rfl ?_
  refine r_aload_n (pc := 777) 3 d_L_law_777 rfl rfl ?_
  refine r_aload_n (pc := 778) 1 d_L_law_778 rfl rfl ?_
  refine r_iload (pc := 779) 5 d_L_law_779 rfl ?_
  refine r_iconst (pc := 781) (1 : Int32) d_L_law_781 rfl ?_
  refine r_iadd (pc := 782) d_L_law_782 ?_
  refine r_ck (f := (oW Sh)) rfl (fun hc5 => ?_)
  refine r_scr (pc := 783) (j := (v4 + (1 : Int32)).toNatClampNeg) hs hc5 rfl d_L_law_783 ?_
  refine r_aload_n (pc := 784) 1 d_L_law_784 rfl rfl ?_
  refine r_iload (pc := 785) 5 d_L_law_785 rfl ?_
  refine r_iconst (pc := 787) (2 : Int32) d_L_law_787 rfl ?_
  refine r_iadd (pc := 788) d_L_law_788 ?_
  refine r_ck (f := (oW Sh)) rfl (fun hc6 => ?_)
  refine r_scr (pc := 789) (j := (v4 + (2 : Int32)).toNatClampNeg) hs hc6 rfl d_L_law_789 ?_
  refine q_cI (f := (oW Sh)) (av := [.ref 102, .int (w (v4 + (1 : Int32)).toNatClampNeg), .int (w (v4 + (2 : Int32)).toNatClampNeg)]) (st := []) (z_runV ck_X12_confused rfl ml_L_136 ci_X12_confused cv_X12_confused (K_102 h0) (ci := 12) rfl rfl (Nat.le_of_ble_eq_true rfl) d_L_law_790) (s_X12_confused hst h0 (by omega)) kp_W (fun q7 _ => ?_)
  refine r_istore (pc := 793) (ls' := [(6, .int q7.1), (5, .int x3), (0, .ref 1006000), (1, .ref 0), (2, .ref 102), (3, .ref 206), (4, .int v4)]) d_L_law_793 (Nat.le_of_ble_eq_true rfl) rfl ?_
  refine r_aload_n (pc := 795) 4 d_L_law_795 rfl rfl ?_
  refine q_cP (f := (oW Sh)) (av := [.ref 102]) (st := []) (z_runV ck_X12_thrown rfl ml_L_104 ci_X12_thrown cv_X12_thrown (K_102 h0) (ci := 12) rfl rfl (Nat.le_of_ble_eq_true rfl) d_L_law_796) (s_X12_thrown hst h0 (by omega)) kp_W (fun x8 _ => ?_)
  refine r_iload (pc := 799) 1 d_L_law_799 rfl ?_
  refine r_icmp_eq (f := (oW Sh)) (pc := 801) 806 d_L_law_801 (by decide) (fun c9 => ?_) (fun c9 => ?_)
  · refine r_iload (pc := 806) 1 d_L_law_806 rfl ?_
    refine r_if_ne (f := (oW Sh)) (pc := 808) 823 d_L_law_808 (by decide) (fun c10 => ?_) (fun c10 => ?_)
    · refine r_goto (pc := 823) 2076 d_L_law_823 (by decide) ?_
      refine r_pick [2, 3, 4, 5, 6] (ls' := [(0, .ref 1006000), (1, .ref 0), (2, .ref 102), (3, .ref 206), (4, .int v4)]) rfl ?_
      exact hk Sh q7.2 h0
    · refine r_aload_n (pc := 811) 5 d_L_law_811 rfl rfl ?_
      refine r_iconst (pc := 812) (0 : Int32) d_L_law_812 rfl ?_
      refine q_lald (pc := 813) (j := 0) (K_206 h0) (by unfold vp_in; decide) rfl d_L_law_813 ?_
      refine r_iload (pc := 814) 0 d_L_law_814 rfl ?_
      refine r_i2l (pc := 816) d_L_law_816 ?_
      refine r_lcmp (pc := 817) d_L_law_817 ?_
      refine r_if_eq (f := (oW Sh)) (pc := 818) 823 d_L_law_818 (by decide) (fun c11 => ?_) (fun c11 => ?_)
      · refine r_goto (pc := 823) 2076 d_L_law_823 (by decide) ?_
        refine r_pick [2, 3, 4, 5, 6] (ls' := [(0, .ref 1006000), (1, .ref 0), (2, .ref 102), (3, .ref 206), (4, .int v4)]) rfl ?_
        exact hk Sh q7.2 h0
      · refine r_iconst (pc := 821) (0 : Int32) d_L_law_821 rfl ?_
        exact r_zret (pc := 822) rfl (by decide) d_L_law_822
  · refine r_iconst (pc := 804) (0 : Int32) d_L_law_804 rfl ?_
    exact r_zret (pc := 805) rfl (by decide) d_L_law_805
def fc_11 (w : Nat → Int32) (nS : Nat) (k : zD → Option (Int32 × Nat × zD)) (v4 : Int32) (D : zD) : Option (Int32 × Nat × zD) := (fn_X11_confusions D).bind fun q1 => (fn_X12_confusions q1.2).bind fun q2 => (if q1.1 = q2.1 then ((k q2.2)) else ((some ((0 : Int32), 0, q2.2))))
theorem lc_11 {X : zX} {d : Nat} {w : Nat → Int32} {nS : Nat} (hst : (zl X).stackTraces = false) (hs : zScr X nS w) (hd : 146 ≤ d) {k : zD → Option (Int32 × Nat × zD)} {v4 : Int32} (hk : ∀ (Sh : zSh) (D : zD), zSh0 Sh → Rn X m_L_law (d + 1) 2076 [(0, .ref 1006000), (1, .ref 0), (2, .ref 102), (3, .ref 206), (4, .int v4)] [] (Sh, D) (oW Sh (k D))) {Sh : zSh} (h0 : zSh0 Sh) {D : zD} : Rn X m_L_law (d + 1) 826 [(0, .ref 1006000), (1, .ref 0), (2, .ref 102), (3, .ref 206), (4, .int v4)] [] (Sh, D) (oW Sh (fc_11 w nS k v4 D)) := by
  unfold fc_11
  refine r_aload_n (pc := 826) 1 d_L_law_826 rfl rfl ?_
  refine q_cI (f := (oW Sh)) (av := [.ref 0]) (st := []) (z_runV ck_X11_confusions rfl ml_L_137 ci_X11_confusions cv_X11_confusions (K_0 h0) (ci := 11) rfl rfl (Nat.le_of_ble_eq_true rfl) d_L_law_827) (s_X11_confusions hst h0 (by omega)) kp_W (fun q1 _ => ?_)
  refine r_aload_n (pc := 830) 2 d_L_law_830 rfl rfl ?_
  refine q_cI (f := (oW Sh)) (av := [.ref 102]) (st := [.int q1.1]) (z_runV ck_X12_confusions rfl ml_L_140 ci_X12_confusions cv_X12_confusions (K_102 h0) (ci := 12) rfl rfl (Nat.le_of_ble_eq_true rfl) d_L_law_831) (s_X12_confusions hst h0 (by omega)) kp_W (fun q2 _ => ?_)
  refine r_icmp_eq (f := (oW Sh)) (pc := 834) 2076 d_L_law_834 (by decide) (fun c3 => ?_) (fun c3 => ?_)
  · refine r_pick [0, 1, 2, 3, 4] (ls' := [(0, .ref 1006000), (1, .ref 0), (2, .ref 102), (3, .ref 206), (4, .int v4)]) rfl ?_
    exact hk Sh q2.2 h0
  · refine r_iconst (pc := 837) (0 : Int32) d_L_law_837 rfl ?_
    exact r_zret (pc := 838) rfl (by decide) d_L_law_838
def fc_12 (w : Nat → Int32) (nS : Nat) (k : zD → Option (Int32 × Nat × zD)) (v4 : Int32) (D : zD) : Option (Int32 × Nat × zD) := zck (v4 + (1 : Int32)) nS <| fwA (fw_L_blind (w (v4 + (1 : Int32)).toNatClampNeg) D) fun x2 D3 => zck (v4 + (1 : Int32)) nS <| (fn_X12_blind (w (v4 + (1 : Int32)).toNatClampNeg) D3).bind fun q5 => (fn_X12_thrown q5.2).bind fun x6 => (if x6 = x2 then ((if x2 = 0 then ((if (lg_cmp (gL q5.2 206 0) (q5.1).toInt64) = 0 then ((k q5.2)) else ((some ((0 : Int32), 0, q5.2))))) else ((k q5.2)))) else ((some ((0 : Int32), 0, q5.2))))
theorem lc_12 {X : zX} {d : Nat} {w : Nat → Int32} {nS : Nat} (hst : (zl X).stackTraces = false) (hs : zScr X nS w) (hd : 146 ≤ d) {k : zD → Option (Int32 × Nat × zD)} {v4 : Int32} (hk : ∀ (Sh : zSh) (D : zD), zSh0 Sh → Rn X m_L_law (d + 1) 2076 [(0, .ref 1006000), (1, .ref 0), (2, .ref 102), (3, .ref 206), (4, .int v4)] [] (Sh, D) (oW Sh (k D))) {Sh : zSh} (h0 : zSh0 Sh) {D : zD} : Rn X m_L_law (d + 1) 839 [(0, .ref 1006000), (1, .ref 0), (2, .ref 102), (3, .ref 206), (4, .int v4)] [] (Sh, D) (oW Sh (fc_12 w nS k v4 D)) := by
  unfold fc_12
  refine r_aload_n (pc := 839) 1 d_L_law_839 rfl rfl ?_
  refine r_aload_n (pc := 840) 0 d_L_law_840 rfl rfl ?_
  refine r_iload (pc := 841) 4 d_L_law_841 rfl ?_
  refine r_iconst (pc := 843) (1 : Int32) d_L_law_843 rfl ?_
  refine r_iadd (pc := 844) d_L_law_844 ?_
  refine r_ck (f := (oW Sh)) rfl (fun hc1 => ?_)
  refine r_scr (pc := 845) (j := (v4 + (1 : Int32)).toNatClampNeg) hs hc1 rfl d_L_law_845 ?_
  refine r_aload_n (pc := 846) 3 d_L_law_846 rfl rfl ?_
  refine q_cW (av := [.ref 0, .int (w (v4 + (1 : Int32)).toNatClampNeg), .ref 206]) (st := []) h0 (z_runSX ck_L_blind rfl ml_L_141 cs_L_blind rfl (Nat.le_of_ble_eq_true rfl) d_L_law_847) (w_L_blind hst h0 (by omega)) (fun x2 Sh D3 h0 => ?_)
  refine r_istore (pc := 850) (ls' := [(5, .int x2), (0, .ref 1006000), (1, .ref 0), (2, .ref 102), (3, .ref 206), (4, .int v4)]) d_L_law_850 (Nat.le_of_ble_eq_true rfl) rfl ?_
  refine r_aload_n (pc := 852) 3 d_L_law_852 rfl rfl ?_
  refine r_aload_n (pc := 853) 1 d_L_law_853 rfl rfl ?_
  refine r_iload (pc := 854) 5 d_L_law_854 rfl ?_
  refine r_iconst (pc := 856) (1 : Int32) d_L_law_856 rfl ?_
  refine r_iadd (pc := 857) d_L_law_857 ?_
  refine r_ck (f := (oW Sh)) rfl (fun hc4 => ?_)
  refine r_scr (pc := 858) (j := (v4 + (1 : Int32)).toNatClampNeg) hs hc4 rfl d_L_law_858 ?_
  refine q_cI (f := (oW Sh)) (av := [.ref 102, .int (w (v4 + (1 : Int32)).toNatClampNeg)]) (st := []) (z_runV ck_X12_blind rfl ml_L_143 ci_X12_blind cv_X12_blind (K_102 h0) (ci := 12) rfl rfl (Nat.le_of_ble_eq_true rfl) d_L_law_859) (s_X12_blind hst h0 (by omega)) kp_W (fun q5 _ => ?_)
  refine r_istore (pc := 862) (ls' := [(6, .int q5.1), (5, .int x2), (0, .ref 1006000), (1, .ref 0), (2, .ref 102), (3, .ref 206), (4, .int v4)]) d_L_law_862 (Nat.le_of_ble_eq_true rfl) rfl ?_
  refine r_aload_n (pc := 864) 4 d_L_law_864 rfl rfl ?_
  refine q_cP (f := (oW Sh)) (av := [.ref 102]) (st := []) (z_runV ck_X12_thrown rfl ml_L_104 ci_X12_thrown cv_X12_thrown (K_102 h0) (ci := 12) rfl rfl (Nat.le_of_ble_eq_true rfl) d_L_law_865) (s_X12_thrown hst h0 (by omega)) kp_W (fun x6 _ => ?_)
  refine r_iload (pc := 868) 1 d_L_law_868 rfl ?_
  refine r_icmp_eq (f := (oW Sh)) (pc := 870) 875 d_L_law_870 (by decide) (fun c7 => ?_) (fun c7 => ?_)
  · refine r_iload (pc := 875) 1 d_L_law_875 rfl ?_
    refine r_if_ne (f := (oW Sh)) (pc := 877) 892 d_L_law_877 (by decide) (fun c8 => ?_) (fun c8 => ?_)
    · refine r_goto (pc := 892) 2076 d_L_law_892 (by decide) ?_
      refine r_pick [2, 3, 4, 5, 6] (ls' := [(0, .ref 1006000), (1, .ref 0), (2, .ref 102), (3, .ref 206), (4, .int v4)]) rfl ?_
      exact hk Sh q5.2 h0
    · refine r_aload_n (pc := 880) 5 d_L_law_880 rfl rfl ?_
      refine r_iconst (pc := 881) (0 : Int32) d_L_law_881 rfl ?_
      refine q_lald (pc := 882) (j := 0) (K_206 h0) (by unfold vp_in; decide) rfl d_L_law_882 ?_
      refine r_iload (pc := 883) 0 d_L_law_883 rfl ?_
      refine r_i2l (pc := 885) d_L_law_885 ?_
      refine r_lcmp (pc := 886) d_L_law_886 ?_
      refine r_if_eq (f := (oW Sh)) (pc := 887) 892 d_L_law_887 (by decide) (fun c9 => ?_) (fun c9 => ?_)
      · refine r_goto (pc := 892) 2076 d_L_law_892 (by decide) ?_
        refine r_pick [2, 3, 4, 5, 6] (ls' := [(0, .ref 1006000), (1, .ref 0), (2, .ref 102), (3, .ref 206), (4, .int v4)]) rfl ?_
        exact hk Sh q5.2 h0
      · refine r_iconst (pc := 890) (0 : Int32) d_L_law_890 rfl ?_
        exact r_zret (pc := 891) rfl (by decide) d_L_law_891
  · refine r_iconst (pc := 873) (0 : Int32) d_L_law_873 rfl ?_
    exact r_zret (pc := 874) rfl (by decide) d_L_law_874
def fc_13 (w : Nat → Int32) (nS : Nat) (k : zD → Option (Int32 × Nat × zD)) (v4 : Int32) (D : zD) : Option (Int32 × Nat × zD) := zck (v4 + (1 : Int32)) nS <| zck (v4 + (2 : Int32)) nS <| fwA (fw_L_may (w (v4 + (1 : Int32)).toNatClampNeg) (w (v4 + (2 : Int32)).toNatClampNeg) D) fun x3 D4 => zck (v4 + (1 : Int32)) nS <| zck (v4 + (2 : Int32)) nS <| (fn_X12_may (w (v4 + (1 : Int32)).toNatClampNeg) (w (v4 + (2 : Int32)).toNatClampNeg) D4).bind fun q7 => (fn_X12_thrown q7.2).bind fun x8 => (if x8 = x3 then ((if x3 = 0 then ((if (lg_cmp (gL q7.2 206 0) (q7.1).toInt64) = 0 then ((k q7.2)) else ((some ((0 : Int32), 0, q7.2))))) else ((k q7.2)))) else ((some ((0 : Int32), 0, q7.2))))
theorem lc_13 {X : zX} {d : Nat} {w : Nat → Int32} {nS : Nat} (hst : (zl X).stackTraces = false) (hs : zScr X nS w) (hd : 146 ≤ d) {k : zD → Option (Int32 × Nat × zD)} {v4 : Int32} (hk : ∀ (Sh : zSh) (D : zD), zSh0 Sh → Rn X m_L_law (d + 1) 2076 [(0, .ref 1006000), (1, .ref 0), (2, .ref 102), (3, .ref 206), (4, .int v4)] [] (Sh, D) (oW Sh (k D))) {Sh : zSh} (h0 : zSh0 Sh) {D : zD} : Rn X m_L_law (d + 1) 895 [(0, .ref 1006000), (1, .ref 0), (2, .ref 102), (3, .ref 206), (4, .int v4)] [] (Sh, D) (oW Sh (fc_13 w nS k v4 D)) := by
  unfold fc_13
  refine r_aload_n (pc := 895) 1 d_L_law_895 rfl rfl ?_
  refine r_aload_n (pc := 896) 0 d_L_law_896 rfl rfl ?_
  refine r_iload (pc := 897) 4 d_L_law_897 rfl ?_
  refine r_iconst (pc := 899) (1 : Int32) d_L_law_899 rfl ?_
  refine r_iadd (pc := 900) d_L_law_900 ?_
  refine r_ck (f := (oW Sh)) rfl (fun hc1 => ?_)
  refine r_scr (pc := 901) (j := (v4 + (1 : Int32)).toNatClampNeg) hs hc1 rfl d_L_law_901 ?_
  refine r_aload_n (pc := 902) 0 d_L_law_902 rfl rfl ?_
  refine r_iload (pc := 903) 4 d_L_law_903 rfl ?_
  refine r_iconst (pc := 905) (2 : Int32) d_L_law_905 rfl ?_
  refine r_iadd (pc := 906) d_L_law_906 ?_
  refine r_ck (f := (oW Sh)) rfl (fun hc2 => ?_)
  refine r_scr (pc := 907) (j := (v4 + (2 : Int32)).toNatClampNeg) hs hc2 rfl d_L_law_907 ?_
  refine r_aload_n (pc := 908) 3 d_L_law_908 rfl rfl ?_
  refine q_cW (av := [.ref 0, .int (w (v4 + (1 : Int32)).toNatClampNeg), .int (w (v4 + (2 : Int32)).toNatClampNeg), .ref 206]) (st := []) h0 (z_runSX ck_L_may rfl ml_L_144 cs_L_may rfl (Nat.le_of_ble_eq_true rfl) d_L_law_909) (w_L_may hst h0 (by omega)) (fun x3 Sh D4 h0 => ?_)
  refine r_istore (pc := 912) (ls' := [(5, .int x3), (0, .ref 1006000), (1, .ref 0), (2, .ref 102), (3, .ref 206), (4, .int v4)]) d_L_law_912 (Nat.le_of_ble_eq_true rfl) rfl ?_
  refine r_aload_n (pc := 914) 3 d_L_law_914 rfl rfl ?_
  refine r_aload_n (pc := 915) 1 d_L_law_915 rfl rfl ?_
  refine r_iload (pc := 916) 5 d_L_law_916 rfl ?_
  refine r_iconst (pc := 918) (1 : Int32) d_L_law_918 rfl ?_
  refine r_iadd (pc := 919) d_L_law_919 ?_
  refine r_ck (f := (oW Sh)) rfl (fun hc5 => ?_)
  refine r_scr (pc := 920) (j := (v4 + (1 : Int32)).toNatClampNeg) hs hc5 rfl d_L_law_920 ?_
  refine r_aload_n (pc := 921) 1 d_L_law_921 rfl rfl ?_
  refine r_iload (pc := 922) 5 d_L_law_922 rfl ?_
  refine r_iconst (pc := 924) (2 : Int32) d_L_law_924 rfl ?_
  refine r_iadd (pc := 925) d_L_law_925 ?_
  refine r_ck (f := (oW Sh)) rfl (fun hc6 => ?_)
  refine r_scr (pc := 926) (j := (v4 + (2 : Int32)).toNatClampNeg) hs hc6 rfl d_L_law_926 ?_
  refine q_cI (f := (oW Sh)) (av := [.ref 102, .int (w (v4 + (1 : Int32)).toNatClampNeg), .int (w (v4 + (2 : Int32)).toNatClampNeg)]) (st := []) (z_runV ck_X12_may rfl ml_L_146 ci_X12_may cv_X12_may (K_102 h0) (ci := 12) rfl rfl (Nat.le_of_ble_eq_true rfl) d_L_law_927) (s_X12_may hst h0 (by omega)) kp_W (fun q7 _ => ?_)
  refine r_istore (pc := 930) (ls' := [(6, .int q7.1), (5, .int x3), (0, .ref 1006000), (1, .ref 0), (2, .ref 102), (3, .ref 206), (4, .int v4)]) d_L_law_930 (Nat.le_of_ble_eq_true rfl) rfl ?_
  refine r_aload_n (pc := 932) 4 d_L_law_932 rfl rfl ?_
  refine q_cP (f := (oW Sh)) (av := [.ref 102]) (st := []) (z_runV ck_X12_thrown rfl ml_L_104 ci_X12_thrown cv_X12_thrown (K_102 h0) (ci := 12) rfl rfl (Nat.le_of_ble_eq_true rfl) d_L_law_933) (s_X12_thrown hst h0 (by omega)) kp_W (fun x8 _ => ?_)
  refine r_iload (pc := 936) 1 d_L_law_936 rfl ?_
  refine r_icmp_eq (f := (oW Sh)) (pc := 938) 943 d_L_law_938 (by decide) (fun c9 => ?_) (fun c9 => ?_)
  · refine r_iload (pc := 943) 1 d_L_law_943 rfl ?_
    refine r_if_ne (f := (oW Sh)) (pc := 945) 960 d_L_law_945 (by decide) (fun c10 => ?_) (fun c10 => ?_)
    · refine r_goto (pc := 960) 2076 d_L_law_960 (by decide) ?_
      refine r_pick [2, 3, 4, 5, 6] (ls' := [(0, .ref 1006000), (1, .ref 0), (2, .ref 102), (3, .ref 206), (4, .int v4)]) rfl ?_
      exact hk Sh q7.2 h0
    · refine r_aload_n (pc := 948) 5 d_L_law_948 rfl rfl ?_
      refine r_iconst (pc := 949) (0 : Int32) d_L_law_949 rfl ?_
      refine q_lald (pc := 950) (j := 0) (K_206 h0) (by unfold vp_in; decide) rfl d_L_law_950 ?_
      refine r_iload (pc := 951) 0 d_L_law_951 rfl ?_
      refine r_i2l (pc := 953) d_L_law_953 ?_
      refine r_lcmp (pc := 954) d_L_law_954 ?_
      refine r_if_eq (f := (oW Sh)) (pc := 955) 960 d_L_law_955 (by decide) (fun c11 => ?_) (fun c11 => ?_)
      · refine r_goto (pc := 960) 2076 d_L_law_960 (by decide) ?_
        refine r_pick [2, 3, 4, 5, 6] (ls' := [(0, .ref 1006000), (1, .ref 0), (2, .ref 102), (3, .ref 206), (4, .int v4)]) rfl ?_
        exact hk Sh q7.2 h0
      · refine r_iconst (pc := 958) (0 : Int32) d_L_law_958 rfl ?_
        exact r_zret (pc := 959) rfl (by decide) d_L_law_959
  · refine r_iconst (pc := 941) (0 : Int32) d_L_law_941 rfl ?_
    exact r_zret (pc := 942) rfl (by decide) d_L_law_942
def fc_14 (w : Nat → Int32) (nS : Nat) (k : zD → Option (Int32 × Nat × zD)) (v4 : Int32) (D : zD) : Option (Int32 × Nat × zD) := zck (v4 + (1 : Int32)) nS <| zck (v4 + (2 : Int32)) nS <| fwA (fw_L_read (w (v4 + (1 : Int32)).toNatClampNeg) (w (v4 + (2 : Int32)).toNatClampNeg) D) fun x3 D4 => zck (v4 + (1 : Int32)) nS <| zck (v4 + (2 : Int32)) nS <| (fn_X12_read (w (v4 + (1 : Int32)).toNatClampNeg) (w (v4 + (2 : Int32)).toNatClampNeg) D4).bind fun q7 => (fn_X12_thrown q7.2).bind fun x8 => (if x8 = x3 then ((if x3 = 0 then ((if (lg_cmp (gL q7.2 206 0) (q7.1).toInt64) = 0 then ((k q7.2)) else ((some ((0 : Int32), 0, q7.2))))) else ((k q7.2)))) else ((some ((0 : Int32), 0, q7.2))))
theorem lc_14 {X : zX} {d : Nat} {w : Nat → Int32} {nS : Nat} (hst : (zl X).stackTraces = false) (hs : zScr X nS w) (hd : 146 ≤ d) {k : zD → Option (Int32 × Nat × zD)} {v4 : Int32} (hk : ∀ (Sh : zSh) (D : zD), zSh0 Sh → Rn X m_L_law (d + 1) 2076 [(0, .ref 1006000), (1, .ref 0), (2, .ref 102), (3, .ref 206), (4, .int v4)] [] (Sh, D) (oW Sh (k D))) {Sh : zSh} (h0 : zSh0 Sh) {D : zD} : Rn X m_L_law (d + 1) 963 [(0, .ref 1006000), (1, .ref 0), (2, .ref 102), (3, .ref 206), (4, .int v4)] [] (Sh, D) (oW Sh (fc_14 w nS k v4 D)) := by
  unfold fc_14
  refine r_aload_n (pc := 963) 1 d_L_law_963 rfl rfl ?_
  refine r_aload_n (pc := 964) 0 d_L_law_964 rfl rfl ?_
  refine r_iload (pc := 965) 4 d_L_law_965 rfl ?_
  refine r_iconst (pc := 967) (1 : Int32) d_L_law_967 rfl ?_
  refine r_iadd (pc := 968) d_L_law_968 ?_
  refine r_ck (f := (oW Sh)) rfl (fun hc1 => ?_)
  refine r_scr (pc := 969) (j := (v4 + (1 : Int32)).toNatClampNeg) hs hc1 rfl d_L_law_969 ?_
  refine r_aload_n (pc := 970) 0 d_L_law_970 rfl rfl ?_
  refine r_iload (pc := 971) 4 d_L_law_971 rfl ?_
  refine r_iconst (pc := 973) (2 : Int32) d_L_law_973 rfl ?_
  refine r_iadd (pc := 974) d_L_law_974 ?_
  refine r_ck (f := (oW Sh)) rfl (fun hc2 => ?_)
  refine r_scr (pc := 975) (j := (v4 + (2 : Int32)).toNatClampNeg) hs hc2 rfl d_L_law_975 ?_
  refine r_aload_n (pc := 976) 3 d_L_law_976 rfl rfl ?_
  refine q_cW (av := [.ref 0, .int (w (v4 + (1 : Int32)).toNatClampNeg), .int (w (v4 + (2 : Int32)).toNatClampNeg), .ref 206]) (st := []) h0 (z_runSX ck_L_read rfl ml_L_147 cs_L_read rfl (Nat.le_of_ble_eq_true rfl) d_L_law_977) (w_L_read hst h0 (by omega)) (fun x3 Sh D4 h0 => ?_)
  refine r_istore (pc := 980) (ls' := [(5, .int x3), (0, .ref 1006000), (1, .ref 0), (2, .ref 102), (3, .ref 206), (4, .int v4)]) d_L_law_980 (Nat.le_of_ble_eq_true rfl) rfl ?_
  refine r_aload_n (pc := 982) 3 d_L_law_982 rfl rfl ?_
  refine r_aload_n (pc := 983) 1 d_L_law_983 rfl rfl ?_
  refine r_iload (pc := 984) 5 d_L_law_984 rfl ?_
  refine r_iconst (pc := 986) (1 : Int32) d_L_law_986 rfl ?_
  refine r_iadd (pc := 987) d_L_law_987 ?_
  refine r_ck (f := (oW Sh)) rfl (fun hc5 => ?_)
  refine r_scr (pc := 988) (j := (v4 + (1 : Int32)).toNatClampNeg) hs hc5 rfl d_L_law_988 ?_
  refine r_aload_n (pc := 989) 1 d_L_law_989 rfl rfl ?_
  refine r_iload (pc := 990) 5 d_L_law_990 rfl ?_
  refine r_iconst (pc := 992) (2 : Int32) d_L_law_992 rfl ?_
  refine r_iadd (pc := 993) d_L_law_993 ?_
  refine r_ck (f := (oW Sh)) rfl (fun hc6 => ?_)
  refine r_scr (pc := 994) (j := (v4 + (2 : Int32)).toNatClampNeg) hs hc6 rfl d_L_law_994 ?_
  refine q_cI (f := (oW Sh)) (av := [.ref 102, .int (w (v4 + (1 : Int32)).toNatClampNeg), .int (w (v4 + (2 : Int32)).toNatClampNeg)]) (st := []) (z_runV ck_X12_read rfl ml_L_149 ci_X12_read cv_X12_read (K_102 h0) (ci := 12) rfl rfl (Nat.le_of_ble_eq_true rfl) d_L_law_995) (s_X12_read hst h0 (by omega)) kp_W (fun q7 _ => ?_)
  refine r_istore (pc := 998) (ls' := [(6, .int q7.1), (5, .int x3), (0, .ref 1006000), (1, .ref 0), (2, .ref 102), (3, .ref 206), (4, .int v4)]) d_L_law_998 (Nat.le_of_ble_eq_true rfl) rfl ?_
  refine r_aload_n (pc := 1000) 4 d_L_law_1000 rfl rfl ?_
  refine q_cP (f := (oW Sh)) (av := [.ref 102]) (st := []) (z_runV ck_X12_thrown rfl ml_L_104 ci_X12_thrown cv_X12_thrown (K_102 h0) (ci := 12) rfl rfl (Nat.le_of_ble_eq_true rfl) d_L_law_1001) (s_X12_thrown hst h0 (by omega)) kp_W (fun x8 _ => ?_)
  refine r_iload (pc := 1004) 1 d_L_law_1004 rfl ?_
  refine r_icmp_eq (f := (oW Sh)) (pc := 1006) 1011 d_L_law_1006 (by decide) (fun c9 => ?_) (fun c9 => ?_)
  · refine r_iload (pc := 1011) 1 d_L_law_1011 rfl ?_
    refine r_if_ne (f := (oW Sh)) (pc := 1013) 1028 d_L_law_1013 (by decide) (fun c10 => ?_) (fun c10 => ?_)
    · refine r_goto (pc := 1028) 2076 d_L_law_1028 (by decide) ?_
      refine r_pick [2, 3, 4, 5, 6] (ls' := [(0, .ref 1006000), (1, .ref 0), (2, .ref 102), (3, .ref 206), (4, .int v4)]) rfl ?_
      exact hk Sh q7.2 h0
    · refine r_aload_n (pc := 1016) 5 d_L_law_1016 rfl rfl ?_
      refine r_iconst (pc := 1017) (0 : Int32) d_L_law_1017 rfl ?_
      refine q_lald (pc := 1018) (j := 0) (K_206 h0) (by unfold vp_in; decide) rfl d_L_law_1018 ?_
      refine r_iload (pc := 1019) 0 d_L_law_1019 rfl ?_
      refine r_i2l (pc := 1021) d_L_law_1021 ?_
      refine r_lcmp (pc := 1022) d_L_law_1022 ?_
      refine r_if_eq (f := (oW Sh)) (pc := 1023) 1028 d_L_law_1023 (by decide) (fun c11 => ?_) (fun c11 => ?_)
      · refine r_goto (pc := 1028) 2076 d_L_law_1028 (by decide) ?_
        refine r_pick [2, 3, 4, 5, 6] (ls' := [(0, .ref 1006000), (1, .ref 0), (2, .ref 102), (3, .ref 206), (4, .int v4)]) rfl ?_
        exact hk Sh q7.2 h0
      · refine r_iconst (pc := 1026) (0 : Int32) d_L_law_1026 rfl ?_
        exact r_zret (pc := 1027) rfl (by decide) d_L_law_1027
  · refine r_iconst (pc := 1009) (0 : Int32) d_L_law_1009 rfl ?_
    exact r_zret (pc := 1010) rfl (by decide) d_L_law_1010
def fc_15 (w : Nat → Int32) (nS : Nat) (k : zD → Option (Int32 × Nat × zD)) (v4 : Int32) (D : zD) : Option (Int32 × Nat × zD) := zck (v4 + (1 : Int32)) nS <| zck (v4 + (2 : Int32)) nS <| fwA (fw_L_nearest (w (v4 + (1 : Int32)).toNatClampNeg) (w (v4 + (2 : Int32)).toNatClampNeg) D) fun x3 D4 => zck (v4 + (1 : Int32)) nS <| zck (v4 + (2 : Int32)) nS <| (fn_X12_nearest (w (v4 + (1 : Int32)).toNatClampNeg) (w (v4 + (2 : Int32)).toNatClampNeg) D4).bind fun q7 => (fn_X12_thrown q7.2).bind fun x8 => (if x8 = x3 then ((if x3 = 0 then ((if (lg_cmp (gL q7.2 206 0) (q7.1).toInt64) = 0 then ((k q7.2)) else ((some ((0 : Int32), 0, q7.2))))) else ((k q7.2)))) else ((some ((0 : Int32), 0, q7.2))))
theorem lc_15 {X : zX} {d : Nat} {w : Nat → Int32} {nS : Nat} (hst : (zl X).stackTraces = false) (hs : zScr X nS w) (hd : 146 ≤ d) {k : zD → Option (Int32 × Nat × zD)} {v4 : Int32} (hk : ∀ (Sh : zSh) (D : zD), zSh0 Sh → Rn X m_L_law (d + 1) 2076 [(0, .ref 1006000), (1, .ref 0), (2, .ref 102), (3, .ref 206), (4, .int v4)] [] (Sh, D) (oW Sh (k D))) {Sh : zSh} (h0 : zSh0 Sh) {D : zD} : Rn X m_L_law (d + 1) 1031 [(0, .ref 1006000), (1, .ref 0), (2, .ref 102), (3, .ref 206), (4, .int v4)] [] (Sh, D) (oW Sh (fc_15 w nS k v4 D)) := by
  unfold fc_15
  refine r_aload_n (pc := 1031) 1 d_L_law_1031 rfl rfl ?_
  refine r_aload_n (pc := 1032) 0 d_L_law_1032 rfl rfl ?_
  refine r_iload (pc := 1033) 4 d_L_law_1033 rfl ?_
  refine r_iconst (pc := 1035) (1 : Int32) d_L_law_1035 rfl ?_
  refine r_iadd (pc := 1036) d_L_law_1036 ?_
  refine r_ck (f := (oW Sh)) rfl (fun hc1 => ?_)
  refine r_scr (pc := 1037) (j := (v4 + (1 : Int32)).toNatClampNeg) hs hc1 rfl d_L_law_1037 ?_
  refine r_aload_n (pc := 1038) 0 d_L_law_1038 rfl rfl ?_
  refine r_iload (pc := 1039) 4 d_L_law_1039 rfl ?_
  refine r_iconst (pc := 1041) (2 : Int32) d_L_law_1041 rfl ?_
  refine r_iadd (pc := 1042) d_L_law_1042 ?_
  refine r_ck (f := (oW Sh)) rfl (fun hc2 => ?_)
  refine r_scr (pc := 1043) (j := (v4 + (2 : Int32)).toNatClampNeg) hs hc2 rfl d_L_law_1043 ?_
  refine r_aload_n (pc := 1044) 3 d_L_law_1044 rfl rfl ?_
  refine q_cW (av := [.ref 0, .int (w (v4 + (1 : Int32)).toNatClampNeg), .int (w (v4 + (2 : Int32)).toNatClampNeg), .ref 206]) (st := []) h0 (z_runSX ck_L_nearest rfl ml_L_150 cs_L_nearest rfl (Nat.le_of_ble_eq_true rfl) d_L_law_1045) (w_L_nearest hst h0 (by omega)) (fun x3 Sh D4 h0 => ?_)
  refine r_istore (pc := 1048) (ls' := [(5, .int x3), (0, .ref 1006000), (1, .ref 0), (2, .ref 102), (3, .ref 206), (4, .int v4)]) d_L_law_1048 (Nat.le_of_ble_eq_true rfl) rfl ?_
  refine r_aload_n (pc := 1050) 3 d_L_law_1050 rfl rfl ?_
  refine r_aload_n (pc := 1051) 1 d_L_law_1051 rfl rfl ?_
  refine r_iload (pc := 1052) 5 d_L_law_1052 rfl ?_
  refine r_iconst (pc := 1054) (1 : Int32) d_L_law_1054 rfl ?_
  refine r_iadd (pc := 1055) d_L_law_1055 ?_
  refine r_ck (f := (oW Sh)) rfl (fun hc5 => ?_)
  refine r_scr (pc := 1056) (j := (v4 + (1 : Int32)).toNatClampNeg) hs hc5 rfl d_L_law_1056 ?_
  refine r_aload_n (pc := 1057) 1 d_L_law_1057 rfl rfl ?_
  refine r_iload (pc := 1058) 5 d_L_law_1058 rfl ?_
  refine r_iconst (pc := 1060) (2 : Int32) d_L_law_1060 rfl ?_
  refine r_iadd (pc := 1061) d_L_law_1061 ?_
  refine r_ck (f := (oW Sh)) rfl (fun hc6 => ?_)
  refine r_scr (pc := 1062) (j := (v4 + (2 : Int32)).toNatClampNeg) hs hc6 rfl d_L_law_1062 ?_
  refine q_cI (f := (oW Sh)) (av := [.ref 102, .int (w (v4 + (1 : Int32)).toNatClampNeg), .int (w (v4 + (2 : Int32)).toNatClampNeg)]) (st := []) (z_runV ck_X12_nearest rfl ml_L_152 ci_X12_nearest cv_X12_nearest (K_102 h0) (ci := 12) rfl rfl (Nat.le_of_ble_eq_true rfl) d_L_law_1063) (s_X12_nearest hst h0 (by omega)) kp_W (fun q7 _ => ?_)
  refine r_istore (pc := 1066) (ls' := [(6, .int q7.1), (5, .int x3), (0, .ref 1006000), (1, .ref 0), (2, .ref 102), (3, .ref 206), (4, .int v4)]) d_L_law_1066 (Nat.le_of_ble_eq_true rfl) rfl ?_
  refine r_aload_n (pc := 1068) 4 d_L_law_1068 rfl rfl ?_
  refine q_cP (f := (oW Sh)) (av := [.ref 102]) (st := []) (z_runV ck_X12_thrown rfl ml_L_104 ci_X12_thrown cv_X12_thrown (K_102 h0) (ci := 12) rfl rfl (Nat.le_of_ble_eq_true rfl) d_L_law_1069) (s_X12_thrown hst h0 (by omega)) kp_W (fun x8 _ => ?_)
  refine r_iload (pc := 1072) 1 d_L_law_1072 rfl ?_
  refine r_icmp_eq (f := (oW Sh)) (pc := 1074) 1079 d_L_law_1074 (by decide) (fun c9 => ?_) (fun c9 => ?_)
  · refine r_iload (pc := 1079) 1 d_L_law_1079 rfl ?_
    refine r_if_ne (f := (oW Sh)) (pc := 1081) 1096 d_L_law_1081 (by decide) (fun c10 => ?_) (fun c10 => ?_)
    · refine r_goto (pc := 1096) 2076 d_L_law_1096 (by decide) ?_
      refine r_pick [2, 3, 4, 5, 6] (ls' := [(0, .ref 1006000), (1, .ref 0), (2, .ref 102), (3, .ref 206), (4, .int v4)]) rfl ?_
      exact hk Sh q7.2 h0
    · refine r_aload_n (pc := 1084) 5 d_L_law_1084 rfl rfl ?_
      refine r_iconst (pc := 1085) (0 : Int32) d_L_law_1085 rfl ?_
      refine q_lald (pc := 1086) (j := 0) (K_206 h0) (by unfold vp_in; decide) rfl d_L_law_1086 ?_
      refine r_iload (pc := 1087) 0 d_L_law_1087 rfl ?_
      refine r_i2l (pc := 1089) d_L_law_1089 ?_
      refine r_lcmp (pc := 1090) d_L_law_1090 ?_
      refine r_if_eq (f := (oW Sh)) (pc := 1091) 1096 d_L_law_1091 (by decide) (fun c11 => ?_) (fun c11 => ?_)
      · refine r_goto (pc := 1096) 2076 d_L_law_1096 (by decide) ?_
        refine r_pick [2, 3, 4, 5, 6] (ls' := [(0, .ref 1006000), (1, .ref 0), (2, .ref 102), (3, .ref 206), (4, .int v4)]) rfl ?_
        exact hk Sh q7.2 h0
      · refine r_iconst (pc := 1094) (0 : Int32) d_L_law_1094 rfl ?_
        exact r_zret (pc := 1095) rfl (by decide) d_L_law_1095
  · refine r_iconst (pc := 1077) (0 : Int32) d_L_law_1077 rfl ?_
    exact r_zret (pc := 1078) rfl (by decide) d_L_law_1078
def fc_16 (w : Nat → Int32) (nS : Nat) (k : zD → Option (Int32 × Nat × zD)) (v4 : Int32) (D : zD) : Option (Int32 × Nat × zD) := zck (v4 + (1 : Int32)) nS <| zck (v4 + (2 : Int32)) nS <| fwA (fw_L_part (w (v4 + (1 : Int32)).toNatClampNeg) (w (v4 + (2 : Int32)).toNatClampNeg) D) fun x3 D4 => zck (v4 + (1 : Int32)) nS <| zck (v4 + (2 : Int32)) nS <| (fn_X12_part (w (v4 + (1 : Int32)).toNatClampNeg) (w (v4 + (2 : Int32)).toNatClampNeg) D4).bind fun q7 => (fn_X12_thrown q7.2).bind fun x8 => (if x8 = x3 then ((if x3 = 0 then ((if (lg_cmp (gL q7.2 206 0) (q7.1).toInt64) = 0 then ((k q7.2)) else ((some ((0 : Int32), 0, q7.2))))) else ((k q7.2)))) else ((some ((0 : Int32), 0, q7.2))))
theorem lc_16 {X : zX} {d : Nat} {w : Nat → Int32} {nS : Nat} (hst : (zl X).stackTraces = false) (hs : zScr X nS w) (hd : 146 ≤ d) {k : zD → Option (Int32 × Nat × zD)} {v4 : Int32} (hk : ∀ (Sh : zSh) (D : zD), zSh0 Sh → Rn X m_L_law (d + 1) 2076 [(0, .ref 1006000), (1, .ref 0), (2, .ref 102), (3, .ref 206), (4, .int v4)] [] (Sh, D) (oW Sh (k D))) {Sh : zSh} (h0 : zSh0 Sh) {D : zD} : Rn X m_L_law (d + 1) 1099 [(0, .ref 1006000), (1, .ref 0), (2, .ref 102), (3, .ref 206), (4, .int v4)] [] (Sh, D) (oW Sh (fc_16 w nS k v4 D)) := by
  unfold fc_16
  refine r_aload_n (pc := 1099) 1 d_L_law_1099 rfl rfl ?_
  refine r_aload_n (pc := 1100) 0 d_L_law_1100 rfl rfl ?_
  refine r_iload (pc := 1101) 4 d_L_law_1101 rfl ?_
  refine r_iconst (pc := 1103) (1 : Int32) d_L_law_1103 rfl ?_
  refine r_iadd (pc := 1104) d_L_law_1104 ?_
  refine r_ck (f := (oW Sh)) rfl (fun hc1 => ?_)
  refine r_scr (pc := 1105) (j := (v4 + (1 : Int32)).toNatClampNeg) hs hc1 rfl d_L_law_1105 ?_
  refine r_aload_n (pc := 1106) 0 d_L_law_1106 rfl rfl ?_
  refine r_iload (pc := 1107) 4 d_L_law_1107 rfl ?_
  refine r_iconst (pc := 1109) (2 : Int32) d_L_law_1109 rfl ?_
  refine r_iadd (pc := 1110) d_L_law_1110 ?_
  refine r_ck (f := (oW Sh)) rfl (fun hc2 => ?_)
  refine r_scr (pc := 1111) (j := (v4 + (2 : Int32)).toNatClampNeg) hs hc2 rfl d_L_law_1111 ?_
  refine r_aload_n (pc := 1112) 3 d_L_law_1112 rfl rfl ?_
  refine q_cW (av := [.ref 0, .int (w (v4 + (1 : Int32)).toNatClampNeg), .int (w (v4 + (2 : Int32)).toNatClampNeg), .ref 206]) (st := []) h0 (z_runSX ck_L_part rfl ml_L_153 cs_L_part rfl (Nat.le_of_ble_eq_true rfl) d_L_law_1113) (w_L_part hst h0 (by omega)) (fun x3 Sh D4 h0 => ?_)
  refine r_istore (pc := 1116) (ls' := [(5, .int x3), (0, .ref 1006000), (1, .ref 0), (2, .ref 102), (3, .ref 206), (4, .int v4)]) d_L_law_1116 (Nat.le_of_ble_eq_true rfl) rfl ?_
  refine r_aload_n (pc := 1118) 3 d_L_law_1118 rfl rfl ?_
  refine r_aload_n (pc := 1119) 1 d_L_law_1119 rfl rfl ?_
  refine r_iload (pc := 1120) 5 d_L_law_1120 rfl ?_
  refine r_iconst (pc := 1122) (1 : Int32) d_L_law_1122 rfl ?_
  refine r_iadd (pc := 1123) d_L_law_1123 ?_
  refine r_ck (f := (oW Sh)) rfl (fun hc5 => ?_)
  refine r_scr (pc := 1124) (j := (v4 + (1 : Int32)).toNatClampNeg) hs hc5 rfl d_L_law_1124 ?_
  refine r_aload_n (pc := 1125) 1 d_L_law_1125 rfl rfl ?_
  refine r_iload (pc := 1126) 5 d_L_law_1126 rfl ?_
  refine r_iconst (pc := 1128) (2 : Int32) d_L_law_1128 rfl ?_
  refine r_iadd (pc := 1129) d_L_law_1129 ?_
  refine r_ck (f := (oW Sh)) rfl (fun hc6 => ?_)
  refine r_scr (pc := 1130) (j := (v4 + (2 : Int32)).toNatClampNeg) hs hc6 rfl d_L_law_1130 ?_
  refine q_cI (f := (oW Sh)) (av := [.ref 102, .int (w (v4 + (1 : Int32)).toNatClampNeg), .int (w (v4 + (2 : Int32)).toNatClampNeg)]) (st := []) (z_runV ck_X12_part rfl ml_L_155 ci_X12_part cv_X12_part (K_102 h0) (ci := 12) rfl rfl (Nat.le_of_ble_eq_true rfl) d_L_law_1131) (s_X12_part hst h0 (by omega)) kp_W (fun q7 _ => ?_)
  refine r_istore (pc := 1134) (ls' := [(6, .int q7.1), (5, .int x3), (0, .ref 1006000), (1, .ref 0), (2, .ref 102), (3, .ref 206), (4, .int v4)]) d_L_law_1134 (Nat.le_of_ble_eq_true rfl) rfl ?_
  refine r_aload_n (pc := 1136) 4 d_L_law_1136 rfl rfl ?_
  refine q_cP (f := (oW Sh)) (av := [.ref 102]) (st := []) (z_runV ck_X12_thrown rfl ml_L_104 ci_X12_thrown cv_X12_thrown (K_102 h0) (ci := 12) rfl rfl (Nat.le_of_ble_eq_true rfl) d_L_law_1137) (s_X12_thrown hst h0 (by omega)) kp_W (fun x8 _ => ?_)
  refine r_iload (pc := 1140) 1 d_L_law_1140 rfl ?_
  refine r_icmp_eq (f := (oW Sh)) (pc := 1142) 1147 d_L_law_1142 (by decide) (fun c9 => ?_) (fun c9 => ?_)
  · refine r_iload (pc := 1147) 1 d_L_law_1147 rfl ?_
    refine r_if_ne (f := (oW Sh)) (pc := 1149) 1164 d_L_law_1149 (by decide) (fun c10 => ?_) (fun c10 => ?_)
    · refine r_goto (pc := 1164) 2076 d_L_law_1164 (by decide) ?_
      refine r_pick [2, 3, 4, 5, 6] (ls' := [(0, .ref 1006000), (1, .ref 0), (2, .ref 102), (3, .ref 206), (4, .int v4)]) rfl ?_
      exact hk Sh q7.2 h0
    · refine r_aload_n (pc := 1152) 5 d_L_law_1152 rfl rfl ?_
      refine r_iconst (pc := 1153) (0 : Int32) d_L_law_1153 rfl ?_
      refine q_lald (pc := 1154) (j := 0) (K_206 h0) (by unfold vp_in; decide) rfl d_L_law_1154 ?_
      refine r_iload (pc := 1155) 0 d_L_law_1155 rfl ?_
      refine r_i2l (pc := 1157) d_L_law_1157 ?_
      refine r_lcmp (pc := 1158) d_L_law_1158 ?_
      refine r_if_eq (f := (oW Sh)) (pc := 1159) 1164 d_L_law_1159 (by decide) (fun c11 => ?_) (fun c11 => ?_)
      · refine r_goto (pc := 1164) 2076 d_L_law_1164 (by decide) ?_
        refine r_pick [2, 3, 4, 5, 6] (ls' := [(0, .ref 1006000), (1, .ref 0), (2, .ref 102), (3, .ref 206), (4, .int v4)]) rfl ?_
        exact hk Sh q7.2 h0
      · refine r_iconst (pc := 1162) (0 : Int32) d_L_law_1162 rfl ?_
        exact r_zret (pc := 1163) rfl (by decide) d_L_law_1163
  · refine r_iconst (pc := 1145) (0 : Int32) d_L_law_1145 rfl ?_
    exact r_zret (pc := 1146) rfl (by decide) d_L_law_1146
def fc_17 (w : Nat → Int32) (nS : Nat) (k : zD → Option (Int32 × Nat × zD)) (v4 : Int32) (D : zD) : Option (Int32 × Nat × zD) := (fn_X11_forget D).bind fun q1 => (fn_X12_forget q1.2).bind fun q2 => (if q1.1 = q2.1 then ((k q2.2)) else ((some ((0 : Int32), 0, q2.2))))
theorem lc_17 {X : zX} {d : Nat} {w : Nat → Int32} {nS : Nat} (hst : (zl X).stackTraces = false) (hs : zScr X nS w) (hd : 146 ≤ d) {k : zD → Option (Int32 × Nat × zD)} {v4 : Int32} (hk : ∀ (Sh : zSh) (D : zD), zSh0 Sh → Rn X m_L_law (d + 1) 2076 [(0, .ref 1006000), (1, .ref 0), (2, .ref 102), (3, .ref 206), (4, .int v4)] [] (Sh, D) (oW Sh (k D))) {Sh : zSh} (h0 : zSh0 Sh) {D : zD} : Rn X m_L_law (d + 1) 1167 [(0, .ref 1006000), (1, .ref 0), (2, .ref 102), (3, .ref 206), (4, .int v4)] [] (Sh, D) (oW Sh (fc_17 w nS k v4 D)) := by
  unfold fc_17
  refine r_aload_n (pc := 1167) 1 d_L_law_1167 rfl rfl ?_
  refine q_cI (f := (oW Sh)) (av := [.ref 0]) (st := []) (z_runV ck_X11_forget rfl ml_L_156 ci_X11_forget cv_X11_forget (K_0 h0) (ci := 11) rfl rfl (Nat.le_of_ble_eq_true rfl) d_L_law_1168) (s_X11_forget hst h0 (by omega)) kp_W (fun q1 _ => ?_)
  refine r_aload_n (pc := 1171) 2 d_L_law_1171 rfl rfl ?_
  refine q_cI (f := (oW Sh)) (av := [.ref 102]) (st := [.int q1.1]) (z_runV ck_X12_forget rfl ml_L_159 ci_X12_forget cv_X12_forget (K_102 h0) (ci := 12) rfl rfl (Nat.le_of_ble_eq_true rfl) d_L_law_1172) (s_X12_forget hst h0 (by omega)) kp_W (fun q2 _ => ?_)
  refine r_icmp_eq (f := (oW Sh)) (pc := 1175) 2076 d_L_law_1175 (by decide) (fun c3 => ?_) (fun c3 => ?_)
  · refine r_pick [0, 1, 2, 3, 4] (ls' := [(0, .ref 1006000), (1, .ref 0), (2, .ref 102), (3, .ref 206), (4, .int v4)]) rfl ?_
    exact hk Sh q2.2 h0
  · refine r_iconst (pc := 1178) (0 : Int32) d_L_law_1178 rfl ?_
    exact r_zret (pc := 1179) rfl (by decide) d_L_law_1179
def fc_18 (w : Nat → Int32) (nS : Nat) (k : zD → Option (Int32 × Nat × zD)) (v4 : Int32) (D : zD) : Option (Int32 × Nat × zD) := (fn_X11_words D).bind fun x1 => (fn_X12_words D).bind fun q2 => (if x1 = q2.1 then ((k q2.2)) else ((some ((0 : Int32), 0, q2.2))))
theorem lc_18 {X : zX} {d : Nat} {w : Nat → Int32} {nS : Nat} (hst : (zl X).stackTraces = false) (hs : zScr X nS w) (hd : 146 ≤ d) {k : zD → Option (Int32 × Nat × zD)} {v4 : Int32} (hk : ∀ (Sh : zSh) (D : zD), zSh0 Sh → Rn X m_L_law (d + 1) 2076 [(0, .ref 1006000), (1, .ref 0), (2, .ref 102), (3, .ref 206), (4, .int v4)] [] (Sh, D) (oW Sh (k D))) {Sh : zSh} (h0 : zSh0 Sh) {D : zD} : Rn X m_L_law (d + 1) 1180 [(0, .ref 1006000), (1, .ref 0), (2, .ref 102), (3, .ref 206), (4, .int v4)] [] (Sh, D) (oW Sh (fc_18 w nS k v4 D)) := by
  unfold fc_18
  refine r_aload_n (pc := 1180) 1 d_L_law_1180 rfl rfl ?_
  refine q_cP (f := (oW Sh)) (av := [.ref 0]) (st := []) (z_runV ck_X11_words rfl ml_L_160 ci_X11_words cv_X11_words (K_0 h0) (ci := 11) rfl rfl (Nat.le_of_ble_eq_true rfl) d_L_law_1181) (s_X11_words hst h0 (by omega)) kp_W (fun x1 _ => ?_)
  refine r_aload_n (pc := 1184) 2 d_L_law_1184 rfl rfl ?_
  refine q_cI (f := (oW Sh)) (av := [.ref 102]) (st := [.int x1]) (z_runV ck_X12_words rfl ml_L_163 ci_X12_words cv_X12_words (K_102 h0) (ci := 12) rfl rfl (Nat.le_of_ble_eq_true rfl) d_L_law_1185) (s_X12_words hst h0 (by omega)) kp_W (fun q2 _ => ?_)
  refine r_icmp_eq (f := (oW Sh)) (pc := 1188) 2076 d_L_law_1188 (by decide) (fun c3 => ?_) (fun c3 => ?_)
  · refine r_pick [0, 1, 2, 3, 4] (ls' := [(0, .ref 1006000), (1, .ref 0), (2, .ref 102), (3, .ref 206), (4, .int v4)]) rfl ?_
    exact hk Sh q2.2 h0
  · refine r_iconst (pc := 1191) (0 : Int32) d_L_law_1191 rfl ?_
    exact r_zret (pc := 1192) rfl (by decide) d_L_law_1192
def fc_19 (w : Nat → Int32) (nS : Nat) (k : zD → Option (Int32 × Nat × zD)) (v4 : Int32) (D : zD) : Option (Int32 × Nat × zD) := zck (v4 + (1 : Int32)) nS <| (fn_X11_sure (w (v4 + (1 : Int32)).toNatClampNeg) D).bind fun x2 => zck (v4 + (1 : Int32)) nS <| (fn_X12_sure (w (v4 + (1 : Int32)).toNatClampNeg) D).bind fun q4 => (if x2 = q4.1 then ((k q4.2)) else ((some ((0 : Int32), 0, q4.2))))
theorem lc_19 {X : zX} {d : Nat} {w : Nat → Int32} {nS : Nat} (hst : (zl X).stackTraces = false) (hs : zScr X nS w) (hd : 146 ≤ d) {k : zD → Option (Int32 × Nat × zD)} {v4 : Int32} (hk : ∀ (Sh : zSh) (D : zD), zSh0 Sh → Rn X m_L_law (d + 1) 2076 [(0, .ref 1006000), (1, .ref 0), (2, .ref 102), (3, .ref 206), (4, .int v4)] [] (Sh, D) (oW Sh (k D))) {Sh : zSh} (h0 : zSh0 Sh) {D : zD} : Rn X m_L_law (d + 1) 1193 [(0, .ref 1006000), (1, .ref 0), (2, .ref 102), (3, .ref 206), (4, .int v4)] [] (Sh, D) (oW Sh (fc_19 w nS k v4 D)) := by
  unfold fc_19
  refine r_aload_n (pc := 1193) 1 d_L_law_1193 rfl rfl ?_
  refine r_aload_n (pc := 1194) 0 d_L_law_1194 rfl rfl ?_
  refine r_iload (pc := 1195) 4 d_L_law_1195 rfl ?_
  refine r_iconst (pc := 1197) (1 : Int32) d_L_law_1197 rfl ?_
  refine r_iadd (pc := 1198) d_L_law_1198 ?_
  refine r_ck (f := (oW Sh)) rfl (fun hc1 => ?_)
  refine r_scr (pc := 1199) (j := (v4 + (1 : Int32)).toNatClampNeg) hs hc1 rfl d_L_law_1199 ?_
  refine q_cP (f := (oW Sh)) (av := [.ref 0, .int (w (v4 + (1 : Int32)).toNatClampNeg)]) (st := []) (z_runV ck_X11_sure rfl ml_L_164 ci_X11_sure cv_X11_sure (K_0 h0) (ci := 11) rfl rfl (Nat.le_of_ble_eq_true rfl) d_L_law_1200) (s_X11_sure hst h0 (by omega)) kp_W (fun x2 _ => ?_)
  refine r_aload_n (pc := 1203) 2 d_L_law_1203 rfl rfl ?_
  refine r_aload_n (pc := 1204) 0 d_L_law_1204 rfl rfl ?_
  refine r_iload (pc := 1205) 4 d_L_law_1205 rfl ?_
  refine r_iconst (pc := 1207) (1 : Int32) d_L_law_1207 rfl ?_
  refine r_iadd (pc := 1208) d_L_law_1208 ?_
  refine r_ck (f := (oW Sh)) rfl (fun hc3 => ?_)
  refine r_scr (pc := 1209) (j := (v4 + (1 : Int32)).toNatClampNeg) hs hc3 rfl d_L_law_1209 ?_
  refine q_cI (f := (oW Sh)) (av := [.ref 102, .int (w (v4 + (1 : Int32)).toNatClampNeg)]) (st := [.int x2]) (z_runV ck_X12_sure rfl ml_L_167 ci_X12_sure cv_X12_sure (K_102 h0) (ci := 12) rfl rfl (Nat.le_of_ble_eq_true rfl) d_L_law_1210) (s_X12_sure hst h0 (by omega)) kp_W (fun q4 _ => ?_)
  refine r_icmp_eq (f := (oW Sh)) (pc := 1213) 2076 d_L_law_1213 (by decide) (fun c5 => ?_) (fun c5 => ?_)
  · refine r_pick [0, 1, 2, 3, 4] (ls' := [(0, .ref 1006000), (1, .ref 0), (2, .ref 102), (3, .ref 206), (4, .int v4)]) rfl ?_
    exact hk Sh q4.2 h0
  · refine r_iconst (pc := 1216) (0 : Int32) d_L_law_1216 rfl ?_
    exact r_zret (pc := 1217) rfl (by decide) d_L_law_1217
def fc_20 (w : Nat → Int32) (nS : Nat) (k : zD → Option (Int32 × Nat × zD)) (v4 : Int32) (D : zD) : Option (Int32 × Nat × zD) := zck (v4 + (1 : Int32)) nS <| zck (v4 + (2 : Int32)) nS <| fwA (fw_L_least (w (v4 + (1 : Int32)).toNatClampNeg) (w (v4 + (2 : Int32)).toNatClampNeg) D) fun x3 D4 => zck (v4 + (1 : Int32)) nS <| zck (v4 + (2 : Int32)) nS <| (fn_X12_least (w (v4 + (1 : Int32)).toNatClampNeg) (w (v4 + (2 : Int32)).toNatClampNeg) D4).bind fun q7 => (fn_X12_thrown q7.2).bind fun x8 => (if x8 = x3 then ((if x3 = 0 then ((if (lg_cmp (gL q7.2 206 0) (q7.1).toInt64) = 0 then ((k q7.2)) else ((some ((0 : Int32), 0, q7.2))))) else ((k q7.2)))) else ((some ((0 : Int32), 0, q7.2))))
theorem lc_20 {X : zX} {d : Nat} {w : Nat → Int32} {nS : Nat} (hst : (zl X).stackTraces = false) (hs : zScr X nS w) (hd : 146 ≤ d) {k : zD → Option (Int32 × Nat × zD)} {v4 : Int32} (hk : ∀ (Sh : zSh) (D : zD), zSh0 Sh → Rn X m_L_law (d + 1) 2076 [(0, .ref 1006000), (1, .ref 0), (2, .ref 102), (3, .ref 206), (4, .int v4)] [] (Sh, D) (oW Sh (k D))) {Sh : zSh} (h0 : zSh0 Sh) {D : zD} : Rn X m_L_law (d + 1) 1218 [(0, .ref 1006000), (1, .ref 0), (2, .ref 102), (3, .ref 206), (4, .int v4)] [] (Sh, D) (oW Sh (fc_20 w nS k v4 D)) := by
  unfold fc_20
  refine r_aload_n (pc := 1218) 1 d_L_law_1218 rfl rfl ?_
  refine r_aload_n (pc := 1219) 0 d_L_law_1219 rfl rfl ?_
  refine r_iload (pc := 1220) 4 d_L_law_1220 rfl ?_
  refine r_iconst (pc := 1222) (1 : Int32) d_L_law_1222 rfl ?_
  refine r_iadd (pc := 1223) d_L_law_1223 ?_
  refine r_ck (f := (oW Sh)) rfl (fun hc1 => ?_)
  refine r_scr (pc := 1224) (j := (v4 + (1 : Int32)).toNatClampNeg) hs hc1 rfl d_L_law_1224 ?_
  refine r_aload_n (pc := 1225) 0 d_L_law_1225 rfl rfl ?_
  refine r_iload (pc := 1226) 4 d_L_law_1226 rfl ?_
  refine r_iconst (pc := 1228) (2 : Int32) d_L_law_1228 rfl ?_
  refine r_iadd (pc := 1229) d_L_law_1229 ?_
  refine r_ck (f := (oW Sh)) rfl (fun hc2 => ?_)
  refine r_scr (pc := 1230) (j := (v4 + (2 : Int32)).toNatClampNeg) hs hc2 rfl d_L_law_1230 ?_
  refine r_aload_n (pc := 1231) 3 d_L_law_1231 rfl rfl ?_
  refine q_cW (av := [.ref 0, .int (w (v4 + (1 : Int32)).toNatClampNeg), .int (w (v4 + (2 : Int32)).toNatClampNeg), .ref 206]) (st := []) h0 (z_runSX ck_L_least rfl ml_L_168 cs_L_least rfl (Nat.le_of_ble_eq_true rfl) d_L_law_1232) (w_L_least hst h0 (by omega)) (fun x3 Sh D4 h0 => ?_)
  refine r_istore (pc := 1235) (ls' := [(5, .int x3), (0, .ref 1006000), (1, .ref 0), (2, .ref 102), (3, .ref 206), (4, .int v4)]) d_L_law_1235 (Nat.le_of_ble_eq_true rfl) rfl ?_
  refine r_aload_n (pc := 1237) 3 d_L_law_1237 rfl rfl ?_
  refine r_aload_n (pc := 1238) 1 d_L_law_1238 rfl rfl ?_
  refine r_iload (pc := 1239) 5 d_L_law_1239 rfl ?_
  refine r_iconst (pc := 1241) (1 : Int32) d_L_law_1241 rfl ?_
  refine r_iadd (pc := 1242) d_L_law_1242 ?_
  refine r_ck (f := (oW Sh)) rfl (fun hc5 => ?_)
  refine r_scr (pc := 1243) (j := (v4 + (1 : Int32)).toNatClampNeg) hs hc5 rfl d_L_law_1243 ?_
  refine r_aload_n (pc := 1244) 1 d_L_law_1244 rfl rfl ?_
  refine r_iload (pc := 1245) 5 d_L_law_1245 rfl ?_
  refine r_iconst (pc := 1247) (2 : Int32) d_L_law_1247 rfl ?_
  refine r_iadd (pc := 1248) d_L_law_1248 ?_
  refine r_ck (f := (oW Sh)) rfl (fun hc6 => ?_)
  refine r_scr (pc := 1249) (j := (v4 + (2 : Int32)).toNatClampNeg) hs hc6 rfl d_L_law_1249 ?_
  refine q_cI (f := (oW Sh)) (av := [.ref 102, .int (w (v4 + (1 : Int32)).toNatClampNeg), .int (w (v4 + (2 : Int32)).toNatClampNeg)]) (st := []) (z_runV ck_X12_least rfl ml_L_170 ci_X12_least cv_X12_least (K_102 h0) (ci := 12) rfl rfl (Nat.le_of_ble_eq_true rfl) d_L_law_1250) (s_X12_least hst h0 (by omega)) kp_W (fun q7 _ => ?_)
  refine r_istore (pc := 1253) (ls' := [(6, .int q7.1), (5, .int x3), (0, .ref 1006000), (1, .ref 0), (2, .ref 102), (3, .ref 206), (4, .int v4)]) d_L_law_1253 (Nat.le_of_ble_eq_true rfl) rfl ?_
  refine r_aload_n (pc := 1255) 4 d_L_law_1255 rfl rfl ?_
  refine q_cP (f := (oW Sh)) (av := [.ref 102]) (st := []) (z_runV ck_X12_thrown rfl ml_L_104 ci_X12_thrown cv_X12_thrown (K_102 h0) (ci := 12) rfl rfl (Nat.le_of_ble_eq_true rfl) d_L_law_1256) (s_X12_thrown hst h0 (by omega)) kp_W (fun x8 _ => ?_)
  refine r_iload (pc := 1259) 1 d_L_law_1259 rfl ?_
  refine r_icmp_eq (f := (oW Sh)) (pc := 1261) 1266 d_L_law_1261 (by decide) (fun c9 => ?_) (fun c9 => ?_)
  · refine r_iload (pc := 1266) 1 d_L_law_1266 rfl ?_
    refine r_if_ne (f := (oW Sh)) (pc := 1268) 1283 d_L_law_1268 (by decide) (fun c10 => ?_) (fun c10 => ?_)
    · refine r_goto (pc := 1283) 2076 d_L_law_1283 (by decide) ?_
      refine r_pick [2, 3, 4, 5, 6] (ls' := [(0, .ref 1006000), (1, .ref 0), (2, .ref 102), (3, .ref 206), (4, .int v4)]) rfl ?_
      exact hk Sh q7.2 h0
    · refine r_aload_n (pc := 1271) 5 d_L_law_1271 rfl rfl ?_
      refine r_iconst (pc := 1272) (0 : Int32) d_L_law_1272 rfl ?_
      refine q_lald (pc := 1273) (j := 0) (K_206 h0) (by unfold vp_in; decide) rfl d_L_law_1273 ?_
      refine r_iload (pc := 1274) 0 d_L_law_1274 rfl ?_
      refine r_i2l (pc := 1276) d_L_law_1276 ?_
      refine r_lcmp (pc := 1277) d_L_law_1277 ?_
      refine r_if_eq (f := (oW Sh)) (pc := 1278) 1283 d_L_law_1278 (by decide) (fun c11 => ?_) (fun c11 => ?_)
      · refine r_goto (pc := 1283) 2076 d_L_law_1283 (by decide) ?_
        refine r_pick [2, 3, 4, 5, 6] (ls' := [(0, .ref 1006000), (1, .ref 0), (2, .ref 102), (3, .ref 206), (4, .int v4)]) rfl ?_
        exact hk Sh q7.2 h0
      · refine r_iconst (pc := 1281) (0 : Int32) d_L_law_1281 rfl ?_
        exact r_zret (pc := 1282) rfl (by decide) d_L_law_1282
  · refine r_iconst (pc := 1264) (0 : Int32) d_L_law_1264 rfl ?_
    exact r_zret (pc := 1265) rfl (by decide) d_L_law_1265
def fc_21 (w : Nat → Int32) (nS : Nat) (k : zD → Option (Int32 × Nat × zD)) (v4 : Int32) (D : zD) : Option (Int32 × Nat × zD) := zck (v4 + (1 : Int32)) nS <| fwA (fw_L_strokes (w (v4 + (1 : Int32)).toNatClampNeg) D) fun x2 D3 => zck (v4 + (1 : Int32)) nS <| (fn_X12_strokes (w (v4 + (1 : Int32)).toNatClampNeg) D3).bind fun q5 => (fn_X12_thrown q5.2).bind fun x6 => (if x6 = x2 then ((if x2 = 0 then ((if (lg_cmp (gL q5.2 206 0) (q5.1).toInt64) = 0 then ((k q5.2)) else ((some ((0 : Int32), 0, q5.2))))) else ((k q5.2)))) else ((some ((0 : Int32), 0, q5.2))))
theorem lc_21 {X : zX} {d : Nat} {w : Nat → Int32} {nS : Nat} (hst : (zl X).stackTraces = false) (hs : zScr X nS w) (hd : 146 ≤ d) {k : zD → Option (Int32 × Nat × zD)} {v4 : Int32} (hk : ∀ (Sh : zSh) (D : zD), zSh0 Sh → Rn X m_L_law (d + 1) 2076 [(0, .ref 1006000), (1, .ref 0), (2, .ref 102), (3, .ref 206), (4, .int v4)] [] (Sh, D) (oW Sh (k D))) {Sh : zSh} (h0 : zSh0 Sh) {D : zD} : Rn X m_L_law (d + 1) 1286 [(0, .ref 1006000), (1, .ref 0), (2, .ref 102), (3, .ref 206), (4, .int v4)] [] (Sh, D) (oW Sh (fc_21 w nS k v4 D)) := by
  unfold fc_21
  refine r_aload_n (pc := 1286) 1 d_L_law_1286 rfl rfl ?_
  refine r_aload_n (pc := 1287) 0 d_L_law_1287 rfl rfl ?_
  refine r_iload (pc := 1288) 4 d_L_law_1288 rfl ?_
  refine r_iconst (pc := 1290) (1 : Int32) d_L_law_1290 rfl ?_
  refine r_iadd (pc := 1291) d_L_law_1291 ?_
  refine r_ck (f := (oW Sh)) rfl (fun hc1 => ?_)
  refine r_scr (pc := 1292) (j := (v4 + (1 : Int32)).toNatClampNeg) hs hc1 rfl d_L_law_1292 ?_
  refine r_aload_n (pc := 1293) 3 d_L_law_1293 rfl rfl ?_
  refine q_cW (av := [.ref 0, .int (w (v4 + (1 : Int32)).toNatClampNeg), .ref 206]) (st := []) h0 (z_runSX ck_L_strokes rfl ml_L_171 cs_L_strokes rfl (Nat.le_of_ble_eq_true rfl) d_L_law_1294) (w_L_strokes hst h0 (by omega)) (fun x2 Sh D3 h0 => ?_)
  refine r_istore (pc := 1297) (ls' := [(5, .int x2), (0, .ref 1006000), (1, .ref 0), (2, .ref 102), (3, .ref 206), (4, .int v4)]) d_L_law_1297 (Nat.le_of_ble_eq_true rfl) rfl ?_
  refine r_aload_n (pc := 1299) 3 d_L_law_1299 rfl rfl ?_
  refine r_aload_n (pc := 1300) 1 d_L_law_1300 rfl rfl ?_
  refine r_iload (pc := 1301) 5 d_L_law_1301 rfl ?_
  refine r_iconst (pc := 1303) (1 : Int32) d_L_law_1303 rfl ?_
  refine r_iadd (pc := 1304) d_L_law_1304 ?_
  refine r_ck (f := (oW Sh)) rfl (fun hc4 => ?_)
  refine r_scr (pc := 1305) (j := (v4 + (1 : Int32)).toNatClampNeg) hs hc4 rfl d_L_law_1305 ?_
  refine q_cI (f := (oW Sh)) (av := [.ref 102, .int (w (v4 + (1 : Int32)).toNatClampNeg)]) (st := []) (z_runV ck_X12_strokes rfl ml_L_173 ci_X12_strokes cv_X12_strokes (K_102 h0) (ci := 12) rfl rfl (Nat.le_of_ble_eq_true rfl) d_L_law_1306) (s_X12_strokes hst h0 (by omega)) kp_W (fun q5 _ => ?_)
  refine r_istore (pc := 1309) (ls' := [(6, .int q5.1), (5, .int x2), (0, .ref 1006000), (1, .ref 0), (2, .ref 102), (3, .ref 206), (4, .int v4)]) d_L_law_1309 (Nat.le_of_ble_eq_true rfl) rfl ?_
  refine r_aload_n (pc := 1311) 4 d_L_law_1311 rfl rfl ?_
  refine q_cP (f := (oW Sh)) (av := [.ref 102]) (st := []) (z_runV ck_X12_thrown rfl ml_L_104 ci_X12_thrown cv_X12_thrown (K_102 h0) (ci := 12) rfl rfl (Nat.le_of_ble_eq_true rfl) d_L_law_1312) (s_X12_thrown hst h0 (by omega)) kp_W (fun x6 _ => ?_)
  refine r_iload (pc := 1315) 1 d_L_law_1315 rfl ?_
  refine r_icmp_eq (f := (oW Sh)) (pc := 1317) 1322 d_L_law_1317 (by decide) (fun c7 => ?_) (fun c7 => ?_)
  · refine r_iload (pc := 1322) 1 d_L_law_1322 rfl ?_
    refine r_if_ne (f := (oW Sh)) (pc := 1324) 1339 d_L_law_1324 (by decide) (fun c8 => ?_) (fun c8 => ?_)
    · refine r_goto (pc := 1339) 2076 d_L_law_1339 (by decide) ?_
      refine r_pick [2, 3, 4, 5, 6] (ls' := [(0, .ref 1006000), (1, .ref 0), (2, .ref 102), (3, .ref 206), (4, .int v4)]) rfl ?_
      exact hk Sh q5.2 h0
    · refine r_aload_n (pc := 1327) 5 d_L_law_1327 rfl rfl ?_
      refine r_iconst (pc := 1328) (0 : Int32) d_L_law_1328 rfl ?_
      refine q_lald (pc := 1329) (j := 0) (K_206 h0) (by unfold vp_in; decide) rfl d_L_law_1329 ?_
      refine r_iload (pc := 1330) 0 d_L_law_1330 rfl ?_
      refine r_i2l (pc := 1332) d_L_law_1332 ?_
      refine r_lcmp (pc := 1333) d_L_law_1333 ?_
      refine r_if_eq (f := (oW Sh)) (pc := 1334) 1339 d_L_law_1334 (by decide) (fun c9 => ?_) (fun c9 => ?_)
      · refine r_goto (pc := 1339) 2076 d_L_law_1339 (by decide) ?_
        refine r_pick [2, 3, 4, 5, 6] (ls' := [(0, .ref 1006000), (1, .ref 0), (2, .ref 102), (3, .ref 206), (4, .int v4)]) rfl ?_
        exact hk Sh q5.2 h0
      · refine r_iconst (pc := 1337) (0 : Int32) d_L_law_1337 rfl ?_
        exact r_zret (pc := 1338) rfl (by decide) d_L_law_1338
  · refine r_iconst (pc := 1320) (0 : Int32) d_L_law_1320 rfl ?_
    exact r_zret (pc := 1321) rfl (by decide) d_L_law_1321
def fc_22 (w : Nat → Int32) (nS : Nat) (k : zD → Option (Int32 × Nat × zD)) (v4 : Int32) (D : zD) : Option (Int32 × Nat × zD) := zck (v4 + (1 : Int32)) nS <| zck (v4 + (2 : Int32)) nS <| fwA (fw_L_akin (w (v4 + (1 : Int32)).toNatClampNeg) (w (v4 + (2 : Int32)).toNatClampNeg) D) fun x3 D4 => zck (v4 + (1 : Int32)) nS <| zck (v4 + (2 : Int32)) nS <| (fn_X12_akin (w (v4 + (1 : Int32)).toNatClampNeg) (w (v4 + (2 : Int32)).toNatClampNeg) D4).bind fun q7 => (fn_X12_thrown q7.2).bind fun x8 => (if x8 = x3 then ((if x3 = 0 then ((if (lg_cmp (gL q7.2 206 0) (q7.1).toInt64) = 0 then ((k q7.2)) else ((some ((0 : Int32), 0, q7.2))))) else ((k q7.2)))) else ((some ((0 : Int32), 0, q7.2))))
theorem lc_22 {X : zX} {d : Nat} {w : Nat → Int32} {nS : Nat} (hst : (zl X).stackTraces = false) (hs : zScr X nS w) (hd : 146 ≤ d) {k : zD → Option (Int32 × Nat × zD)} {v4 : Int32} (hk : ∀ (Sh : zSh) (D : zD), zSh0 Sh → Rn X m_L_law (d + 1) 2076 [(0, .ref 1006000), (1, .ref 0), (2, .ref 102), (3, .ref 206), (4, .int v4)] [] (Sh, D) (oW Sh (k D))) {Sh : zSh} (h0 : zSh0 Sh) {D : zD} : Rn X m_L_law (d + 1) 1342 [(0, .ref 1006000), (1, .ref 0), (2, .ref 102), (3, .ref 206), (4, .int v4)] [] (Sh, D) (oW Sh (fc_22 w nS k v4 D)) := by
  unfold fc_22
  refine r_aload_n (pc := 1342) 1 d_L_law_1342 rfl rfl ?_
  refine r_aload_n (pc := 1343) 0 d_L_law_1343 rfl rfl ?_
  refine r_iload (pc := 1344) 4 d_L_law_1344 rfl ?_
  refine r_iconst (pc := 1346) (1 : Int32) d_L_law_1346 rfl ?_
  refine r_iadd (pc := 1347) d_L_law_1347 ?_
  refine r_ck (f := (oW Sh)) rfl (fun hc1 => ?_)
  refine r_scr (pc := 1348) (j := (v4 + (1 : Int32)).toNatClampNeg) hs hc1 rfl d_L_law_1348 ?_
  refine r_aload_n (pc := 1349) 0 d_L_law_1349 rfl rfl ?_
  refine r_iload (pc := 1350) 4 d_L_law_1350 rfl ?_
  refine r_iconst (pc := 1352) (2 : Int32) d_L_law_1352 rfl ?_
  refine r_iadd (pc := 1353) d_L_law_1353 ?_
  refine r_ck (f := (oW Sh)) rfl (fun hc2 => ?_)
  refine r_scr (pc := 1354) (j := (v4 + (2 : Int32)).toNatClampNeg) hs hc2 rfl d_L_law_1354 ?_
  refine r_aload_n (pc := 1355) 3 d_L_law_1355 rfl rfl ?_
  refine q_cW (av := [.ref 0, .int (w (v4 + (1 : Int32)).toNatClampNeg), .int (w (v4 + (2 : Int32)).toNatClampNeg), .ref 206]) (st := []) h0 (z_runSX ck_L_akin rfl ml_L_174 cs_L_akin rfl (Nat.le_of_ble_eq_true rfl) d_L_law_1356) (w_L_akin hst h0 (by omega)) (fun x3 Sh D4 h0 => ?_)
  refine r_istore (pc := 1359) (ls' := [(5, .int x3), (0, .ref 1006000), (1, .ref 0), (2, .ref 102), (3, .ref 206), (4, .int v4)]) d_L_law_1359 (Nat.le_of_ble_eq_true rfl) rfl ?_
  refine r_aload_n (pc := 1361) 3 d_L_law_1361 rfl rfl ?_
  refine r_aload_n (pc := 1362) 1 d_L_law_1362 rfl rfl ?_
  refine r_iload (pc := 1363) 5 d_L_law_1363 rfl ?_
  refine r_iconst (pc := 1365) (1 : Int32) d_L_law_1365 rfl ?_
  refine r_iadd (pc := 1366) d_L_law_1366 ?_
  refine r_ck (f := (oW Sh)) rfl (fun hc5 => ?_)
  refine r_scr (pc := 1367) (j := (v4 + (1 : Int32)).toNatClampNeg) hs hc5 rfl d_L_law_1367 ?_
  refine r_aload_n (pc := 1368) 1 d_L_law_1368 rfl rfl ?_
  refine r_iload (pc := 1369) 5 d_L_law_1369 rfl ?_
  refine r_iconst (pc := 1371) (2 : Int32) d_L_law_1371 rfl ?_
  refine r_iadd (pc := 1372) d_L_law_1372 ?_
  refine r_ck (f := (oW Sh)) rfl (fun hc6 => ?_)
  refine r_scr (pc := 1373) (j := (v4 + (2 : Int32)).toNatClampNeg) hs hc6 rfl d_L_law_1373 ?_
  refine q_cI (f := (oW Sh)) (av := [.ref 102, .int (w (v4 + (1 : Int32)).toNatClampNeg), .int (w (v4 + (2 : Int32)).toNatClampNeg)]) (st := []) (z_runV ck_X12_akin rfl ml_L_176 ci_X12_akin cv_X12_akin (K_102 h0) (ci := 12) rfl rfl (Nat.le_of_ble_eq_true rfl) d_L_law_1374) (s_X12_akin hst h0 (by omega)) kp_W (fun q7 _ => ?_)
  refine r_istore (pc := 1377) (ls' := [(6, .int q7.1), (5, .int x3), (0, .ref 1006000), (1, .ref 0), (2, .ref 102), (3, .ref 206), (4, .int v4)]) d_L_law_1377 (Nat.le_of_ble_eq_true rfl) rfl ?_
  refine r_aload_n (pc := 1379) 4 d_L_law_1379 rfl rfl ?_
  refine q_cP (f := (oW Sh)) (av := [.ref 102]) (st := []) (z_runV ck_X12_thrown rfl ml_L_104 ci_X12_thrown cv_X12_thrown (K_102 h0) (ci := 12) rfl rfl (Nat.le_of_ble_eq_true rfl) d_L_law_1380) (s_X12_thrown hst h0 (by omega)) kp_W (fun x8 _ => ?_)
  refine r_iload (pc := 1383) 1 d_L_law_1383 rfl ?_
  refine r_icmp_eq (f := (oW Sh)) (pc := 1385) 1390 d_L_law_1385 (by decide) (fun c9 => ?_) (fun c9 => ?_)
  · refine r_iload (pc := 1390) 1 d_L_law_1390 rfl ?_
    refine r_if_ne (f := (oW Sh)) (pc := 1392) 1407 d_L_law_1392 (by decide) (fun c10 => ?_) (fun c10 => ?_)
    · refine r_goto (pc := 1407) 2076 d_L_law_1407 (by decide) ?_
      refine r_pick [2, 3, 4, 5, 6] (ls' := [(0, .ref 1006000), (1, .ref 0), (2, .ref 102), (3, .ref 206), (4, .int v4)]) rfl ?_
      exact hk Sh q7.2 h0
    · refine r_aload_n (pc := 1395) 5 d_L_law_1395 rfl rfl ?_
      refine r_iconst (pc := 1396) (0 : Int32) d_L_law_1396 rfl ?_
      refine q_lald (pc := 1397) (j := 0) (K_206 h0) (by unfold vp_in; decide) rfl d_L_law_1397 ?_
      refine r_iload (pc := 1398) 0 d_L_law_1398 rfl ?_
      refine r_i2l (pc := 1400) d_L_law_1400 ?_
      refine r_lcmp (pc := 1401) d_L_law_1401 ?_
      refine r_if_eq (f := (oW Sh)) (pc := 1402) 1407 d_L_law_1402 (by decide) (fun c11 => ?_) (fun c11 => ?_)
      · refine r_goto (pc := 1407) 2076 d_L_law_1407 (by decide) ?_
        refine r_pick [2, 3, 4, 5, 6] (ls' := [(0, .ref 1006000), (1, .ref 0), (2, .ref 102), (3, .ref 206), (4, .int v4)]) rfl ?_
        exact hk Sh q7.2 h0
      · refine r_iconst (pc := 1405) (0 : Int32) d_L_law_1405 rfl ?_
        exact r_zret (pc := 1406) rfl (by decide) d_L_law_1406
  · refine r_iconst (pc := 1388) (0 : Int32) d_L_law_1388 rfl ?_
    exact r_zret (pc := 1389) rfl (by decide) d_L_law_1389
def fc_23 (w : Nat → Int32) (nS : Nat) (k : zD → Option (Int32 × Nat × zD)) (v4 : Int32) (D : zD) : Option (Int32 × Nat × zD) := (fn_X11_strangers D).bind fun x1 => (fn_X12_strangers D).bind fun q2 => (if x1 = q2.1 then ((k q2.2)) else ((some ((0 : Int32), 0, q2.2))))
theorem lc_23 {X : zX} {d : Nat} {w : Nat → Int32} {nS : Nat} (hst : (zl X).stackTraces = false) (hs : zScr X nS w) (hd : 146 ≤ d) {k : zD → Option (Int32 × Nat × zD)} {v4 : Int32} (hk : ∀ (Sh : zSh) (D : zD), zSh0 Sh → Rn X m_L_law (d + 1) 2076 [(0, .ref 1006000), (1, .ref 0), (2, .ref 102), (3, .ref 206), (4, .int v4)] [] (Sh, D) (oW Sh (k D))) {Sh : zSh} (h0 : zSh0 Sh) {D : zD} : Rn X m_L_law (d + 1) 1410 [(0, .ref 1006000), (1, .ref 0), (2, .ref 102), (3, .ref 206), (4, .int v4)] [] (Sh, D) (oW Sh (fc_23 w nS k v4 D)) := by
  unfold fc_23
  refine r_aload_n (pc := 1410) 1 d_L_law_1410 rfl rfl ?_
  refine q_cP (f := (oW Sh)) (av := [.ref 0]) (st := []) (z_runV ck_X11_strangers rfl ml_L_177 ci_X11_strangers cv_X11_strangers (K_0 h0) (ci := 11) rfl rfl (Nat.le_of_ble_eq_true rfl) d_L_law_1411) (s_X11_strangers hst h0 (by omega)) kp_W (fun x1 _ => ?_)
  refine r_aload_n (pc := 1414) 2 d_L_law_1414 rfl rfl ?_
  refine q_cI (f := (oW Sh)) (av := [.ref 102]) (st := [.int x1]) (z_runV ck_X12_strangers rfl ml_L_180 ci_X12_strangers cv_X12_strangers (K_102 h0) (ci := 12) rfl rfl (Nat.le_of_ble_eq_true rfl) d_L_law_1415) (s_X12_strangers hst h0 (by omega)) kp_W (fun q2 _ => ?_)
  refine r_icmp_eq (f := (oW Sh)) (pc := 1418) 2076 d_L_law_1418 (by decide) (fun c3 => ?_) (fun c3 => ?_)
  · refine r_pick [0, 1, 2, 3, 4] (ls' := [(0, .ref 1006000), (1, .ref 0), (2, .ref 102), (3, .ref 206), (4, .int v4)]) rfl ?_
    exact hk Sh q2.2 h0
  · refine r_iconst (pc := 1421) (0 : Int32) d_L_law_1421 rfl ?_
    exact r_zret (pc := 1422) rfl (by decide) d_L_law_1422
def fc_24 (w : Nat → Int32) (nS : Nat) (k : zD → Option (Int32 × Nat × zD)) (v4 : Int32) (D : zD) : Option (Int32 × Nat × zD) := zck (v4 + (1 : Int32)) nS <| fwA (fw_L_changed (w (v4 + (1 : Int32)).toNatClampNeg) D) fun x2 D3 => zck (v4 + (1 : Int32)) nS <| (fn_X12_changed (w (v4 + (1 : Int32)).toNatClampNeg) D3).bind fun q5 => (fn_X12_thrown q5.2).bind fun x6 => (if x6 = x2 then ((if x2 = 0 then ((if (lg_cmp (gL q5.2 206 0) (q5.1).toInt64) = 0 then ((k q5.2)) else ((some ((0 : Int32), 0, q5.2))))) else ((k q5.2)))) else ((some ((0 : Int32), 0, q5.2))))
theorem lc_24 {X : zX} {d : Nat} {w : Nat → Int32} {nS : Nat} (hst : (zl X).stackTraces = false) (hs : zScr X nS w) (hd : 146 ≤ d) {k : zD → Option (Int32 × Nat × zD)} {v4 : Int32} (hk : ∀ (Sh : zSh) (D : zD), zSh0 Sh → Rn X m_L_law (d + 1) 2076 [(0, .ref 1006000), (1, .ref 0), (2, .ref 102), (3, .ref 206), (4, .int v4)] [] (Sh, D) (oW Sh (k D))) {Sh : zSh} (h0 : zSh0 Sh) {D : zD} : Rn X m_L_law (d + 1) 1423 [(0, .ref 1006000), (1, .ref 0), (2, .ref 102), (3, .ref 206), (4, .int v4)] [] (Sh, D) (oW Sh (fc_24 w nS k v4 D)) := by
  unfold fc_24
  refine r_aload_n (pc := 1423) 1 d_L_law_1423 rfl rfl ?_
  refine r_aload_n (pc := 1424) 0 d_L_law_1424 rfl rfl ?_
  refine r_iload (pc := 1425) 4 d_L_law_1425 rfl ?_
  refine r_iconst (pc := 1427) (1 : Int32) d_L_law_1427 rfl ?_
  refine r_iadd (pc := 1428) d_L_law_1428 ?_
  refine r_ck (f := (oW Sh)) rfl (fun hc1 => ?_)
  refine r_scr (pc := 1429) (j := (v4 + (1 : Int32)).toNatClampNeg) hs hc1 rfl d_L_law_1429 ?_
  refine r_aload_n (pc := 1430) 3 d_L_law_1430 rfl rfl ?_
  refine q_cW (av := [.ref 0, .int (w (v4 + (1 : Int32)).toNatClampNeg), .ref 206]) (st := []) h0 (z_runSX ck_L_changed rfl ml_L_181 cs_L_changed rfl (Nat.le_of_ble_eq_true rfl) d_L_law_1431) (w_L_changed hst h0 (by omega)) (fun x2 Sh D3 h0 => ?_)
  refine r_istore (pc := 1434) (ls' := [(5, .int x2), (0, .ref 1006000), (1, .ref 0), (2, .ref 102), (3, .ref 206), (4, .int v4)]) d_L_law_1434 (Nat.le_of_ble_eq_true rfl) rfl ?_
  refine r_aload_n (pc := 1436) 3 d_L_law_1436 rfl rfl ?_
  refine r_aload_n (pc := 1437) 1 d_L_law_1437 rfl rfl ?_
  refine r_iload (pc := 1438) 5 d_L_law_1438 rfl ?_
  refine r_iconst (pc := 1440) (1 : Int32) d_L_law_1440 rfl ?_
  refine r_iadd (pc := 1441) d_L_law_1441 ?_
  refine r_ck (f := (oW Sh)) rfl (fun hc4 => ?_)
  refine r_scr (pc := 1442) (j := (v4 + (1 : Int32)).toNatClampNeg) hs hc4 rfl d_L_law_1442 ?_
  refine q_cI (f := (oW Sh)) (av := [.ref 102, .int (w (v4 + (1 : Int32)).toNatClampNeg)]) (st := []) (z_runV ck_X12_changed rfl ml_L_183 ci_X12_changed cv_X12_changed (K_102 h0) (ci := 12) rfl rfl (Nat.le_of_ble_eq_true rfl) d_L_law_1443) (s_X12_changed hst h0 (by omega)) kp_W (fun q5 _ => ?_)
  refine r_istore (pc := 1446) (ls' := [(6, .int q5.1), (5, .int x2), (0, .ref 1006000), (1, .ref 0), (2, .ref 102), (3, .ref 206), (4, .int v4)]) d_L_law_1446 (Nat.le_of_ble_eq_true rfl) rfl ?_
  refine r_aload_n (pc := 1448) 4 d_L_law_1448 rfl rfl ?_
  refine q_cP (f := (oW Sh)) (av := [.ref 102]) (st := []) (z_runV ck_X12_thrown rfl ml_L_104 ci_X12_thrown cv_X12_thrown (K_102 h0) (ci := 12) rfl rfl (Nat.le_of_ble_eq_true rfl) d_L_law_1449) (s_X12_thrown hst h0 (by omega)) kp_W (fun x6 _ => ?_)
  refine r_iload (pc := 1452) 1 d_L_law_1452 rfl ?_
  refine r_icmp_eq (f := (oW Sh)) (pc := 1454) 1459 d_L_law_1454 (by decide) (fun c7 => ?_) (fun c7 => ?_)
  · refine r_iload (pc := 1459) 1 d_L_law_1459 rfl ?_
    refine r_if_ne (f := (oW Sh)) (pc := 1461) 1476 d_L_law_1461 (by decide) (fun c8 => ?_) (fun c8 => ?_)
    · refine r_goto (pc := 1476) 2076 d_L_law_1476 (by decide) ?_
      refine r_pick [2, 3, 4, 5, 6] (ls' := [(0, .ref 1006000), (1, .ref 0), (2, .ref 102), (3, .ref 206), (4, .int v4)]) rfl ?_
      exact hk Sh q5.2 h0
    · refine r_aload_n (pc := 1464) 5 d_L_law_1464 rfl rfl ?_
      refine r_iconst (pc := 1465) (0 : Int32) d_L_law_1465 rfl ?_
      refine q_lald (pc := 1466) (j := 0) (K_206 h0) (by unfold vp_in; decide) rfl d_L_law_1466 ?_
      refine r_iload (pc := 1467) 0 d_L_law_1467 rfl ?_
      refine r_i2l (pc := 1469) d_L_law_1469 ?_
      refine r_lcmp (pc := 1470) d_L_law_1470 ?_
      refine r_if_eq (f := (oW Sh)) (pc := 1471) 1476 d_L_law_1471 (by decide) (fun c9 => ?_) (fun c9 => ?_)
      · refine r_goto (pc := 1476) 2076 d_L_law_1476 (by decide) ?_
        refine r_pick [2, 3, 4, 5, 6] (ls' := [(0, .ref 1006000), (1, .ref 0), (2, .ref 102), (3, .ref 206), (4, .int v4)]) rfl ?_
        exact hk Sh q5.2 h0
      · refine r_iconst (pc := 1474) (0 : Int32) d_L_law_1474 rfl ?_
        exact r_zret (pc := 1475) rfl (by decide) d_L_law_1475
  · refine r_iconst (pc := 1457) (0 : Int32) d_L_law_1457 rfl ?_
    exact r_zret (pc := 1458) rfl (by decide) d_L_law_1458
def fc_25 (w : Nat → Int32) (nS : Nat) (k : zD → Option (Int32 × Nat × zD)) (v4 : Int32) (D : zD) : Option (Int32 × Nat × zD) := (fn_X11_bound D).bind fun q1 => (fn_X12_bound q1.2).bind fun q2 => (if q1.1 = q2.1 then ((k q2.2)) else ((some ((0 : Int32), 0, q2.2))))
theorem lc_25 {X : zX} {d : Nat} {w : Nat → Int32} {nS : Nat} (hst : (zl X).stackTraces = false) (hs : zScr X nS w) (hd : 146 ≤ d) {k : zD → Option (Int32 × Nat × zD)} {v4 : Int32} (hk : ∀ (Sh : zSh) (D : zD), zSh0 Sh → Rn X m_L_law (d + 1) 2076 [(0, .ref 1006000), (1, .ref 0), (2, .ref 102), (3, .ref 206), (4, .int v4)] [] (Sh, D) (oW Sh (k D))) {Sh : zSh} (h0 : zSh0 Sh) {D : zD} : Rn X m_L_law (d + 1) 1479 [(0, .ref 1006000), (1, .ref 0), (2, .ref 102), (3, .ref 206), (4, .int v4)] [] (Sh, D) (oW Sh (fc_25 w nS k v4 D)) := by
  unfold fc_25
  refine r_aload_n (pc := 1479) 1 d_L_law_1479 rfl rfl ?_
  refine q_cI (f := (oW Sh)) (av := [.ref 0]) (st := []) (z_runV ck_X11_bound rfl ml_L_184 ci_X11_bound cv_X11_bound (K_0 h0) (ci := 11) rfl rfl (Nat.le_of_ble_eq_true rfl) d_L_law_1480) (s_X11_bound hst h0 (by omega)) kp_W (fun q1 _ => ?_)
  refine r_aload_n (pc := 1483) 2 d_L_law_1483 rfl rfl ?_
  refine q_cI (f := (oW Sh)) (av := [.ref 102]) (st := [.int q1.1]) (z_runV ck_X12_bound rfl ml_L_187 ci_X12_bound cv_X12_bound (K_102 h0) (ci := 12) rfl rfl (Nat.le_of_ble_eq_true rfl) d_L_law_1484) (s_X12_bound hst h0 (by omega)) kp_W (fun q2 _ => ?_)
  refine r_icmp_eq (f := (oW Sh)) (pc := 1487) 2076 d_L_law_1487 (by decide) (fun c3 => ?_) (fun c3 => ?_)
  · refine r_pick [0, 1, 2, 3, 4] (ls' := [(0, .ref 1006000), (1, .ref 0), (2, .ref 102), (3, .ref 206), (4, .int v4)]) rfl ?_
    exact hk Sh q2.2 h0
  · refine r_iconst (pc := 1490) (0 : Int32) d_L_law_1490 rfl ?_
    exact r_zret (pc := 1491) rfl (by decide) d_L_law_1491
def fc_26 (w : Nat → Int32) (nS : Nat) (k : zD → Option (Int32 × Nat × zD)) (v4 : Int32) (D : zD) : Option (Int32 × Nat × zD) := zck (v4 + (1 : Int32)) nS <| fwA (fw_L_steps (w (v4 + (1 : Int32)).toNatClampNeg) D) fun x2 D3 => zck (v4 + (1 : Int32)) nS <| (fn_X12_steps (w (v4 + (1 : Int32)).toNatClampNeg) D3).bind fun q5 => (fn_X12_thrown q5.2).bind fun x6 => (if x6 = x2 then ((if x2 = 0 then ((if (lg_cmp (gL q5.2 206 0) (q5.1).toInt64) = 0 then ((k q5.2)) else ((some ((0 : Int32), 0, q5.2))))) else ((k q5.2)))) else ((some ((0 : Int32), 0, q5.2))))
theorem lc_26 {X : zX} {d : Nat} {w : Nat → Int32} {nS : Nat} (hst : (zl X).stackTraces = false) (hs : zScr X nS w) (hd : 146 ≤ d) {k : zD → Option (Int32 × Nat × zD)} {v4 : Int32} (hk : ∀ (Sh : zSh) (D : zD), zSh0 Sh → Rn X m_L_law (d + 1) 2076 [(0, .ref 1006000), (1, .ref 0), (2, .ref 102), (3, .ref 206), (4, .int v4)] [] (Sh, D) (oW Sh (k D))) {Sh : zSh} (h0 : zSh0 Sh) {D : zD} : Rn X m_L_law (d + 1) 1492 [(0, .ref 1006000), (1, .ref 0), (2, .ref 102), (3, .ref 206), (4, .int v4)] [] (Sh, D) (oW Sh (fc_26 w nS k v4 D)) := by
  unfold fc_26
  refine r_aload_n (pc := 1492) 1 d_L_law_1492 rfl rfl ?_
  refine r_aload_n (pc := 1493) 0 d_L_law_1493 rfl rfl ?_
  refine r_iload (pc := 1494) 4 d_L_law_1494 rfl ?_
  refine r_iconst (pc := 1496) (1 : Int32) d_L_law_1496 rfl ?_
  refine r_iadd (pc := 1497) d_L_law_1497 ?_
  refine r_ck (f := (oW Sh)) rfl (fun hc1 => ?_)
  refine r_scr (pc := 1498) (j := (v4 + (1 : Int32)).toNatClampNeg) hs hc1 rfl d_L_law_1498 ?_
  refine r_aload_n (pc := 1499) 3 d_L_law_1499 rfl rfl ?_
  refine q_cW (av := [.ref 0, .int (w (v4 + (1 : Int32)).toNatClampNeg), .ref 206]) (st := []) h0 (z_runSX ck_L_steps rfl ml_L_188 cs_L_steps rfl (Nat.le_of_ble_eq_true rfl) d_L_law_1500) (w_L_steps hst h0 (by omega)) (fun x2 Sh D3 h0 => ?_)
  refine r_istore (pc := 1503) (ls' := [(5, .int x2), (0, .ref 1006000), (1, .ref 0), (2, .ref 102), (3, .ref 206), (4, .int v4)]) d_L_law_1503 (Nat.le_of_ble_eq_true rfl) rfl ?_
  refine r_aload_n (pc := 1505) 3 d_L_law_1505 rfl rfl ?_
  refine r_aload_n (pc := 1506) 1 d_L_law_1506 rfl rfl ?_
  refine r_iload (pc := 1507) 5 d_L_law_1507 rfl ?_
  refine r_iconst (pc := 1509) (1 : Int32) d_L_law_1509 rfl ?_
  refine r_iadd (pc := 1510) d_L_law_1510 ?_
  refine r_ck (f := (oW Sh)) rfl (fun hc4 => ?_)
  refine r_scr (pc := 1511) (j := (v4 + (1 : Int32)).toNatClampNeg) hs hc4 rfl d_L_law_1511 ?_
  refine q_cI (f := (oW Sh)) (av := [.ref 102, .int (w (v4 + (1 : Int32)).toNatClampNeg)]) (st := []) (z_runV ck_X12_steps rfl ml_L_190 ci_X12_steps cv_X12_steps (K_102 h0) (ci := 12) rfl rfl (Nat.le_of_ble_eq_true rfl) d_L_law_1512) (s_X12_steps hst h0 (by omega)) kp_W (fun q5 _ => ?_)
  refine r_istore (pc := 1515) (ls' := [(6, .int q5.1), (5, .int x2), (0, .ref 1006000), (1, .ref 0), (2, .ref 102), (3, .ref 206), (4, .int v4)]) d_L_law_1515 (Nat.le_of_ble_eq_true rfl) rfl ?_
  refine r_aload_n (pc := 1517) 4 d_L_law_1517 rfl rfl ?_
  refine q_cP (f := (oW Sh)) (av := [.ref 102]) (st := []) (z_runV ck_X12_thrown rfl ml_L_104 ci_X12_thrown cv_X12_thrown (K_102 h0) (ci := 12) rfl rfl (Nat.le_of_ble_eq_true rfl) d_L_law_1518) (s_X12_thrown hst h0 (by omega)) kp_W (fun x6 _ => ?_)
  refine r_iload (pc := 1521) 1 d_L_law_1521 rfl ?_
  refine r_icmp_eq (f := (oW Sh)) (pc := 1523) 1528 d_L_law_1523 (by decide) (fun c7 => ?_) (fun c7 => ?_)
  · refine r_iload (pc := 1528) 1 d_L_law_1528 rfl ?_
    refine r_if_ne (f := (oW Sh)) (pc := 1530) 1545 d_L_law_1530 (by decide) (fun c8 => ?_) (fun c8 => ?_)
    · refine r_goto (pc := 1545) 2076 d_L_law_1545 (by decide) ?_
      refine r_pick [2, 3, 4, 5, 6] (ls' := [(0, .ref 1006000), (1, .ref 0), (2, .ref 102), (3, .ref 206), (4, .int v4)]) rfl ?_
      exact hk Sh q5.2 h0
    · refine r_aload_n (pc := 1533) 5 d_L_law_1533 rfl rfl ?_
      refine r_iconst (pc := 1534) (0 : Int32) d_L_law_1534 rfl ?_
      refine q_lald (pc := 1535) (j := 0) (K_206 h0) (by unfold vp_in; decide) rfl d_L_law_1535 ?_
      refine r_iload (pc := 1536) 0 d_L_law_1536 rfl ?_
      refine r_i2l (pc := 1538) d_L_law_1538 ?_
      refine r_lcmp (pc := 1539) d_L_law_1539 ?_
      refine r_if_eq (f := (oW Sh)) (pc := 1540) 1545 d_L_law_1540 (by decide) (fun c9 => ?_) (fun c9 => ?_)
      · refine r_goto (pc := 1545) 2076 d_L_law_1545 (by decide) ?_
        refine r_pick [2, 3, 4, 5, 6] (ls' := [(0, .ref 1006000), (1, .ref 0), (2, .ref 102), (3, .ref 206), (4, .int v4)]) rfl ?_
        exact hk Sh q5.2 h0
      · refine r_iconst (pc := 1543) (0 : Int32) d_L_law_1543 rfl ?_
        exact r_zret (pc := 1544) rfl (by decide) d_L_law_1544
  · refine r_iconst (pc := 1526) (0 : Int32) d_L_law_1526 rfl ?_
    exact r_zret (pc := 1527) rfl (by decide) d_L_law_1527
def fc_27 (w : Nat → Int32) (nS : Nat) (k : zD → Option (Int32 × Nat × zD)) (v4 : Int32) (D : zD) : Option (Int32 × Nat × zD) := (fn_X11_most D).bind fun q1 => (fn_X12_most q1.2).bind fun q2 => (if q1.1 = q2.1 then ((k q2.2)) else ((some ((0 : Int32), 0, q2.2))))
theorem lc_27 {X : zX} {d : Nat} {w : Nat → Int32} {nS : Nat} (hst : (zl X).stackTraces = false) (hs : zScr X nS w) (hd : 146 ≤ d) {k : zD → Option (Int32 × Nat × zD)} {v4 : Int32} (hk : ∀ (Sh : zSh) (D : zD), zSh0 Sh → Rn X m_L_law (d + 1) 2076 [(0, .ref 1006000), (1, .ref 0), (2, .ref 102), (3, .ref 206), (4, .int v4)] [] (Sh, D) (oW Sh (k D))) {Sh : zSh} (h0 : zSh0 Sh) {D : zD} : Rn X m_L_law (d + 1) 1548 [(0, .ref 1006000), (1, .ref 0), (2, .ref 102), (3, .ref 206), (4, .int v4)] [] (Sh, D) (oW Sh (fc_27 w nS k v4 D)) := by
  unfold fc_27
  refine r_aload_n (pc := 1548) 1 d_L_law_1548 rfl rfl ?_
  refine q_cI (f := (oW Sh)) (av := [.ref 0]) (st := []) (z_runV ck_X11_most rfl ml_L_191 ci_X11_most cv_X11_most (K_0 h0) (ci := 11) rfl rfl (Nat.le_of_ble_eq_true rfl) d_L_law_1549) (s_X11_most hst h0 (by omega)) kp_W (fun q1 _ => ?_)
  refine r_aload_n (pc := 1552) 2 d_L_law_1552 rfl rfl ?_
  refine q_cI (f := (oW Sh)) (av := [.ref 102]) (st := [.int q1.1]) (z_runV ck_X12_most rfl ml_L_194 ci_X12_most cv_X12_most (K_102 h0) (ci := 12) rfl rfl (Nat.le_of_ble_eq_true rfl) d_L_law_1553) (s_X12_most hst h0 (by omega)) kp_W (fun q2 _ => ?_)
  refine r_icmp_eq (f := (oW Sh)) (pc := 1556) 2076 d_L_law_1556 (by decide) (fun c3 => ?_) (fun c3 => ?_)
  · refine r_pick [0, 1, 2, 3, 4] (ls' := [(0, .ref 1006000), (1, .ref 0), (2, .ref 102), (3, .ref 206), (4, .int v4)]) rfl ?_
    exact hk Sh q2.2 h0
  · refine r_iconst (pc := 1559) (0 : Int32) d_L_law_1559 rfl ?_
    exact r_zret (pc := 1560) rfl (by decide) d_L_law_1560
def fc_28 (w : Nat → Int32) (nS : Nat) (k : zD → Option (Int32 × Nat × zD)) (v4 : Int32) (D : zD) : Option (Int32 × Nat × zD) := (fn_X11_taken D).bind fun q1 => (fn_X12_taken q1.2).bind fun q2 => (if q1.1 = q2.1 then ((k q2.2)) else ((some ((0 : Int32), 0, q2.2))))
theorem lc_28 {X : zX} {d : Nat} {w : Nat → Int32} {nS : Nat} (hst : (zl X).stackTraces = false) (hs : zScr X nS w) (hd : 146 ≤ d) {k : zD → Option (Int32 × Nat × zD)} {v4 : Int32} (hk : ∀ (Sh : zSh) (D : zD), zSh0 Sh → Rn X m_L_law (d + 1) 2076 [(0, .ref 1006000), (1, .ref 0), (2, .ref 102), (3, .ref 206), (4, .int v4)] [] (Sh, D) (oW Sh (k D))) {Sh : zSh} (h0 : zSh0 Sh) {D : zD} : Rn X m_L_law (d + 1) 1561 [(0, .ref 1006000), (1, .ref 0), (2, .ref 102), (3, .ref 206), (4, .int v4)] [] (Sh, D) (oW Sh (fc_28 w nS k v4 D)) := by
  unfold fc_28
  refine r_aload_n (pc := 1561) 1 d_L_law_1561 rfl rfl ?_
  refine q_cI (f := (oW Sh)) (av := [.ref 0]) (st := []) (z_runV ck_X11_taken rfl ml_L_195 ci_X11_taken cv_X11_taken (K_0 h0) (ci := 11) rfl rfl (Nat.le_of_ble_eq_true rfl) d_L_law_1562) (s_X11_taken hst h0 (by omega)) kp_W (fun q1 _ => ?_)
  refine r_aload_n (pc := 1565) 2 d_L_law_1565 rfl rfl ?_
  refine q_cI (f := (oW Sh)) (av := [.ref 102]) (st := [.int q1.1]) (z_runV ck_X12_taken rfl ml_L_198 ci_X12_taken cv_X12_taken (K_102 h0) (ci := 12) rfl rfl (Nat.le_of_ble_eq_true rfl) d_L_law_1566) (s_X12_taken hst h0 (by omega)) kp_W (fun q2 _ => ?_)
  refine r_icmp_eq (f := (oW Sh)) (pc := 1569) 2076 d_L_law_1569 (by decide) (fun c3 => ?_) (fun c3 => ?_)
  · refine r_pick [0, 1, 2, 3, 4] (ls' := [(0, .ref 1006000), (1, .ref 0), (2, .ref 102), (3, .ref 206), (4, .int v4)]) rfl ?_
    exact hk Sh q2.2 h0
  · refine r_iconst (pc := 1572) (0 : Int32) d_L_law_1572 rfl ?_
    exact r_zret (pc := 1573) rfl (by decide) d_L_law_1573
def fc_29 (w : Nat → Int32) (nS : Nat) (k : zD → Option (Int32 × Nat × zD)) (v4 : Int32) (D : zD) : Option (Int32 × Nat × zD) := zck (v4 + (1 : Int32)) nS <| zck (v4 + (2 : Int32)) nS <| zck (v4 + (3 : Int32)) nS <| fwA (fw_L_stand (w (v4 + (1 : Int32)).toNatClampNeg) (w (v4 + (2 : Int32)).toNatClampNeg) (w (v4 + (3 : Int32)).toNatClampNeg) D) fun x4 D5 => zck (v4 + (1 : Int32)) nS <| zck (v4 + (2 : Int32)) nS <| zck (v4 + (3 : Int32)) nS <| (fn_X12_stand (w (v4 + (1 : Int32)).toNatClampNeg) (w (v4 + (2 : Int32)).toNatClampNeg) (w (v4 + (3 : Int32)).toNatClampNeg) D5).bind fun q9 => (fn_X12_thrown q9.2).bind fun x10 => (if x10 = x4 then ((if x4 = 0 then ((if (lg_cmp (gL q9.2 206 0) (q9.1).toInt64) = 0 then ((k q9.2)) else ((some ((0 : Int32), 0, q9.2))))) else ((k q9.2)))) else ((some ((0 : Int32), 0, q9.2))))
theorem lc_29 {X : zX} {d : Nat} {w : Nat → Int32} {nS : Nat} (hst : (zl X).stackTraces = false) (hs : zScr X nS w) (hd : 146 ≤ d) {k : zD → Option (Int32 × Nat × zD)} {v4 : Int32} (hk : ∀ (Sh : zSh) (D : zD), zSh0 Sh → Rn X m_L_law (d + 1) 2076 [(0, .ref 1006000), (1, .ref 0), (2, .ref 102), (3, .ref 206), (4, .int v4)] [] (Sh, D) (oW Sh (k D))) {Sh : zSh} (h0 : zSh0 Sh) {D : zD} : Rn X m_L_law (d + 1) 1574 [(0, .ref 1006000), (1, .ref 0), (2, .ref 102), (3, .ref 206), (4, .int v4)] [] (Sh, D) (oW Sh (fc_29 w nS k v4 D)) := by
  unfold fc_29
  refine r_aload_n (pc := 1574) 1 d_L_law_1574 rfl rfl ?_
  refine r_aload_n (pc := 1575) 0 d_L_law_1575 rfl rfl ?_
  refine r_iload (pc := 1576) 4 d_L_law_1576 rfl ?_
  refine r_iconst (pc := 1578) (1 : Int32) d_L_law_1578 rfl ?_
  refine r_iadd (pc := 1579) d_L_law_1579 ?_
  refine r_ck (f := (oW Sh)) rfl (fun hc1 => ?_)
  refine r_scr (pc := 1580) (j := (v4 + (1 : Int32)).toNatClampNeg) hs hc1 rfl d_L_law_1580 ?_
  refine r_aload_n (pc := 1581) 0 d_L_law_1581 rfl rfl ?_
  refine r_iload (pc := 1582) 4 d_L_law_1582 rfl ?_
  refine r_iconst (pc := 1584) (2 : Int32) d_L_law_1584 rfl ?_
  refine r_iadd (pc := 1585) d_L_law_1585 ?_
  refine r_ck (f := (oW Sh)) rfl (fun hc2 => ?_)
  refine r_scr (pc := 1586) (j := (v4 + (2 : Int32)).toNatClampNeg) hs hc2 rfl d_L_law_1586 ?_
  refine r_aload_n (pc := 1587) 0 d_L_law_1587 rfl rfl ?_
  refine r_iload (pc := 1588) 4 d_L_law_1588 rfl ?_
  refine r_iconst (pc := 1590) (3 : Int32) d_L_law_1590 rfl ?_
  refine r_iadd (pc := 1591) d_L_law_1591 ?_
  refine r_ck (f := (oW Sh)) rfl (fun hc3 => ?_)
  refine r_scr (pc := 1592) (j := (v4 + (3 : Int32)).toNatClampNeg) hs hc3 rfl d_L_law_1592 ?_
  refine r_aload_n (pc := 1593) 3 d_L_law_1593 rfl rfl ?_
  refine q_cW (av := [.ref 0, .int (w (v4 + (1 : Int32)).toNatClampNeg), .int (w (v4 + (2 : Int32)).toNatClampNeg), .int (w (v4 + (3 : Int32)).toNatClampNeg), .ref 206]) (st := []) h0 (z_runSX ck_L_stand rfl ml_L_199 cs_L_stand rfl (Nat.le_of_ble_eq_true rfl) d_L_law_1594) (w_L_stand hst h0 (by omega)) (fun x4 Sh D5 h0 => ?_)
  refine r_istore (pc := 1597) (ls' := [(5, .int x4), (0, .ref 1006000), (1, .ref 0), (2, .ref 102), (3, .ref 206), (4, .int v4)]) d_L_law_1597 (Nat.le_of_ble_eq_true rfl) rfl ?_
  refine r_aload_n (pc := 1599) 3 d_L_law_1599 rfl rfl ?_
  refine r_aload_n (pc := 1600) 1 d_L_law_1600 rfl rfl ?_
  refine r_iload (pc := 1601) 5 d_L_law_1601 rfl ?_
  refine r_iconst (pc := 1603) (1 : Int32) d_L_law_1603 rfl ?_
  refine r_iadd (pc := 1604) d_L_law_1604 ?_
  refine r_ck (f := (oW Sh)) rfl (fun hc6 => ?_)
  refine r_scr (pc := 1605) (j := (v4 + (1 : Int32)).toNatClampNeg) hs hc6 rfl d_L_law_1605 ?_
  refine r_aload_n (pc := 1606) 1 d_L_law_1606 rfl rfl ?_
  refine r_iload (pc := 1607) 5 d_L_law_1607 rfl ?_
  refine r_iconst (pc := 1609) (2 : Int32) d_L_law_1609 rfl ?_
  refine r_iadd (pc := 1610) d_L_law_1610 ?_
  refine r_ck (f := (oW Sh)) rfl (fun hc7 => ?_)
  refine r_scr (pc := 1611) (j := (v4 + (2 : Int32)).toNatClampNeg) hs hc7 rfl d_L_law_1611 ?_
  refine r_aload_n (pc := 1612) 1 d_L_law_1612 rfl rfl ?_
  refine r_iload (pc := 1613) 5 d_L_law_1613 rfl ?_
  refine r_iconst (pc := 1615) (3 : Int32) d_L_law_1615 rfl ?_
  refine r_iadd (pc := 1616) d_L_law_1616 ?_
  refine r_ck (f := (oW Sh)) rfl (fun hc8 => ?_)
  refine r_scr (pc := 1617) (j := (v4 + (3 : Int32)).toNatClampNeg) hs hc8 rfl d_L_law_1617 ?_
  refine q_cI (f := (oW Sh)) (av := [.ref 102, .int (w (v4 + (1 : Int32)).toNatClampNeg), .int (w (v4 + (2 : Int32)).toNatClampNeg), .int (w (v4 + (3 : Int32)).toNatClampNeg)]) (st := []) (z_runV ck_X12_stand rfl ml_L_202 ci_X12_stand cv_X12_stand (K_102 h0) (ci := 12) rfl rfl (Nat.le_of_ble_eq_true rfl) d_L_law_1618) (s_X12_stand hst h0 (by omega)) kp_W (fun q9 _ => ?_)
  refine r_istore (pc := 1621) (ls' := [(6, .int q9.1), (5, .int x4), (0, .ref 1006000), (1, .ref 0), (2, .ref 102), (3, .ref 206), (4, .int v4)]) d_L_law_1621 (Nat.le_of_ble_eq_true rfl) rfl ?_
  refine r_aload_n (pc := 1623) 4 d_L_law_1623 rfl rfl ?_
  refine q_cP (f := (oW Sh)) (av := [.ref 102]) (st := []) (z_runV ck_X12_thrown rfl ml_L_104 ci_X12_thrown cv_X12_thrown (K_102 h0) (ci := 12) rfl rfl (Nat.le_of_ble_eq_true rfl) d_L_law_1624) (s_X12_thrown hst h0 (by omega)) kp_W (fun x10 _ => ?_)
  refine r_iload (pc := 1627) 1 d_L_law_1627 rfl ?_
  refine r_icmp_eq (f := (oW Sh)) (pc := 1629) 1634 d_L_law_1629 (by decide) (fun c11 => ?_) (fun c11 => ?_)
  · refine r_iload (pc := 1634) 1 d_L_law_1634 rfl ?_
    refine r_if_ne (f := (oW Sh)) (pc := 1636) 1651 d_L_law_1636 (by decide) (fun c12 => ?_) (fun c12 => ?_)
    · refine r_goto (pc := 1651) 2076 d_L_law_1651 (by decide) ?_
      refine r_pick [2, 3, 4, 5, 6] (ls' := [(0, .ref 1006000), (1, .ref 0), (2, .ref 102), (3, .ref 206), (4, .int v4)]) rfl ?_
      exact hk Sh q9.2 h0
    · refine r_aload_n (pc := 1639) 5 d_L_law_1639 rfl rfl ?_
      refine r_iconst (pc := 1640) (0 : Int32) d_L_law_1640 rfl ?_
      refine q_lald (pc := 1641) (j := 0) (K_206 h0) (by unfold vp_in; decide) rfl d_L_law_1641 ?_
      refine r_iload (pc := 1642) 0 d_L_law_1642 rfl ?_
      refine r_i2l (pc := 1644) d_L_law_1644 ?_
      refine r_lcmp (pc := 1645) d_L_law_1645 ?_
      refine r_if_eq (f := (oW Sh)) (pc := 1646) 1651 d_L_law_1646 (by decide) (fun c13 => ?_) (fun c13 => ?_)
      · refine r_goto (pc := 1651) 2076 d_L_law_1651 (by decide) ?_
        refine r_pick [2, 3, 4, 5, 6] (ls' := [(0, .ref 1006000), (1, .ref 0), (2, .ref 102), (3, .ref 206), (4, .int v4)]) rfl ?_
        exact hk Sh q9.2 h0
      · refine r_iconst (pc := 1649) (0 : Int32) d_L_law_1649 rfl ?_
        exact r_zret (pc := 1650) rfl (by decide) d_L_law_1650
  · refine r_iconst (pc := 1632) (0 : Int32) d_L_law_1632 rfl ?_
    exact r_zret (pc := 1633) rfl (by decide) d_L_law_1633
def fc_30 (w : Nat → Int32) (nS : Nat) (k : zD → Option (Int32 × Nat × zD)) (v4 : Int32) (D : zD) : Option (Int32 × Nat × zD) := (fn_X11_leave D).bind fun q1 => (fn_X12_leave q1.2).bind fun q2 => (if q1.1 = q2.1 then ((k q2.2)) else ((some ((0 : Int32), 0, q2.2))))
theorem lc_30 {X : zX} {d : Nat} {w : Nat → Int32} {nS : Nat} (hst : (zl X).stackTraces = false) (hs : zScr X nS w) (hd : 146 ≤ d) {k : zD → Option (Int32 × Nat × zD)} {v4 : Int32} (hk : ∀ (Sh : zSh) (D : zD), zSh0 Sh → Rn X m_L_law (d + 1) 2076 [(0, .ref 1006000), (1, .ref 0), (2, .ref 102), (3, .ref 206), (4, .int v4)] [] (Sh, D) (oW Sh (k D))) {Sh : zSh} (h0 : zSh0 Sh) {D : zD} : Rn X m_L_law (d + 1) 1654 [(0, .ref 1006000), (1, .ref 0), (2, .ref 102), (3, .ref 206), (4, .int v4)] [] (Sh, D) (oW Sh (fc_30 w nS k v4 D)) := by
  unfold fc_30
  refine r_aload_n (pc := 1654) 1 d_L_law_1654 rfl rfl ?_
  refine q_cI (f := (oW Sh)) (av := [.ref 0]) (st := []) (z_runV ck_X11_leave rfl ml_L_203 ci_X11_leave cv_X11_leave (K_0 h0) (ci := 11) rfl rfl (Nat.le_of_ble_eq_true rfl) d_L_law_1655) (s_X11_leave hst h0 (by omega)) kp_W (fun q1 _ => ?_)
  refine r_aload_n (pc := 1658) 2 d_L_law_1658 rfl rfl ?_
  refine q_cI (f := (oW Sh)) (av := [.ref 102]) (st := [.int q1.1]) (z_runV ck_X12_leave rfl ml_L_206 ci_X12_leave cv_X12_leave (K_102 h0) (ci := 12) rfl rfl (Nat.le_of_ble_eq_true rfl) d_L_law_1659) (s_X12_leave hst h0 (by omega)) kp_W (fun q2 _ => ?_)
  refine r_icmp_eq (f := (oW Sh)) (pc := 1662) 2076 d_L_law_1662 (by decide) (fun c3 => ?_) (fun c3 => ?_)
  · refine r_pick [0, 1, 2, 3, 4] (ls' := [(0, .ref 1006000), (1, .ref 0), (2, .ref 102), (3, .ref 206), (4, .int v4)]) rfl ?_
    exact hk Sh q2.2 h0
  · refine r_iconst (pc := 1665) (0 : Int32) d_L_law_1665 rfl ?_
    exact r_zret (pc := 1666) rfl (by decide) d_L_law_1666
def fc_31 (w : Nat → Int32) (nS : Nat) (k : zD → Option (Int32 × Nat × zD)) (v4 : Int32) (D : zD) : Option (Int32 × Nat × zD) := zck (v4 + (1 : Int32)) nS <| zck (v4 + (2 : Int32)) nS <| zck (v4 + (3 : Int32)) nS <| (if (w (v4 + (3 : Int32)).toNatClampNeg) = 0 then (fwA (fw_L_seen (w (v4 + (1 : Int32)).toNatClampNeg) (w (v4 + (2 : Int32)).toNatClampNeg) (0 : Int32) D) fun x5 D6 => zck (v4 + (1 : Int32)) nS <| zck (v4 + (2 : Int32)) nS <| zck (v4 + (3 : Int32)) nS <| (if (w (v4 + (3 : Int32)).toNatClampNeg) = 0 then ((fn_X12_seen (w (v4 + (1 : Int32)).toNatClampNeg) (w (v4 + (2 : Int32)).toNatClampNeg) (0 : Int32) D6).bind fun q11 => (fn_X12_thrown q11.2).bind fun x12 => (if x12 = x5 then ((if x5 = 0 then ((if (lg_cmp (gL q11.2 206 0) (q11.1).toInt64) = 0 then ((k q11.2)) else ((some ((0 : Int32), 0, q11.2))))) else ((k q11.2)))) else ((some ((0 : Int32), 0, q11.2))))) else ((fn_X12_seen (w (v4 + (1 : Int32)).toNatClampNeg) (w (v4 + (2 : Int32)).toNatClampNeg) (1 : Int32) D6).bind fun q16 => (fn_X12_thrown q16.2).bind fun x17 => (if x17 = x5 then ((if x5 = 0 then ((if (lg_cmp (gL q16.2 206 0) (q16.1).toInt64) = 0 then ((k q16.2)) else ((some ((0 : Int32), 0, q16.2))))) else ((k q16.2)))) else ((some ((0 : Int32), 0, q16.2))))))) else (fwA (fw_L_seen (w (v4 + (1 : Int32)).toNatClampNeg) (w (v4 + (2 : Int32)).toNatClampNeg) (1 : Int32) D) fun x21 D22 => zck (v4 + (1 : Int32)) nS <| zck (v4 + (2 : Int32)) nS <| zck (v4 + (3 : Int32)) nS <| (if (w (v4 + (3 : Int32)).toNatClampNeg) = 0 then ((fn_X12_seen (w (v4 + (1 : Int32)).toNatClampNeg) (w (v4 + (2 : Int32)).toNatClampNeg) (0 : Int32) D22).bind fun q27 => (fn_X12_thrown q27.2).bind fun x28 => (if x28 = x21 then ((if x21 = 0 then ((if (lg_cmp (gL q27.2 206 0) (q27.1).toInt64) = 0 then ((k q27.2)) else ((some ((0 : Int32), 0, q27.2))))) else ((k q27.2)))) else ((some ((0 : Int32), 0, q27.2))))) else ((fn_X12_seen (w (v4 + (1 : Int32)).toNatClampNeg) (w (v4 + (2 : Int32)).toNatClampNeg) (1 : Int32) D22).bind fun q32 => (fn_X12_thrown q32.2).bind fun x33 => (if x33 = x21 then ((if x21 = 0 then ((if (lg_cmp (gL q32.2 206 0) (q32.1).toInt64) = 0 then ((k q32.2)) else ((some ((0 : Int32), 0, q32.2))))) else ((k q32.2)))) else ((some ((0 : Int32), 0, q32.2))))))))
theorem lc_31 {X : zX} {d : Nat} {w : Nat → Int32} {nS : Nat} (hst : (zl X).stackTraces = false) (hs : zScr X nS w) (hd : 146 ≤ d) {k : zD → Option (Int32 × Nat × zD)} {v4 : Int32} (hk : ∀ (Sh : zSh) (D : zD), zSh0 Sh → Rn X m_L_law (d + 1) 2076 [(0, .ref 1006000), (1, .ref 0), (2, .ref 102), (3, .ref 206), (4, .int v4)] [] (Sh, D) (oW Sh (k D))) {Sh : zSh} (h0 : zSh0 Sh) {D : zD} : Rn X m_L_law (d + 1) 1667 [(0, .ref 1006000), (1, .ref 0), (2, .ref 102), (3, .ref 206), (4, .int v4)] [] (Sh, D) (oW Sh (fc_31 w nS k v4 D)) := by
  unfold fc_31
  refine r_aload_n (pc := 1667) 1 d_L_law_1667 rfl rfl ?_
  refine r_aload_n (pc := 1668) 0 d_L_law_1668 rfl rfl ?_
  refine r_iload (pc := 1669) 4 d_L_law_1669 rfl ?_
  refine r_iconst (pc := 1671) (1 : Int32) d_L_law_1671 rfl ?_
  refine r_iadd (pc := 1672) d_L_law_1672 ?_
  refine r_ck (f := (oW Sh)) rfl (fun hc1 => ?_)
  refine r_scr (pc := 1673) (j := (v4 + (1 : Int32)).toNatClampNeg) hs hc1 rfl d_L_law_1673 ?_
  refine r_aload_n (pc := 1674) 0 d_L_law_1674 rfl rfl ?_
  refine r_iload (pc := 1675) 4 d_L_law_1675 rfl ?_
  refine r_iconst (pc := 1677) (2 : Int32) d_L_law_1677 rfl ?_
  refine r_iadd (pc := 1678) d_L_law_1678 ?_
  refine r_ck (f := (oW Sh)) rfl (fun hc2 => ?_)
  refine r_scr (pc := 1679) (j := (v4 + (2 : Int32)).toNatClampNeg) hs hc2 rfl d_L_law_1679 ?_
  refine r_aload_n (pc := 1680) 0 d_L_law_1680 rfl rfl ?_
  refine r_iload (pc := 1681) 4 d_L_law_1681 rfl ?_
  refine r_iconst (pc := 1683) (3 : Int32) d_L_law_1683 rfl ?_
  refine r_iadd (pc := 1684) d_L_law_1684 ?_
  refine r_ck (f := (oW Sh)) rfl (fun hc3 => ?_)
  refine r_scr (pc := 1685) (j := (v4 + (3 : Int32)).toNatClampNeg) hs hc3 rfl d_L_law_1685 ?_
  refine r_if_eq (f := (oW Sh)) (pc := 1686) 1693 d_L_law_1686 (by decide) (fun c4 => ?_) (fun c4 => ?_)
  · refine r_iconst (pc := 1693) (0 : Int32) d_L_law_1693 rfl ?_
    refine r_aload_n (pc := 1694) 3 d_L_law_1694 rfl rfl ?_
    refine q_cW (av := [.ref 0, .int (w (v4 + (1 : Int32)).toNatClampNeg), .int (w (v4 + (2 : Int32)).toNatClampNeg), .int (0 : Int32), .ref 206]) (st := []) h0 (z_runSX ck_L_seen rfl ml_L_207 cs_L_seen rfl (Nat.le_of_ble_eq_true rfl) d_L_law_1695) (w_L_seen hst h0 (by omega)) (fun x5 Sh D6 h0 => ?_)
    refine r_istore (pc := 1698) (ls' := [(5, .int x5), (0, .ref 1006000), (1, .ref 0), (2, .ref 102), (3, .ref 206), (4, .int v4)]) d_L_law_1698 (Nat.le_of_ble_eq_true rfl) rfl ?_
    refine r_aload_n (pc := 1700) 3 d_L_law_1700 rfl rfl ?_
    refine r_aload_n (pc := 1701) 1 d_L_law_1701 rfl rfl ?_
    refine r_iload (pc := 1702) 5 d_L_law_1702 rfl ?_
    refine r_iconst (pc := 1704) (1 : Int32) d_L_law_1704 rfl ?_
    refine r_iadd (pc := 1705) d_L_law_1705 ?_
    refine r_ck (f := (oW Sh)) rfl (fun hc7 => ?_)
    refine r_scr (pc := 1706) (j := (v4 + (1 : Int32)).toNatClampNeg) hs hc7 rfl d_L_law_1706 ?_
    refine r_aload_n (pc := 1707) 1 d_L_law_1707 rfl rfl ?_
    refine r_iload (pc := 1708) 5 d_L_law_1708 rfl ?_
    refine r_iconst (pc := 1710) (2 : Int32) d_L_law_1710 rfl ?_
    refine r_iadd (pc := 1711) d_L_law_1711 ?_
    refine r_ck (f := (oW Sh)) rfl (fun hc8 => ?_)
    refine r_scr (pc := 1712) (j := (v4 + (2 : Int32)).toNatClampNeg) hs hc8 rfl d_L_law_1712 ?_
    refine r_aload_n (pc := 1713) 1 d_L_law_1713 rfl rfl ?_
    refine r_iload (pc := 1714) 5 d_L_law_1714 rfl ?_
    refine r_iconst (pc := 1716) (3 : Int32) d_L_law_1716 rfl ?_
    refine r_iadd (pc := 1717) d_L_law_1717 ?_
    refine r_ck (f := (oW Sh)) rfl (fun hc9 => ?_)
    refine r_scr (pc := 1718) (j := (v4 + (3 : Int32)).toNatClampNeg) hs hc9 rfl d_L_law_1718 ?_
    refine r_if_eq (f := (oW Sh)) (pc := 1719) 1726 d_L_law_1719 (by decide) (fun c10 => ?_) (fun c10 => ?_)
    · refine r_iconst (pc := 1726) (0 : Int32) d_L_law_1726 rfl ?_
      refine q_cI (f := (oW Sh)) (av := [.ref 102, .int (w (v4 + (1 : Int32)).toNatClampNeg), .int (w (v4 + (2 : Int32)).toNatClampNeg), .int (0 : Int32)]) (st := []) (z_runV ck_X12_seen rfl ml_L_210 ci_X12_seen cv_X12_seen (K_102 h0) (ci := 12) rfl rfl (Nat.le_of_ble_eq_true rfl) d_L_law_1727) (s_X12_seen hst h0 (by omega)) kp_W (fun q11 _ => ?_)
      refine r_istore (pc := 1730) (ls' := [(6, .int q11.1), (5, .int x5), (0, .ref 1006000), (1, .ref 0), (2, .ref 102), (3, .ref 206), (4, .int v4)]) d_L_law_1730 (Nat.le_of_ble_eq_true rfl) rfl ?_
      refine r_aload_n (pc := 1732) 4 d_L_law_1732 rfl rfl ?_
      refine q_cP (f := (oW Sh)) (av := [.ref 102]) (st := []) (z_runV ck_X12_thrown rfl ml_L_104 ci_X12_thrown cv_X12_thrown (K_102 h0) (ci := 12) rfl rfl (Nat.le_of_ble_eq_true rfl) d_L_law_1733) (s_X12_thrown hst h0 (by omega)) kp_W (fun x12 _ => ?_)
      refine r_iload (pc := 1736) 1 d_L_law_1736 rfl ?_
      refine r_icmp_eq (f := (oW Sh)) (pc := 1738) 1743 d_L_law_1738 (by decide) (fun c13 => ?_) (fun c13 => ?_)
      · refine r_iload (pc := 1743) 1 d_L_law_1743 rfl ?_
        refine r_if_ne (f := (oW Sh)) (pc := 1745) 1760 d_L_law_1745 (by decide) (fun c14 => ?_) (fun c14 => ?_)
        · refine r_goto (pc := 1760) 2076 d_L_law_1760 (by decide) ?_
          refine r_pick [2, 3, 4, 5, 6] (ls' := [(0, .ref 1006000), (1, .ref 0), (2, .ref 102), (3, .ref 206), (4, .int v4)]) rfl ?_
          exact hk Sh q11.2 h0
        · refine r_aload_n (pc := 1748) 5 d_L_law_1748 rfl rfl ?_
          refine r_iconst (pc := 1749) (0 : Int32) d_L_law_1749 rfl ?_
          refine q_lald (pc := 1750) (j := 0) (K_206 h0) (by unfold vp_in; decide) rfl d_L_law_1750 ?_
          refine r_iload (pc := 1751) 0 d_L_law_1751 rfl ?_
          refine r_i2l (pc := 1753) d_L_law_1753 ?_
          refine r_lcmp (pc := 1754) d_L_law_1754 ?_
          refine r_if_eq (f := (oW Sh)) (pc := 1755) 1760 d_L_law_1755 (by decide) (fun c15 => ?_) (fun c15 => ?_)
          · refine r_goto (pc := 1760) 2076 d_L_law_1760 (by decide) ?_
            refine r_pick [2, 3, 4, 5, 6] (ls' := [(0, .ref 1006000), (1, .ref 0), (2, .ref 102), (3, .ref 206), (4, .int v4)]) rfl ?_
            exact hk Sh q11.2 h0
          · refine r_iconst (pc := 1758) (0 : Int32) d_L_law_1758 rfl ?_
            exact r_zret (pc := 1759) rfl (by decide) d_L_law_1759
      · refine r_iconst (pc := 1741) (0 : Int32) d_L_law_1741 rfl ?_
        exact r_zret (pc := 1742) rfl (by decide) d_L_law_1742
    · refine r_iconst (pc := 1722) (1 : Int32) d_L_law_1722 rfl ?_
      refine r_goto (pc := 1723) 1727 d_L_law_1723 (by decide) ?_
      refine q_cI (f := (oW Sh)) (av := [.ref 102, .int (w (v4 + (1 : Int32)).toNatClampNeg), .int (w (v4 + (2 : Int32)).toNatClampNeg), .int (1 : Int32)]) (st := []) (z_runV ck_X12_seen rfl ml_L_210 ci_X12_seen cv_X12_seen (K_102 h0) (ci := 12) rfl rfl (Nat.le_of_ble_eq_true rfl) d_L_law_1727) (s_X12_seen hst h0 (by omega)) kp_W (fun q16 _ => ?_)
      refine r_istore (pc := 1730) (ls' := [(6, .int q16.1), (5, .int x5), (0, .ref 1006000), (1, .ref 0), (2, .ref 102), (3, .ref 206), (4, .int v4)]) d_L_law_1730 (Nat.le_of_ble_eq_true rfl) rfl ?_
      refine r_aload_n (pc := 1732) 4 d_L_law_1732 rfl rfl ?_
      refine q_cP (f := (oW Sh)) (av := [.ref 102]) (st := []) (z_runV ck_X12_thrown rfl ml_L_104 ci_X12_thrown cv_X12_thrown (K_102 h0) (ci := 12) rfl rfl (Nat.le_of_ble_eq_true rfl) d_L_law_1733) (s_X12_thrown hst h0 (by omega)) kp_W (fun x17 _ => ?_)
      refine r_iload (pc := 1736) 1 d_L_law_1736 rfl ?_
      refine r_icmp_eq (f := (oW Sh)) (pc := 1738) 1743 d_L_law_1738 (by decide) (fun c18 => ?_) (fun c18 => ?_)
      · refine r_iload (pc := 1743) 1 d_L_law_1743 rfl ?_
        refine r_if_ne (f := (oW Sh)) (pc := 1745) 1760 d_L_law_1745 (by decide) (fun c19 => ?_) (fun c19 => ?_)
        · refine r_goto (pc := 1760) 2076 d_L_law_1760 (by decide) ?_
          refine r_pick [2, 3, 4, 5, 6] (ls' := [(0, .ref 1006000), (1, .ref 0), (2, .ref 102), (3, .ref 206), (4, .int v4)]) rfl ?_
          exact hk Sh q16.2 h0
        · refine r_aload_n (pc := 1748) 5 d_L_law_1748 rfl rfl ?_
          refine r_iconst (pc := 1749) (0 : Int32) d_L_law_1749 rfl ?_
          refine q_lald (pc := 1750) (j := 0) (K_206 h0) (by unfold vp_in; decide) rfl d_L_law_1750 ?_
          refine r_iload (pc := 1751) 0 d_L_law_1751 rfl ?_
          refine r_i2l (pc := 1753) d_L_law_1753 ?_
          refine r_lcmp (pc := 1754) d_L_law_1754 ?_
          refine r_if_eq (f := (oW Sh)) (pc := 1755) 1760 d_L_law_1755 (by decide) (fun c20 => ?_) (fun c20 => ?_)
          · refine r_goto (pc := 1760) 2076 d_L_law_1760 (by decide) ?_
            refine r_pick [2, 3, 4, 5, 6] (ls' := [(0, .ref 1006000), (1, .ref 0), (2, .ref 102), (3, .ref 206), (4, .int v4)]) rfl ?_
            exact hk Sh q16.2 h0
          · refine r_iconst (pc := 1758) (0 : Int32) d_L_law_1758 rfl ?_
            exact r_zret (pc := 1759) rfl (by decide) d_L_law_1759
      · refine r_iconst (pc := 1741) (0 : Int32) d_L_law_1741 rfl ?_
        exact r_zret (pc := 1742) rfl (by decide) d_L_law_1742
  · refine r_iconst (pc := 1689) (1 : Int32) d_L_law_1689 rfl ?_
    refine r_goto (pc := 1690) 1694 d_L_law_1690 (by decide) ?_
    refine r_aload_n (pc := 1694) 3 d_L_law_1694 rfl rfl ?_
    refine q_cW (av := [.ref 0, .int (w (v4 + (1 : Int32)).toNatClampNeg), .int (w (v4 + (2 : Int32)).toNatClampNeg), .int (1 : Int32), .ref 206]) (st := []) h0 (z_runSX ck_L_seen rfl ml_L_207 cs_L_seen rfl (Nat.le_of_ble_eq_true rfl) d_L_law_1695) (w_L_seen hst h0 (by omega)) (fun x21 Sh D22 h0 => ?_)
    refine r_istore (pc := 1698) (ls' := [(5, .int x21), (0, .ref 1006000), (1, .ref 0), (2, .ref 102), (3, .ref 206), (4, .int v4)]) d_L_law_1698 (Nat.le_of_ble_eq_true rfl) rfl ?_
    refine r_aload_n (pc := 1700) 3 d_L_law_1700 rfl rfl ?_
    refine r_aload_n (pc := 1701) 1 d_L_law_1701 rfl rfl ?_
    refine r_iload (pc := 1702) 5 d_L_law_1702 rfl ?_
    refine r_iconst (pc := 1704) (1 : Int32) d_L_law_1704 rfl ?_
    refine r_iadd (pc := 1705) d_L_law_1705 ?_
    refine r_ck (f := (oW Sh)) rfl (fun hc23 => ?_)
    refine r_scr (pc := 1706) (j := (v4 + (1 : Int32)).toNatClampNeg) hs hc23 rfl d_L_law_1706 ?_
    refine r_aload_n (pc := 1707) 1 d_L_law_1707 rfl rfl ?_
    refine r_iload (pc := 1708) 5 d_L_law_1708 rfl ?_
    refine r_iconst (pc := 1710) (2 : Int32) d_L_law_1710 rfl ?_
    refine r_iadd (pc := 1711) d_L_law_1711 ?_
    refine r_ck (f := (oW Sh)) rfl (fun hc24 => ?_)
    refine r_scr (pc := 1712) (j := (v4 + (2 : Int32)).toNatClampNeg) hs hc24 rfl d_L_law_1712 ?_
    refine r_aload_n (pc := 1713) 1 d_L_law_1713 rfl rfl ?_
    refine r_iload (pc := 1714) 5 d_L_law_1714 rfl ?_
    refine r_iconst (pc := 1716) (3 : Int32) d_L_law_1716 rfl ?_
    refine r_iadd (pc := 1717) d_L_law_1717 ?_
    refine r_ck (f := (oW Sh)) rfl (fun hc25 => ?_)
    refine r_scr (pc := 1718) (j := (v4 + (3 : Int32)).toNatClampNeg) hs hc25 rfl d_L_law_1718 ?_
    refine r_if_eq (f := (oW Sh)) (pc := 1719) 1726 d_L_law_1719 (by decide) (fun c26 => ?_) (fun c26 => ?_)
    · refine r_iconst (pc := 1726) (0 : Int32) d_L_law_1726 rfl ?_
      refine q_cI (f := (oW Sh)) (av := [.ref 102, .int (w (v4 + (1 : Int32)).toNatClampNeg), .int (w (v4 + (2 : Int32)).toNatClampNeg), .int (0 : Int32)]) (st := []) (z_runV ck_X12_seen rfl ml_L_210 ci_X12_seen cv_X12_seen (K_102 h0) (ci := 12) rfl rfl (Nat.le_of_ble_eq_true rfl) d_L_law_1727) (s_X12_seen hst h0 (by omega)) kp_W (fun q27 _ => ?_)
      refine r_istore (pc := 1730) (ls' := [(6, .int q27.1), (5, .int x21), (0, .ref 1006000), (1, .ref 0), (2, .ref 102), (3, .ref 206), (4, .int v4)]) d_L_law_1730 (Nat.le_of_ble_eq_true rfl) rfl ?_
      refine r_aload_n (pc := 1732) 4 d_L_law_1732 rfl rfl ?_
      refine q_cP (f := (oW Sh)) (av := [.ref 102]) (st := []) (z_runV ck_X12_thrown rfl ml_L_104 ci_X12_thrown cv_X12_thrown (K_102 h0) (ci := 12) rfl rfl (Nat.le_of_ble_eq_true rfl) d_L_law_1733) (s_X12_thrown hst h0 (by omega)) kp_W (fun x28 _ => ?_)
      refine r_iload (pc := 1736) 1 d_L_law_1736 rfl ?_
      refine r_icmp_eq (f := (oW Sh)) (pc := 1738) 1743 d_L_law_1738 (by decide) (fun c29 => ?_) (fun c29 => ?_)
      · refine r_iload (pc := 1743) 1 d_L_law_1743 rfl ?_
        refine r_if_ne (f := (oW Sh)) (pc := 1745) 1760 d_L_law_1745 (by decide) (fun c30 => ?_) (fun c30 => ?_)
        · refine r_goto (pc := 1760) 2076 d_L_law_1760 (by decide) ?_
          refine r_pick [2, 3, 4, 5, 6] (ls' := [(0, .ref 1006000), (1, .ref 0), (2, .ref 102), (3, .ref 206), (4, .int v4)]) rfl ?_
          exact hk Sh q27.2 h0
        · refine r_aload_n (pc := 1748) 5 d_L_law_1748 rfl rfl ?_
          refine r_iconst (pc := 1749) (0 : Int32) d_L_law_1749 rfl ?_
          refine q_lald (pc := 1750) (j := 0) (K_206 h0) (by unfold vp_in; decide) rfl d_L_law_1750 ?_
          refine r_iload (pc := 1751) 0 d_L_law_1751 rfl ?_
          refine r_i2l (pc := 1753) d_L_law_1753 ?_
          refine r_lcmp (pc := 1754) d_L_law_1754 ?_
          refine r_if_eq (f := (oW Sh)) (pc := 1755) 1760 d_L_law_1755 (by decide) (fun c31 => ?_) (fun c31 => ?_)
          · refine r_goto (pc := 1760) 2076 d_L_law_1760 (by decide) ?_
            refine r_pick [2, 3, 4, 5, 6] (ls' := [(0, .ref 1006000), (1, .ref 0), (2, .ref 102), (3, .ref 206), (4, .int v4)]) rfl ?_
            exact hk Sh q27.2 h0
          · refine r_iconst (pc := 1758) (0 : Int32) d_L_law_1758 rfl ?_
            exact r_zret (pc := 1759) rfl (by decide) d_L_law_1759
      · refine r_iconst (pc := 1741) (0 : Int32) d_L_law_1741 rfl ?_
        exact r_zret (pc := 1742) rfl (by decide) d_L_law_1742
    · refine r_iconst (pc := 1722) (1 : Int32) d_L_law_1722 rfl ?_
      refine r_goto (pc := 1723) 1727 d_L_law_1723 (by decide) ?_
      refine q_cI (f := (oW Sh)) (av := [.ref 102, .int (w (v4 + (1 : Int32)).toNatClampNeg), .int (w (v4 + (2 : Int32)).toNatClampNeg), .int (1 : Int32)]) (st := []) (z_runV ck_X12_seen rfl ml_L_210 ci_X12_seen cv_X12_seen (K_102 h0) (ci := 12) rfl rfl (Nat.le_of_ble_eq_true rfl) d_L_law_1727) (s_X12_seen hst h0 (by omega)) kp_W (fun q32 _ => ?_)
      refine r_istore (pc := 1730) (ls' := [(6, .int q32.1), (5, .int x21), (0, .ref 1006000), (1, .ref 0), (2, .ref 102), (3, .ref 206), (4, .int v4)]) d_L_law_1730 (Nat.le_of_ble_eq_true rfl) rfl ?_
      refine r_aload_n (pc := 1732) 4 d_L_law_1732 rfl rfl ?_
      refine q_cP (f := (oW Sh)) (av := [.ref 102]) (st := []) (z_runV ck_X12_thrown rfl ml_L_104 ci_X12_thrown cv_X12_thrown (K_102 h0) (ci := 12) rfl rfl (Nat.le_of_ble_eq_true rfl) d_L_law_1733) (s_X12_thrown hst h0 (by omega)) kp_W (fun x33 _ => ?_)
      refine r_iload (pc := 1736) 1 d_L_law_1736 rfl ?_
      refine r_icmp_eq (f := (oW Sh)) (pc := 1738) 1743 d_L_law_1738 (by decide) (fun c34 => ?_) (fun c34 => ?_)
      · refine r_iload (pc := 1743) 1 d_L_law_1743 rfl ?_
        refine r_if_ne (f := (oW Sh)) (pc := 1745) 1760 d_L_law_1745 (by decide) (fun c35 => ?_) (fun c35 => ?_)
        · refine r_goto (pc := 1760) 2076 d_L_law_1760 (by decide) ?_
          refine r_pick [2, 3, 4, 5, 6] (ls' := [(0, .ref 1006000), (1, .ref 0), (2, .ref 102), (3, .ref 206), (4, .int v4)]) rfl ?_
          exact hk Sh q32.2 h0
        · refine r_aload_n (pc := 1748) 5 d_L_law_1748 rfl rfl ?_
          refine r_iconst (pc := 1749) (0 : Int32) d_L_law_1749 rfl ?_
          refine q_lald (pc := 1750) (j := 0) (K_206 h0) (by unfold vp_in; decide) rfl d_L_law_1750 ?_
          refine r_iload (pc := 1751) 0 d_L_law_1751 rfl ?_
          refine r_i2l (pc := 1753) d_L_law_1753 ?_
          refine r_lcmp (pc := 1754) d_L_law_1754 ?_
          refine r_if_eq (f := (oW Sh)) (pc := 1755) 1760 d_L_law_1755 (by decide) (fun c36 => ?_) (fun c36 => ?_)
          · refine r_goto (pc := 1760) 2076 d_L_law_1760 (by decide) ?_
            refine r_pick [2, 3, 4, 5, 6] (ls' := [(0, .ref 1006000), (1, .ref 0), (2, .ref 102), (3, .ref 206), (4, .int v4)]) rfl ?_
            exact hk Sh q32.2 h0
          · refine r_iconst (pc := 1758) (0 : Int32) d_L_law_1758 rfl ?_
            exact r_zret (pc := 1759) rfl (by decide) d_L_law_1759
      · refine r_iconst (pc := 1741) (0 : Int32) d_L_law_1741 rfl ?_
        exact r_zret (pc := 1742) rfl (by decide) d_L_law_1742
def fc_32 (w : Nat → Int32) (nS : Nat) (k : zD → Option (Int32 × Nat × zD)) (v4 : Int32) (D : zD) : Option (Int32 × Nat × zD) := zck (v4 + (1 : Int32)) nS <| zck (v4 + (2 : Int32)) nS <| zck (v4 + (3 : Int32)) nS <| (if (w (v4 + (3 : Int32)).toNatClampNeg) = 0 then (fwA (fw_L_guess (w (v4 + (1 : Int32)).toNatClampNeg) (w (v4 + (2 : Int32)).toNatClampNeg) (0 : Int32) D) fun x5 D6 => zck (v4 + (1 : Int32)) nS <| zck (v4 + (2 : Int32)) nS <| zck (v4 + (3 : Int32)) nS <| (if (w (v4 + (3 : Int32)).toNatClampNeg) = 0 then ((fn_X12_guess (w (v4 + (1 : Int32)).toNatClampNeg) (w (v4 + (2 : Int32)).toNatClampNeg) (0 : Int32) D6).bind fun q11 => (fn_X12_thrown q11.2).bind fun x12 => (if x12 = x5 then ((if x5 = 0 then ((if (lg_cmp (gL q11.2 206 0) (q11.1).toInt64) = 0 then ((k q11.2)) else ((some ((0 : Int32), 0, q11.2))))) else ((k q11.2)))) else ((some ((0 : Int32), 0, q11.2))))) else ((fn_X12_guess (w (v4 + (1 : Int32)).toNatClampNeg) (w (v4 + (2 : Int32)).toNatClampNeg) (1 : Int32) D6).bind fun q16 => (fn_X12_thrown q16.2).bind fun x17 => (if x17 = x5 then ((if x5 = 0 then ((if (lg_cmp (gL q16.2 206 0) (q16.1).toInt64) = 0 then ((k q16.2)) else ((some ((0 : Int32), 0, q16.2))))) else ((k q16.2)))) else ((some ((0 : Int32), 0, q16.2))))))) else (fwA (fw_L_guess (w (v4 + (1 : Int32)).toNatClampNeg) (w (v4 + (2 : Int32)).toNatClampNeg) (1 : Int32) D) fun x21 D22 => zck (v4 + (1 : Int32)) nS <| zck (v4 + (2 : Int32)) nS <| zck (v4 + (3 : Int32)) nS <| (if (w (v4 + (3 : Int32)).toNatClampNeg) = 0 then ((fn_X12_guess (w (v4 + (1 : Int32)).toNatClampNeg) (w (v4 + (2 : Int32)).toNatClampNeg) (0 : Int32) D22).bind fun q27 => (fn_X12_thrown q27.2).bind fun x28 => (if x28 = x21 then ((if x21 = 0 then ((if (lg_cmp (gL q27.2 206 0) (q27.1).toInt64) = 0 then ((k q27.2)) else ((some ((0 : Int32), 0, q27.2))))) else ((k q27.2)))) else ((some ((0 : Int32), 0, q27.2))))) else ((fn_X12_guess (w (v4 + (1 : Int32)).toNatClampNeg) (w (v4 + (2 : Int32)).toNatClampNeg) (1 : Int32) D22).bind fun q32 => (fn_X12_thrown q32.2).bind fun x33 => (if x33 = x21 then ((if x21 = 0 then ((if (lg_cmp (gL q32.2 206 0) (q32.1).toInt64) = 0 then ((k q32.2)) else ((some ((0 : Int32), 0, q32.2))))) else ((k q32.2)))) else ((some ((0 : Int32), 0, q32.2))))))))
theorem lc_32 {X : zX} {d : Nat} {w : Nat → Int32} {nS : Nat} (hst : (zl X).stackTraces = false) (hs : zScr X nS w) (hd : 146 ≤ d) {k : zD → Option (Int32 × Nat × zD)} {v4 : Int32} (hk : ∀ (Sh : zSh) (D : zD), zSh0 Sh → Rn X m_L_law (d + 1) 2076 [(0, .ref 1006000), (1, .ref 0), (2, .ref 102), (3, .ref 206), (4, .int v4)] [] (Sh, D) (oW Sh (k D))) {Sh : zSh} (h0 : zSh0 Sh) {D : zD} : Rn X m_L_law (d + 1) 1763 [(0, .ref 1006000), (1, .ref 0), (2, .ref 102), (3, .ref 206), (4, .int v4)] [] (Sh, D) (oW Sh (fc_32 w nS k v4 D)) := by
  unfold fc_32
  refine r_aload_n (pc := 1763) 1 d_L_law_1763 rfl rfl ?_
  refine r_aload_n (pc := 1764) 0 d_L_law_1764 rfl rfl ?_
  refine r_iload (pc := 1765) 4 d_L_law_1765 rfl ?_
  refine r_iconst (pc := 1767) (1 : Int32) d_L_law_1767 rfl ?_
  refine r_iadd (pc := 1768) d_L_law_1768 ?_
  refine r_ck (f := (oW Sh)) rfl (fun hc1 => ?_)
  refine r_scr (pc := 1769) (j := (v4 + (1 : Int32)).toNatClampNeg) hs hc1 rfl d_L_law_1769 ?_
  refine r_aload_n (pc := 1770) 0 d_L_law_1770 rfl rfl ?_
  refine r_iload (pc := 1771) 4 d_L_law_1771 rfl ?_
  refine r_iconst (pc := 1773) (2 : Int32) d_L_law_1773 rfl ?_
  refine r_iadd (pc := 1774) d_L_law_1774 ?_
  refine r_ck (f := (oW Sh)) rfl (fun hc2 => ?_)
  refine r_scr (pc := 1775) (j := (v4 + (2 : Int32)).toNatClampNeg) hs hc2 rfl d_L_law_1775 ?_
  refine r_aload_n (pc := 1776) 0 d_L_law_1776 rfl rfl ?_
  refine r_iload (pc := 1777) 4 d_L_law_1777 rfl ?_
  refine r_iconst (pc := 1779) (3 : Int32) d_L_law_1779 rfl ?_
  refine r_iadd (pc := 1780) d_L_law_1780 ?_
  refine r_ck (f := (oW Sh)) rfl (fun hc3 => ?_)
  refine r_scr (pc := 1781) (j := (v4 + (3 : Int32)).toNatClampNeg) hs hc3 rfl d_L_law_1781 ?_
  refine r_if_eq (f := (oW Sh)) (pc := 1782) 1789 d_L_law_1782 (by decide) (fun c4 => ?_) (fun c4 => ?_)
  · refine r_iconst (pc := 1789) (0 : Int32) d_L_law_1789 rfl ?_
    refine r_aload_n (pc := 1790) 3 d_L_law_1790 rfl rfl ?_
    refine q_cW (av := [.ref 0, .int (w (v4 + (1 : Int32)).toNatClampNeg), .int (w (v4 + (2 : Int32)).toNatClampNeg), .int (0 : Int32), .ref 206]) (st := []) h0 (z_runSX ck_L_guess rfl ml_L_211 cs_L_guess rfl (Nat.le_of_ble_eq_true rfl) d_L_law_1791) (w_L_guess hst h0 (by omega)) (fun x5 Sh D6 h0 => ?_)
    refine r_istore (pc := 1794) (ls' := [(5, .int x5), (0, .ref 1006000), (1, .ref 0), (2, .ref 102), (3, .ref 206), (4, .int v4)]) d_L_law_1794 (Nat.le_of_ble_eq_true rfl) rfl ?_
    refine r_aload_n (pc := 1796) 3 d_L_law_1796 rfl rfl ?_
    refine r_aload_n (pc := 1797) 1 d_L_law_1797 rfl rfl ?_
    refine r_iload (pc := 1798) 5 d_L_law_1798 rfl ?_
    refine r_iconst (pc := 1800) (1 : Int32) d_L_law_1800 rfl ?_
    refine r_iadd (pc := 1801) d_L_law_1801 ?_
    refine r_ck (f := (oW Sh)) rfl (fun hc7 => ?_)
    refine r_scr (pc := 1802) (j := (v4 + (1 : Int32)).toNatClampNeg) hs hc7 rfl d_L_law_1802 ?_
    refine r_aload_n (pc := 1803) 1 d_L_law_1803 rfl rfl ?_
    refine r_iload (pc := 1804) 5 d_L_law_1804 rfl ?_
    refine r_iconst (pc := 1806) (2 : Int32) d_L_law_1806 rfl ?_
    refine r_iadd (pc := 1807) d_L_law_1807 ?_
    refine r_ck (f := (oW Sh)) rfl (fun hc8 => ?_)
    refine r_scr (pc := 1808) (j := (v4 + (2 : Int32)).toNatClampNeg) hs hc8 rfl d_L_law_1808 ?_
    refine r_aload_n (pc := 1809) 1 d_L_law_1809 rfl rfl ?_
    refine r_iload (pc := 1810) 5 d_L_law_1810 rfl ?_
    refine r_iconst (pc := 1812) (3 : Int32) d_L_law_1812 rfl ?_
    refine r_iadd (pc := 1813) d_L_law_1813 ?_
    refine r_ck (f := (oW Sh)) rfl (fun hc9 => ?_)
    refine r_scr (pc := 1814) (j := (v4 + (3 : Int32)).toNatClampNeg) hs hc9 rfl d_L_law_1814 ?_
    refine r_if_eq (f := (oW Sh)) (pc := 1815) 1822 d_L_law_1815 (by decide) (fun c10 => ?_) (fun c10 => ?_)
    · refine r_iconst (pc := 1822) (0 : Int32) d_L_law_1822 rfl ?_
      refine q_cI (f := (oW Sh)) (av := [.ref 102, .int (w (v4 + (1 : Int32)).toNatClampNeg), .int (w (v4 + (2 : Int32)).toNatClampNeg), .int (0 : Int32)]) (st := []) (z_runV ck_X12_guess rfl ml_L_213 ci_X12_guess cv_X12_guess (K_102 h0) (ci := 12) rfl rfl (Nat.le_of_ble_eq_true rfl) d_L_law_1823) (s_X12_guess hst h0 (by omega)) kp_W (fun q11 _ => ?_)
      refine r_istore (pc := 1826) (ls' := [(6, .int q11.1), (5, .int x5), (0, .ref 1006000), (1, .ref 0), (2, .ref 102), (3, .ref 206), (4, .int v4)]) d_L_law_1826 (Nat.le_of_ble_eq_true rfl) rfl ?_
      refine r_aload_n (pc := 1828) 4 d_L_law_1828 rfl rfl ?_
      refine q_cP (f := (oW Sh)) (av := [.ref 102]) (st := []) (z_runV ck_X12_thrown rfl ml_L_104 ci_X12_thrown cv_X12_thrown (K_102 h0) (ci := 12) rfl rfl (Nat.le_of_ble_eq_true rfl) d_L_law_1829) (s_X12_thrown hst h0 (by omega)) kp_W (fun x12 _ => ?_)
      refine r_iload (pc := 1832) 1 d_L_law_1832 rfl ?_
      refine r_icmp_eq (f := (oW Sh)) (pc := 1834) 1839 d_L_law_1834 (by decide) (fun c13 => ?_) (fun c13 => ?_)
      · refine r_iload (pc := 1839) 1 d_L_law_1839 rfl ?_
        refine r_if_ne (f := (oW Sh)) (pc := 1841) 1856 d_L_law_1841 (by decide) (fun c14 => ?_) (fun c14 => ?_)
        · refine r_goto (pc := 1856) 2076 d_L_law_1856 (by decide) ?_
          refine r_pick [2, 3, 4, 5, 6] (ls' := [(0, .ref 1006000), (1, .ref 0), (2, .ref 102), (3, .ref 206), (4, .int v4)]) rfl ?_
          exact hk Sh q11.2 h0
        · refine r_aload_n (pc := 1844) 5 d_L_law_1844 rfl rfl ?_
          refine r_iconst (pc := 1845) (0 : Int32) d_L_law_1845 rfl ?_
          refine q_lald (pc := 1846) (j := 0) (K_206 h0) (by unfold vp_in; decide) rfl d_L_law_1846 ?_
          refine r_iload (pc := 1847) 0 d_L_law_1847 rfl ?_
          refine r_i2l (pc := 1849) d_L_law_1849 ?_
          refine r_lcmp (pc := 1850) d_L_law_1850 ?_
          refine r_if_eq (f := (oW Sh)) (pc := 1851) 1856 d_L_law_1851 (by decide) (fun c15 => ?_) (fun c15 => ?_)
          · refine r_goto (pc := 1856) 2076 d_L_law_1856 (by decide) ?_
            refine r_pick [2, 3, 4, 5, 6] (ls' := [(0, .ref 1006000), (1, .ref 0), (2, .ref 102), (3, .ref 206), (4, .int v4)]) rfl ?_
            exact hk Sh q11.2 h0
          · refine r_iconst (pc := 1854) (0 : Int32) d_L_law_1854 rfl ?_
            exact r_zret (pc := 1855) rfl (by decide) d_L_law_1855
      · refine r_iconst (pc := 1837) (0 : Int32) d_L_law_1837 rfl ?_
        exact r_zret (pc := 1838) rfl (by decide) d_L_law_1838
    · refine r_iconst (pc := 1818) (1 : Int32) d_L_law_1818 rfl ?_
      refine r_goto (pc := 1819) 1823 d_L_law_1819 (by decide) ?_
      refine q_cI (f := (oW Sh)) (av := [.ref 102, .int (w (v4 + (1 : Int32)).toNatClampNeg), .int (w (v4 + (2 : Int32)).toNatClampNeg), .int (1 : Int32)]) (st := []) (z_runV ck_X12_guess rfl ml_L_213 ci_X12_guess cv_X12_guess (K_102 h0) (ci := 12) rfl rfl (Nat.le_of_ble_eq_true rfl) d_L_law_1823) (s_X12_guess hst h0 (by omega)) kp_W (fun q16 _ => ?_)
      refine r_istore (pc := 1826) (ls' := [(6, .int q16.1), (5, .int x5), (0, .ref 1006000), (1, .ref 0), (2, .ref 102), (3, .ref 206), (4, .int v4)]) d_L_law_1826 (Nat.le_of_ble_eq_true rfl) rfl ?_
      refine r_aload_n (pc := 1828) 4 d_L_law_1828 rfl rfl ?_
      refine q_cP (f := (oW Sh)) (av := [.ref 102]) (st := []) (z_runV ck_X12_thrown rfl ml_L_104 ci_X12_thrown cv_X12_thrown (K_102 h0) (ci := 12) rfl rfl (Nat.le_of_ble_eq_true rfl) d_L_law_1829) (s_X12_thrown hst h0 (by omega)) kp_W (fun x17 _ => ?_)
      refine r_iload (pc := 1832) 1 d_L_law_1832 rfl ?_
      refine r_icmp_eq (f := (oW Sh)) (pc := 1834) 1839 d_L_law_1834 (by decide) (fun c18 => ?_) (fun c18 => ?_)
      · refine r_iload (pc := 1839) 1 d_L_law_1839 rfl ?_
        refine r_if_ne (f := (oW Sh)) (pc := 1841) 1856 d_L_law_1841 (by decide) (fun c19 => ?_) (fun c19 => ?_)
        · refine r_goto (pc := 1856) 2076 d_L_law_1856 (by decide) ?_
          refine r_pick [2, 3, 4, 5, 6] (ls' := [(0, .ref 1006000), (1, .ref 0), (2, .ref 102), (3, .ref 206), (4, .int v4)]) rfl ?_
          exact hk Sh q16.2 h0
        · refine r_aload_n (pc := 1844) 5 d_L_law_1844 rfl rfl ?_
          refine r_iconst (pc := 1845) (0 : Int32) d_L_law_1845 rfl ?_
          refine q_lald (pc := 1846) (j := 0) (K_206 h0) (by unfold vp_in; decide) rfl d_L_law_1846 ?_
          refine r_iload (pc := 1847) 0 d_L_law_1847 rfl ?_
          refine r_i2l (pc := 1849) d_L_law_1849 ?_
          refine r_lcmp (pc := 1850) d_L_law_1850 ?_
          refine r_if_eq (f := (oW Sh)) (pc := 1851) 1856 d_L_law_1851 (by decide) (fun c20 => ?_) (fun c20 => ?_)
          · refine r_goto (pc := 1856) 2076 d_L_law_1856 (by decide) ?_
            refine r_pick [2, 3, 4, 5, 6] (ls' := [(0, .ref 1006000), (1, .ref 0), (2, .ref 102), (3, .ref 206), (4, .int v4)]) rfl ?_
            exact hk Sh q16.2 h0
          · refine r_iconst (pc := 1854) (0 : Int32) d_L_law_1854 rfl ?_
            exact r_zret (pc := 1855) rfl (by decide) d_L_law_1855
      · refine r_iconst (pc := 1837) (0 : Int32) d_L_law_1837 rfl ?_
        exact r_zret (pc := 1838) rfl (by decide) d_L_law_1838
  · refine r_iconst (pc := 1785) (1 : Int32) d_L_law_1785 rfl ?_
    refine r_goto (pc := 1786) 1790 d_L_law_1786 (by decide) ?_
    refine r_aload_n (pc := 1790) 3 d_L_law_1790 rfl rfl ?_
    refine q_cW (av := [.ref 0, .int (w (v4 + (1 : Int32)).toNatClampNeg), .int (w (v4 + (2 : Int32)).toNatClampNeg), .int (1 : Int32), .ref 206]) (st := []) h0 (z_runSX ck_L_guess rfl ml_L_211 cs_L_guess rfl (Nat.le_of_ble_eq_true rfl) d_L_law_1791) (w_L_guess hst h0 (by omega)) (fun x21 Sh D22 h0 => ?_)
    refine r_istore (pc := 1794) (ls' := [(5, .int x21), (0, .ref 1006000), (1, .ref 0), (2, .ref 102), (3, .ref 206), (4, .int v4)]) d_L_law_1794 (Nat.le_of_ble_eq_true rfl) rfl ?_
    refine r_aload_n (pc := 1796) 3 d_L_law_1796 rfl rfl ?_
    refine r_aload_n (pc := 1797) 1 d_L_law_1797 rfl rfl ?_
    refine r_iload (pc := 1798) 5 d_L_law_1798 rfl ?_
    refine r_iconst (pc := 1800) (1 : Int32) d_L_law_1800 rfl ?_
    refine r_iadd (pc := 1801) d_L_law_1801 ?_
    refine r_ck (f := (oW Sh)) rfl (fun hc23 => ?_)
    refine r_scr (pc := 1802) (j := (v4 + (1 : Int32)).toNatClampNeg) hs hc23 rfl d_L_law_1802 ?_
    refine r_aload_n (pc := 1803) 1 d_L_law_1803 rfl rfl ?_
    refine r_iload (pc := 1804) 5 d_L_law_1804 rfl ?_
    refine r_iconst (pc := 1806) (2 : Int32) d_L_law_1806 rfl ?_
    refine r_iadd (pc := 1807) d_L_law_1807 ?_
    refine r_ck (f := (oW Sh)) rfl (fun hc24 => ?_)
    refine r_scr (pc := 1808) (j := (v4 + (2 : Int32)).toNatClampNeg) hs hc24 rfl d_L_law_1808 ?_
    refine r_aload_n (pc := 1809) 1 d_L_law_1809 rfl rfl ?_
    refine r_iload (pc := 1810) 5 d_L_law_1810 rfl ?_
    refine r_iconst (pc := 1812) (3 : Int32) d_L_law_1812 rfl ?_
    refine r_iadd (pc := 1813) d_L_law_1813 ?_
    refine r_ck (f := (oW Sh)) rfl (fun hc25 => ?_)
    refine r_scr (pc := 1814) (j := (v4 + (3 : Int32)).toNatClampNeg) hs hc25 rfl d_L_law_1814 ?_
    refine r_if_eq (f := (oW Sh)) (pc := 1815) 1822 d_L_law_1815 (by decide) (fun c26 => ?_) (fun c26 => ?_)
    · refine r_iconst (pc := 1822) (0 : Int32) d_L_law_1822 rfl ?_
      refine q_cI (f := (oW Sh)) (av := [.ref 102, .int (w (v4 + (1 : Int32)).toNatClampNeg), .int (w (v4 + (2 : Int32)).toNatClampNeg), .int (0 : Int32)]) (st := []) (z_runV ck_X12_guess rfl ml_L_213 ci_X12_guess cv_X12_guess (K_102 h0) (ci := 12) rfl rfl (Nat.le_of_ble_eq_true rfl) d_L_law_1823) (s_X12_guess hst h0 (by omega)) kp_W (fun q27 _ => ?_)
      refine r_istore (pc := 1826) (ls' := [(6, .int q27.1), (5, .int x21), (0, .ref 1006000), (1, .ref 0), (2, .ref 102), (3, .ref 206), (4, .int v4)]) d_L_law_1826 (Nat.le_of_ble_eq_true rfl) rfl ?_
      refine r_aload_n (pc := 1828) 4 d_L_law_1828 rfl rfl ?_
      refine q_cP (f := (oW Sh)) (av := [.ref 102]) (st := []) (z_runV ck_X12_thrown rfl ml_L_104 ci_X12_thrown cv_X12_thrown (K_102 h0) (ci := 12) rfl rfl (Nat.le_of_ble_eq_true rfl) d_L_law_1829) (s_X12_thrown hst h0 (by omega)) kp_W (fun x28 _ => ?_)
      refine r_iload (pc := 1832) 1 d_L_law_1832 rfl ?_
      refine r_icmp_eq (f := (oW Sh)) (pc := 1834) 1839 d_L_law_1834 (by decide) (fun c29 => ?_) (fun c29 => ?_)
      · refine r_iload (pc := 1839) 1 d_L_law_1839 rfl ?_
        refine r_if_ne (f := (oW Sh)) (pc := 1841) 1856 d_L_law_1841 (by decide) (fun c30 => ?_) (fun c30 => ?_)
        · refine r_goto (pc := 1856) 2076 d_L_law_1856 (by decide) ?_
          refine r_pick [2, 3, 4, 5, 6] (ls' := [(0, .ref 1006000), (1, .ref 0), (2, .ref 102), (3, .ref 206), (4, .int v4)]) rfl ?_
          exact hk Sh q27.2 h0
        · refine r_aload_n (pc := 1844) 5 d_L_law_1844 rfl rfl ?_
          refine r_iconst (pc := 1845) (0 : Int32) d_L_law_1845 rfl ?_
          refine q_lald (pc := 1846) (j := 0) (K_206 h0) (by unfold vp_in; decide) rfl d_L_law_1846 ?_
          refine r_iload (pc := 1847) 0 d_L_law_1847 rfl ?_
          refine r_i2l (pc := 1849) d_L_law_1849 ?_
          refine r_lcmp (pc := 1850) d_L_law_1850 ?_
          refine r_if_eq (f := (oW Sh)) (pc := 1851) 1856 d_L_law_1851 (by decide) (fun c31 => ?_) (fun c31 => ?_)
          · refine r_goto (pc := 1856) 2076 d_L_law_1856 (by decide) ?_
            refine r_pick [2, 3, 4, 5, 6] (ls' := [(0, .ref 1006000), (1, .ref 0), (2, .ref 102), (3, .ref 206), (4, .int v4)]) rfl ?_
            exact hk Sh q27.2 h0
          · refine r_iconst (pc := 1854) (0 : Int32) d_L_law_1854 rfl ?_
            exact r_zret (pc := 1855) rfl (by decide) d_L_law_1855
      · refine r_iconst (pc := 1837) (0 : Int32) d_L_law_1837 rfl ?_
        exact r_zret (pc := 1838) rfl (by decide) d_L_law_1838
    · refine r_iconst (pc := 1818) (1 : Int32) d_L_law_1818 rfl ?_
      refine r_goto (pc := 1819) 1823 d_L_law_1819 (by decide) ?_
      refine q_cI (f := (oW Sh)) (av := [.ref 102, .int (w (v4 + (1 : Int32)).toNatClampNeg), .int (w (v4 + (2 : Int32)).toNatClampNeg), .int (1 : Int32)]) (st := []) (z_runV ck_X12_guess rfl ml_L_213 ci_X12_guess cv_X12_guess (K_102 h0) (ci := 12) rfl rfl (Nat.le_of_ble_eq_true rfl) d_L_law_1823) (s_X12_guess hst h0 (by omega)) kp_W (fun q32 _ => ?_)
      refine r_istore (pc := 1826) (ls' := [(6, .int q32.1), (5, .int x21), (0, .ref 1006000), (1, .ref 0), (2, .ref 102), (3, .ref 206), (4, .int v4)]) d_L_law_1826 (Nat.le_of_ble_eq_true rfl) rfl ?_
      refine r_aload_n (pc := 1828) 4 d_L_law_1828 rfl rfl ?_
      refine q_cP (f := (oW Sh)) (av := [.ref 102]) (st := []) (z_runV ck_X12_thrown rfl ml_L_104 ci_X12_thrown cv_X12_thrown (K_102 h0) (ci := 12) rfl rfl (Nat.le_of_ble_eq_true rfl) d_L_law_1829) (s_X12_thrown hst h0 (by omega)) kp_W (fun x33 _ => ?_)
      refine r_iload (pc := 1832) 1 d_L_law_1832 rfl ?_
      refine r_icmp_eq (f := (oW Sh)) (pc := 1834) 1839 d_L_law_1834 (by decide) (fun c34 => ?_) (fun c34 => ?_)
      · refine r_iload (pc := 1839) 1 d_L_law_1839 rfl ?_
        refine r_if_ne (f := (oW Sh)) (pc := 1841) 1856 d_L_law_1841 (by decide) (fun c35 => ?_) (fun c35 => ?_)
        · refine r_goto (pc := 1856) 2076 d_L_law_1856 (by decide) ?_
          refine r_pick [2, 3, 4, 5, 6] (ls' := [(0, .ref 1006000), (1, .ref 0), (2, .ref 102), (3, .ref 206), (4, .int v4)]) rfl ?_
          exact hk Sh q32.2 h0
        · refine r_aload_n (pc := 1844) 5 d_L_law_1844 rfl rfl ?_
          refine r_iconst (pc := 1845) (0 : Int32) d_L_law_1845 rfl ?_
          refine q_lald (pc := 1846) (j := 0) (K_206 h0) (by unfold vp_in; decide) rfl d_L_law_1846 ?_
          refine r_iload (pc := 1847) 0 d_L_law_1847 rfl ?_
          refine r_i2l (pc := 1849) d_L_law_1849 ?_
          refine r_lcmp (pc := 1850) d_L_law_1850 ?_
          refine r_if_eq (f := (oW Sh)) (pc := 1851) 1856 d_L_law_1851 (by decide) (fun c36 => ?_) (fun c36 => ?_)
          · refine r_goto (pc := 1856) 2076 d_L_law_1856 (by decide) ?_
            refine r_pick [2, 3, 4, 5, 6] (ls' := [(0, .ref 1006000), (1, .ref 0), (2, .ref 102), (3, .ref 206), (4, .int v4)]) rfl ?_
            exact hk Sh q32.2 h0
          · refine r_iconst (pc := 1854) (0 : Int32) d_L_law_1854 rfl ?_
            exact r_zret (pc := 1855) rfl (by decide) d_L_law_1855
      · refine r_iconst (pc := 1837) (0 : Int32) d_L_law_1837 rfl ?_
        exact r_zret (pc := 1838) rfl (by decide) d_L_law_1838
def fc_33 (w : Nat → Int32) (nS : Nat) (k : zD → Option (Int32 × Nat × zD)) (v4 : Int32) (D : zD) : Option (Int32 × Nat × zD) := zck (v4 + (1 : Int32)) nS <| zck (v4 + (2 : Int32)) nS <| (if (w (v4 + (2 : Int32)).toNatClampNeg) = 0 then (fwA (fw_L_known (w (v4 + (1 : Int32)).toNatClampNeg) (0 : Int32) D) fun x4 D5 => zck (v4 + (1 : Int32)) nS <| zck (v4 + (2 : Int32)) nS <| (if (w (v4 + (2 : Int32)).toNatClampNeg) = 0 then ((fn_X12_known (w (v4 + (1 : Int32)).toNatClampNeg) (0 : Int32) D5).bind fun q9 => (fn_X12_thrown q9.2).bind fun x10 => (if x10 = x4 then ((if x4 = 0 then ((if (lg_cmp (gL q9.2 206 0) (q9.1).toInt64) = 0 then ((k q9.2)) else ((some ((0 : Int32), 0, q9.2))))) else ((k q9.2)))) else ((some ((0 : Int32), 0, q9.2))))) else ((fn_X12_known (w (v4 + (1 : Int32)).toNatClampNeg) (1 : Int32) D5).bind fun q14 => (fn_X12_thrown q14.2).bind fun x15 => (if x15 = x4 then ((if x4 = 0 then ((if (lg_cmp (gL q14.2 206 0) (q14.1).toInt64) = 0 then ((k q14.2)) else ((some ((0 : Int32), 0, q14.2))))) else ((k q14.2)))) else ((some ((0 : Int32), 0, q14.2))))))) else (fwA (fw_L_known (w (v4 + (1 : Int32)).toNatClampNeg) (1 : Int32) D) fun x19 D20 => zck (v4 + (1 : Int32)) nS <| zck (v4 + (2 : Int32)) nS <| (if (w (v4 + (2 : Int32)).toNatClampNeg) = 0 then ((fn_X12_known (w (v4 + (1 : Int32)).toNatClampNeg) (0 : Int32) D20).bind fun q24 => (fn_X12_thrown q24.2).bind fun x25 => (if x25 = x19 then ((if x19 = 0 then ((if (lg_cmp (gL q24.2 206 0) (q24.1).toInt64) = 0 then ((k q24.2)) else ((some ((0 : Int32), 0, q24.2))))) else ((k q24.2)))) else ((some ((0 : Int32), 0, q24.2))))) else ((fn_X12_known (w (v4 + (1 : Int32)).toNatClampNeg) (1 : Int32) D20).bind fun q29 => (fn_X12_thrown q29.2).bind fun x30 => (if x30 = x19 then ((if x19 = 0 then ((if (lg_cmp (gL q29.2 206 0) (q29.1).toInt64) = 0 then ((k q29.2)) else ((some ((0 : Int32), 0, q29.2))))) else ((k q29.2)))) else ((some ((0 : Int32), 0, q29.2))))))))
theorem lc_33 {X : zX} {d : Nat} {w : Nat → Int32} {nS : Nat} (hst : (zl X).stackTraces = false) (hs : zScr X nS w) (hd : 146 ≤ d) {k : zD → Option (Int32 × Nat × zD)} {v4 : Int32} (hk : ∀ (Sh : zSh) (D : zD), zSh0 Sh → Rn X m_L_law (d + 1) 2076 [(0, .ref 1006000), (1, .ref 0), (2, .ref 102), (3, .ref 206), (4, .int v4)] [] (Sh, D) (oW Sh (k D))) {Sh : zSh} (h0 : zSh0 Sh) {D : zD} : Rn X m_L_law (d + 1) 1859 [(0, .ref 1006000), (1, .ref 0), (2, .ref 102), (3, .ref 206), (4, .int v4)] [] (Sh, D) (oW Sh (fc_33 w nS k v4 D)) := by
  unfold fc_33
  refine r_aload_n (pc := 1859) 1 d_L_law_1859 rfl rfl ?_
  refine r_aload_n (pc := 1860) 0 d_L_law_1860 rfl rfl ?_
  refine r_iload (pc := 1861) 4 d_L_law_1861 rfl ?_
  refine r_iconst (pc := 1863) (1 : Int32) d_L_law_1863 rfl ?_
  refine r_iadd (pc := 1864) d_L_law_1864 ?_
  refine r_ck (f := (oW Sh)) rfl (fun hc1 => ?_)
  refine r_scr (pc := 1865) (j := (v4 + (1 : Int32)).toNatClampNeg) hs hc1 rfl d_L_law_1865 ?_
  refine r_aload_n (pc := 1866) 0 d_L_law_1866 rfl rfl ?_
  refine r_iload (pc := 1867) 4 d_L_law_1867 rfl ?_
  refine r_iconst (pc := 1869) (2 : Int32) d_L_law_1869 rfl ?_
  refine r_iadd (pc := 1870) d_L_law_1870 ?_
  refine r_ck (f := (oW Sh)) rfl (fun hc2 => ?_)
  refine r_scr (pc := 1871) (j := (v4 + (2 : Int32)).toNatClampNeg) hs hc2 rfl d_L_law_1871 ?_
  refine r_if_eq (f := (oW Sh)) (pc := 1872) 1879 d_L_law_1872 (by decide) (fun c3 => ?_) (fun c3 => ?_)
  · refine r_iconst (pc := 1879) (0 : Int32) d_L_law_1879 rfl ?_
    refine r_aload_n (pc := 1880) 3 d_L_law_1880 rfl rfl ?_
    refine q_cW (av := [.ref 0, .int (w (v4 + (1 : Int32)).toNatClampNeg), .int (0 : Int32), .ref 206]) (st := []) h0 (z_runSX ck_L_known rfl ml_L_214 cs_L_known rfl (Nat.le_of_ble_eq_true rfl) d_L_law_1881) (w_L_known hst h0 (by omega)) (fun x4 Sh D5 h0 => ?_)
    refine r_istore (pc := 1884) (ls' := [(5, .int x4), (0, .ref 1006000), (1, .ref 0), (2, .ref 102), (3, .ref 206), (4, .int v4)]) d_L_law_1884 (Nat.le_of_ble_eq_true rfl) rfl ?_
    refine r_aload_n (pc := 1886) 3 d_L_law_1886 rfl rfl ?_
    refine r_aload_n (pc := 1887) 1 d_L_law_1887 rfl rfl ?_
    refine r_iload (pc := 1888) 5 d_L_law_1888 rfl ?_
    refine r_iconst (pc := 1890) (1 : Int32) d_L_law_1890 rfl ?_
    refine r_iadd (pc := 1891) d_L_law_1891 ?_
    refine r_ck (f := (oW Sh)) rfl (fun hc6 => ?_)
    refine r_scr (pc := 1892) (j := (v4 + (1 : Int32)).toNatClampNeg) hs hc6 rfl d_L_law_1892 ?_
    refine r_aload_n (pc := 1893) 1 d_L_law_1893 rfl rfl ?_
    refine r_iload (pc := 1894) 5 d_L_law_1894 rfl ?_
    refine r_iconst (pc := 1896) (2 : Int32) d_L_law_1896 rfl ?_
    refine r_iadd (pc := 1897) d_L_law_1897 ?_
    refine r_ck (f := (oW Sh)) rfl (fun hc7 => ?_)
    refine r_scr (pc := 1898) (j := (v4 + (2 : Int32)).toNatClampNeg) hs hc7 rfl d_L_law_1898 ?_
    refine r_if_eq (f := (oW Sh)) (pc := 1899) 1906 d_L_law_1899 (by decide) (fun c8 => ?_) (fun c8 => ?_)
    · refine r_iconst (pc := 1906) (0 : Int32) d_L_law_1906 rfl ?_
      refine q_cI (f := (oW Sh)) (av := [.ref 102, .int (w (v4 + (1 : Int32)).toNatClampNeg), .int (0 : Int32)]) (st := []) (z_runV ck_X12_known rfl ml_L_217 ci_X12_known cv_X12_known (K_102 h0) (ci := 12) rfl rfl (Nat.le_of_ble_eq_true rfl) d_L_law_1907) (s_X12_known hst h0 (by omega)) kp_W (fun q9 _ => ?_)
      refine r_istore (pc := 1910) (ls' := [(6, .int q9.1), (5, .int x4), (0, .ref 1006000), (1, .ref 0), (2, .ref 102), (3, .ref 206), (4, .int v4)]) d_L_law_1910 (Nat.le_of_ble_eq_true rfl) rfl ?_
      refine r_aload_n (pc := 1912) 4 d_L_law_1912 rfl rfl ?_
      refine q_cP (f := (oW Sh)) (av := [.ref 102]) (st := []) (z_runV ck_X12_thrown rfl ml_L_104 ci_X12_thrown cv_X12_thrown (K_102 h0) (ci := 12) rfl rfl (Nat.le_of_ble_eq_true rfl) d_L_law_1913) (s_X12_thrown hst h0 (by omega)) kp_W (fun x10 _ => ?_)
      refine r_iload (pc := 1916) 1 d_L_law_1916 rfl ?_
      refine r_icmp_eq (f := (oW Sh)) (pc := 1918) 1923 d_L_law_1918 (by decide) (fun c11 => ?_) (fun c11 => ?_)
      · refine r_iload (pc := 1923) 1 d_L_law_1923 rfl ?_
        refine r_if_ne (f := (oW Sh)) (pc := 1925) 1940 d_L_law_1925 (by decide) (fun c12 => ?_) (fun c12 => ?_)
        · refine r_goto (pc := 1940) 2076 d_L_law_1940 (by decide) ?_
          refine r_pick [2, 3, 4, 5, 6] (ls' := [(0, .ref 1006000), (1, .ref 0), (2, .ref 102), (3, .ref 206), (4, .int v4)]) rfl ?_
          exact hk Sh q9.2 h0
        · refine r_aload_n (pc := 1928) 5 d_L_law_1928 rfl rfl ?_
          refine r_iconst (pc := 1929) (0 : Int32) d_L_law_1929 rfl ?_
          refine q_lald (pc := 1930) (j := 0) (K_206 h0) (by unfold vp_in; decide) rfl d_L_law_1930 ?_
          refine r_iload (pc := 1931) 0 d_L_law_1931 rfl ?_
          refine r_i2l (pc := 1933) d_L_law_1933 ?_
          refine r_lcmp (pc := 1934) d_L_law_1934 ?_
          refine r_if_eq (f := (oW Sh)) (pc := 1935) 1940 d_L_law_1935 (by decide) (fun c13 => ?_) (fun c13 => ?_)
          · refine r_goto (pc := 1940) 2076 d_L_law_1940 (by decide) ?_
            refine r_pick [2, 3, 4, 5, 6] (ls' := [(0, .ref 1006000), (1, .ref 0), (2, .ref 102), (3, .ref 206), (4, .int v4)]) rfl ?_
            exact hk Sh q9.2 h0
          · refine r_iconst (pc := 1938) (0 : Int32) d_L_law_1938 rfl ?_
            exact r_zret (pc := 1939) rfl (by decide) d_L_law_1939
      · refine r_iconst (pc := 1921) (0 : Int32) d_L_law_1921 rfl ?_
        exact r_zret (pc := 1922) rfl (by decide) d_L_law_1922
    · refine r_iconst (pc := 1902) (1 : Int32) d_L_law_1902 rfl ?_
      refine r_goto (pc := 1903) 1907 d_L_law_1903 (by decide) ?_
      refine q_cI (f := (oW Sh)) (av := [.ref 102, .int (w (v4 + (1 : Int32)).toNatClampNeg), .int (1 : Int32)]) (st := []) (z_runV ck_X12_known rfl ml_L_217 ci_X12_known cv_X12_known (K_102 h0) (ci := 12) rfl rfl (Nat.le_of_ble_eq_true rfl) d_L_law_1907) (s_X12_known hst h0 (by omega)) kp_W (fun q14 _ => ?_)
      refine r_istore (pc := 1910) (ls' := [(6, .int q14.1), (5, .int x4), (0, .ref 1006000), (1, .ref 0), (2, .ref 102), (3, .ref 206), (4, .int v4)]) d_L_law_1910 (Nat.le_of_ble_eq_true rfl) rfl ?_
      refine r_aload_n (pc := 1912) 4 d_L_law_1912 rfl rfl ?_
      refine q_cP (f := (oW Sh)) (av := [.ref 102]) (st := []) (z_runV ck_X12_thrown rfl ml_L_104 ci_X12_thrown cv_X12_thrown (K_102 h0) (ci := 12) rfl rfl (Nat.le_of_ble_eq_true rfl) d_L_law_1913) (s_X12_thrown hst h0 (by omega)) kp_W (fun x15 _ => ?_)
      refine r_iload (pc := 1916) 1 d_L_law_1916 rfl ?_
      refine r_icmp_eq (f := (oW Sh)) (pc := 1918) 1923 d_L_law_1918 (by decide) (fun c16 => ?_) (fun c16 => ?_)
      · refine r_iload (pc := 1923) 1 d_L_law_1923 rfl ?_
        refine r_if_ne (f := (oW Sh)) (pc := 1925) 1940 d_L_law_1925 (by decide) (fun c17 => ?_) (fun c17 => ?_)
        · refine r_goto (pc := 1940) 2076 d_L_law_1940 (by decide) ?_
          refine r_pick [2, 3, 4, 5, 6] (ls' := [(0, .ref 1006000), (1, .ref 0), (2, .ref 102), (3, .ref 206), (4, .int v4)]) rfl ?_
          exact hk Sh q14.2 h0
        · refine r_aload_n (pc := 1928) 5 d_L_law_1928 rfl rfl ?_
          refine r_iconst (pc := 1929) (0 : Int32) d_L_law_1929 rfl ?_
          refine q_lald (pc := 1930) (j := 0) (K_206 h0) (by unfold vp_in; decide) rfl d_L_law_1930 ?_
          refine r_iload (pc := 1931) 0 d_L_law_1931 rfl ?_
          refine r_i2l (pc := 1933) d_L_law_1933 ?_
          refine r_lcmp (pc := 1934) d_L_law_1934 ?_
          refine r_if_eq (f := (oW Sh)) (pc := 1935) 1940 d_L_law_1935 (by decide) (fun c18 => ?_) (fun c18 => ?_)
          · refine r_goto (pc := 1940) 2076 d_L_law_1940 (by decide) ?_
            refine r_pick [2, 3, 4, 5, 6] (ls' := [(0, .ref 1006000), (1, .ref 0), (2, .ref 102), (3, .ref 206), (4, .int v4)]) rfl ?_
            exact hk Sh q14.2 h0
          · refine r_iconst (pc := 1938) (0 : Int32) d_L_law_1938 rfl ?_
            exact r_zret (pc := 1939) rfl (by decide) d_L_law_1939
      · refine r_iconst (pc := 1921) (0 : Int32) d_L_law_1921 rfl ?_
        exact r_zret (pc := 1922) rfl (by decide) d_L_law_1922
  · refine r_iconst (pc := 1875) (1 : Int32) d_L_law_1875 rfl ?_
    refine r_goto (pc := 1876) 1880 d_L_law_1876 (by decide) ?_
    refine r_aload_n (pc := 1880) 3 d_L_law_1880 rfl rfl ?_
    refine q_cW (av := [.ref 0, .int (w (v4 + (1 : Int32)).toNatClampNeg), .int (1 : Int32), .ref 206]) (st := []) h0 (z_runSX ck_L_known rfl ml_L_214 cs_L_known rfl (Nat.le_of_ble_eq_true rfl) d_L_law_1881) (w_L_known hst h0 (by omega)) (fun x19 Sh D20 h0 => ?_)
    refine r_istore (pc := 1884) (ls' := [(5, .int x19), (0, .ref 1006000), (1, .ref 0), (2, .ref 102), (3, .ref 206), (4, .int v4)]) d_L_law_1884 (Nat.le_of_ble_eq_true rfl) rfl ?_
    refine r_aload_n (pc := 1886) 3 d_L_law_1886 rfl rfl ?_
    refine r_aload_n (pc := 1887) 1 d_L_law_1887 rfl rfl ?_
    refine r_iload (pc := 1888) 5 d_L_law_1888 rfl ?_
    refine r_iconst (pc := 1890) (1 : Int32) d_L_law_1890 rfl ?_
    refine r_iadd (pc := 1891) d_L_law_1891 ?_
    refine r_ck (f := (oW Sh)) rfl (fun hc21 => ?_)
    refine r_scr (pc := 1892) (j := (v4 + (1 : Int32)).toNatClampNeg) hs hc21 rfl d_L_law_1892 ?_
    refine r_aload_n (pc := 1893) 1 d_L_law_1893 rfl rfl ?_
    refine r_iload (pc := 1894) 5 d_L_law_1894 rfl ?_
    refine r_iconst (pc := 1896) (2 : Int32) d_L_law_1896 rfl ?_
    refine r_iadd (pc := 1897) d_L_law_1897 ?_
    refine r_ck (f := (oW Sh)) rfl (fun hc22 => ?_)
    refine r_scr (pc := 1898) (j := (v4 + (2 : Int32)).toNatClampNeg) hs hc22 rfl d_L_law_1898 ?_
    refine r_if_eq (f := (oW Sh)) (pc := 1899) 1906 d_L_law_1899 (by decide) (fun c23 => ?_) (fun c23 => ?_)
    · refine r_iconst (pc := 1906) (0 : Int32) d_L_law_1906 rfl ?_
      refine q_cI (f := (oW Sh)) (av := [.ref 102, .int (w (v4 + (1 : Int32)).toNatClampNeg), .int (0 : Int32)]) (st := []) (z_runV ck_X12_known rfl ml_L_217 ci_X12_known cv_X12_known (K_102 h0) (ci := 12) rfl rfl (Nat.le_of_ble_eq_true rfl) d_L_law_1907) (s_X12_known hst h0 (by omega)) kp_W (fun q24 _ => ?_)
      refine r_istore (pc := 1910) (ls' := [(6, .int q24.1), (5, .int x19), (0, .ref 1006000), (1, .ref 0), (2, .ref 102), (3, .ref 206), (4, .int v4)]) d_L_law_1910 (Nat.le_of_ble_eq_true rfl) rfl ?_
      refine r_aload_n (pc := 1912) 4 d_L_law_1912 rfl rfl ?_
      refine q_cP (f := (oW Sh)) (av := [.ref 102]) (st := []) (z_runV ck_X12_thrown rfl ml_L_104 ci_X12_thrown cv_X12_thrown (K_102 h0) (ci := 12) rfl rfl (Nat.le_of_ble_eq_true rfl) d_L_law_1913) (s_X12_thrown hst h0 (by omega)) kp_W (fun x25 _ => ?_)
      refine r_iload (pc := 1916) 1 d_L_law_1916 rfl ?_
      refine r_icmp_eq (f := (oW Sh)) (pc := 1918) 1923 d_L_law_1918 (by decide) (fun c26 => ?_) (fun c26 => ?_)
      · refine r_iload (pc := 1923) 1 d_L_law_1923 rfl ?_
        refine r_if_ne (f := (oW Sh)) (pc := 1925) 1940 d_L_law_1925 (by decide) (fun c27 => ?_) (fun c27 => ?_)
        · refine r_goto (pc := 1940) 2076 d_L_law_1940 (by decide) ?_
          refine r_pick [2, 3, 4, 5, 6] (ls' := [(0, .ref 1006000), (1, .ref 0), (2, .ref 102), (3, .ref 206), (4, .int v4)]) rfl ?_
          exact hk Sh q24.2 h0
        · refine r_aload_n (pc := 1928) 5 d_L_law_1928 rfl rfl ?_
          refine r_iconst (pc := 1929) (0 : Int32) d_L_law_1929 rfl ?_
          refine q_lald (pc := 1930) (j := 0) (K_206 h0) (by unfold vp_in; decide) rfl d_L_law_1930 ?_
          refine r_iload (pc := 1931) 0 d_L_law_1931 rfl ?_
          refine r_i2l (pc := 1933) d_L_law_1933 ?_
          refine r_lcmp (pc := 1934) d_L_law_1934 ?_
          refine r_if_eq (f := (oW Sh)) (pc := 1935) 1940 d_L_law_1935 (by decide) (fun c28 => ?_) (fun c28 => ?_)
          · refine r_goto (pc := 1940) 2076 d_L_law_1940 (by decide) ?_
            refine r_pick [2, 3, 4, 5, 6] (ls' := [(0, .ref 1006000), (1, .ref 0), (2, .ref 102), (3, .ref 206), (4, .int v4)]) rfl ?_
            exact hk Sh q24.2 h0
          · refine r_iconst (pc := 1938) (0 : Int32) d_L_law_1938 rfl ?_
            exact r_zret (pc := 1939) rfl (by decide) d_L_law_1939
      · refine r_iconst (pc := 1921) (0 : Int32) d_L_law_1921 rfl ?_
        exact r_zret (pc := 1922) rfl (by decide) d_L_law_1922
    · refine r_iconst (pc := 1902) (1 : Int32) d_L_law_1902 rfl ?_
      refine r_goto (pc := 1903) 1907 d_L_law_1903 (by decide) ?_
      refine q_cI (f := (oW Sh)) (av := [.ref 102, .int (w (v4 + (1 : Int32)).toNatClampNeg), .int (1 : Int32)]) (st := []) (z_runV ck_X12_known rfl ml_L_217 ci_X12_known cv_X12_known (K_102 h0) (ci := 12) rfl rfl (Nat.le_of_ble_eq_true rfl) d_L_law_1907) (s_X12_known hst h0 (by omega)) kp_W (fun q29 _ => ?_)
      refine r_istore (pc := 1910) (ls' := [(6, .int q29.1), (5, .int x19), (0, .ref 1006000), (1, .ref 0), (2, .ref 102), (3, .ref 206), (4, .int v4)]) d_L_law_1910 (Nat.le_of_ble_eq_true rfl) rfl ?_
      refine r_aload_n (pc := 1912) 4 d_L_law_1912 rfl rfl ?_
      refine q_cP (f := (oW Sh)) (av := [.ref 102]) (st := []) (z_runV ck_X12_thrown rfl ml_L_104 ci_X12_thrown cv_X12_thrown (K_102 h0) (ci := 12) rfl rfl (Nat.le_of_ble_eq_true rfl) d_L_law_1913) (s_X12_thrown hst h0 (by omega)) kp_W (fun x30 _ => ?_)
      refine r_iload (pc := 1916) 1 d_L_law_1916 rfl ?_
      refine r_icmp_eq (f := (oW Sh)) (pc := 1918) 1923 d_L_law_1918 (by decide) (fun c31 => ?_) (fun c31 => ?_)
      · refine r_iload (pc := 1923) 1 d_L_law_1923 rfl ?_
        refine r_if_ne (f := (oW Sh)) (pc := 1925) 1940 d_L_law_1925 (by decide) (fun c32 => ?_) (fun c32 => ?_)
        · refine r_goto (pc := 1940) 2076 d_L_law_1940 (by decide) ?_
          refine r_pick [2, 3, 4, 5, 6] (ls' := [(0, .ref 1006000), (1, .ref 0), (2, .ref 102), (3, .ref 206), (4, .int v4)]) rfl ?_
          exact hk Sh q29.2 h0
        · refine r_aload_n (pc := 1928) 5 d_L_law_1928 rfl rfl ?_
          refine r_iconst (pc := 1929) (0 : Int32) d_L_law_1929 rfl ?_
          refine q_lald (pc := 1930) (j := 0) (K_206 h0) (by unfold vp_in; decide) rfl d_L_law_1930 ?_
          refine r_iload (pc := 1931) 0 d_L_law_1931 rfl ?_
          refine r_i2l (pc := 1933) d_L_law_1933 ?_
          refine r_lcmp (pc := 1934) d_L_law_1934 ?_
          refine r_if_eq (f := (oW Sh)) (pc := 1935) 1940 d_L_law_1935 (by decide) (fun c33 => ?_) (fun c33 => ?_)
          · refine r_goto (pc := 1940) 2076 d_L_law_1940 (by decide) ?_
            refine r_pick [2, 3, 4, 5, 6] (ls' := [(0, .ref 1006000), (1, .ref 0), (2, .ref 102), (3, .ref 206), (4, .int v4)]) rfl ?_
            exact hk Sh q29.2 h0
          · refine r_iconst (pc := 1938) (0 : Int32) d_L_law_1938 rfl ?_
            exact r_zret (pc := 1939) rfl (by decide) d_L_law_1939
      · refine r_iconst (pc := 1921) (0 : Int32) d_L_law_1921 rfl ?_
        exact r_zret (pc := 1922) rfl (by decide) d_L_law_1922
def fc_34 (w : Nat → Int32) (nS : Nat) (k : zD → Option (Int32 × Nat × zD)) (v4 : Int32) (D : zD) : Option (Int32 × Nat × zD) := zck (v4 + (1 : Int32)) nS <| (if (w (v4 + (1 : Int32)).toNatClampNeg) = 0 then ((fn_X11_all (0 : Int32) D).bind fun q3 => zck (v4 + (1 : Int32)) nS <| (if (w (v4 + (1 : Int32)).toNatClampNeg) = 0 then ((fn_X12_all (0 : Int32) q3.2).bind fun q6 => (if q3.1 = q6.1 then ((k q6.2)) else ((some ((0 : Int32), 0, q6.2))))) else ((fn_X12_all (1 : Int32) q3.2).bind fun q8 => (if q3.1 = q8.1 then ((k q8.2)) else ((some ((0 : Int32), 0, q8.2))))))) else ((fn_X11_all (1 : Int32) D).bind fun q10 => zck (v4 + (1 : Int32)) nS <| (if (w (v4 + (1 : Int32)).toNatClampNeg) = 0 then ((fn_X12_all (0 : Int32) q10.2).bind fun q13 => (if q10.1 = q13.1 then ((k q13.2)) else ((some ((0 : Int32), 0, q13.2))))) else ((fn_X12_all (1 : Int32) q10.2).bind fun q15 => (if q10.1 = q15.1 then ((k q15.2)) else ((some ((0 : Int32), 0, q15.2))))))))
theorem lc_34 {X : zX} {d : Nat} {w : Nat → Int32} {nS : Nat} (hst : (zl X).stackTraces = false) (hs : zScr X nS w) (hd : 146 ≤ d) {k : zD → Option (Int32 × Nat × zD)} {v4 : Int32} (hk : ∀ (Sh : zSh) (D : zD), zSh0 Sh → Rn X m_L_law (d + 1) 2076 [(0, .ref 1006000), (1, .ref 0), (2, .ref 102), (3, .ref 206), (4, .int v4)] [] (Sh, D) (oW Sh (k D))) {Sh : zSh} (h0 : zSh0 Sh) {D : zD} : Rn X m_L_law (d + 1) 1943 [(0, .ref 1006000), (1, .ref 0), (2, .ref 102), (3, .ref 206), (4, .int v4)] [] (Sh, D) (oW Sh (fc_34 w nS k v4 D)) := by
  unfold fc_34
  refine r_aload_n (pc := 1943) 1 d_L_law_1943 rfl rfl ?_
  refine r_aload_n (pc := 1944) 0 d_L_law_1944 rfl rfl ?_
  refine r_iload (pc := 1945) 4 d_L_law_1945 rfl ?_
  refine r_iconst (pc := 1947) (1 : Int32) d_L_law_1947 rfl ?_
  refine r_iadd (pc := 1948) d_L_law_1948 ?_
  refine r_ck (f := (oW Sh)) rfl (fun hc1 => ?_)
  refine r_scr (pc := 1949) (j := (v4 + (1 : Int32)).toNatClampNeg) hs hc1 rfl d_L_law_1949 ?_
  refine r_if_eq (f := (oW Sh)) (pc := 1950) 1957 d_L_law_1950 (by decide) (fun c2 => ?_) (fun c2 => ?_)
  · refine r_iconst (pc := 1957) (0 : Int32) d_L_law_1957 rfl ?_
    refine q_cI (f := (oW Sh)) (av := [.ref 0, .int (0 : Int32)]) (st := []) (z_runV ck_X11_all rfl ml_L_218 ci_X11_all cv_X11_all (K_0 h0) (ci := 11) rfl rfl (Nat.le_of_ble_eq_true rfl) d_L_law_1958) (s_X11_all hst h0 (by omega)) kp_W (fun q3 _ => ?_)
    refine r_aload_n (pc := 1961) 2 d_L_law_1961 rfl rfl ?_
    refine r_aload_n (pc := 1962) 0 d_L_law_1962 rfl rfl ?_
    refine r_iload (pc := 1963) 4 d_L_law_1963 rfl ?_
    refine r_iconst (pc := 1965) (1 : Int32) d_L_law_1965 rfl ?_
    refine r_iadd (pc := 1966) d_L_law_1966 ?_
    refine r_ck (f := (oW Sh)) rfl (fun hc4 => ?_)
    refine r_scr (pc := 1967) (j := (v4 + (1 : Int32)).toNatClampNeg) hs hc4 rfl d_L_law_1967 ?_
    refine r_if_eq (f := (oW Sh)) (pc := 1968) 1975 d_L_law_1968 (by decide) (fun c5 => ?_) (fun c5 => ?_)
    · refine r_iconst (pc := 1975) (0 : Int32) d_L_law_1975 rfl ?_
      refine q_cI (f := (oW Sh)) (av := [.ref 102, .int (0 : Int32)]) (st := [.int q3.1]) (z_runV ck_X12_all rfl ml_L_222 ci_X12_all cv_X12_all (K_102 h0) (ci := 12) rfl rfl (Nat.le_of_ble_eq_true rfl) d_L_law_1976) (s_X12_all hst h0 (by omega)) kp_W (fun q6 _ => ?_)
      refine r_icmp_eq (f := (oW Sh)) (pc := 1979) 2076 d_L_law_1979 (by decide) (fun c7 => ?_) (fun c7 => ?_)
      · refine r_pick [0, 1, 2, 3, 4] (ls' := [(0, .ref 1006000), (1, .ref 0), (2, .ref 102), (3, .ref 206), (4, .int v4)]) rfl ?_
        exact hk Sh q6.2 h0
      · refine r_iconst (pc := 1982) (0 : Int32) d_L_law_1982 rfl ?_
        exact r_zret (pc := 1983) rfl (by decide) d_L_law_1983
    · refine r_iconst (pc := 1971) (1 : Int32) d_L_law_1971 rfl ?_
      refine r_goto (pc := 1972) 1976 d_L_law_1972 (by decide) ?_
      refine q_cI (f := (oW Sh)) (av := [.ref 102, .int (1 : Int32)]) (st := [.int q3.1]) (z_runV ck_X12_all rfl ml_L_222 ci_X12_all cv_X12_all (K_102 h0) (ci := 12) rfl rfl (Nat.le_of_ble_eq_true rfl) d_L_law_1976) (s_X12_all hst h0 (by omega)) kp_W (fun q8 _ => ?_)
      refine r_icmp_eq (f := (oW Sh)) (pc := 1979) 2076 d_L_law_1979 (by decide) (fun c9 => ?_) (fun c9 => ?_)
      · refine r_pick [0, 1, 2, 3, 4] (ls' := [(0, .ref 1006000), (1, .ref 0), (2, .ref 102), (3, .ref 206), (4, .int v4)]) rfl ?_
        exact hk Sh q8.2 h0
      · refine r_iconst (pc := 1982) (0 : Int32) d_L_law_1982 rfl ?_
        exact r_zret (pc := 1983) rfl (by decide) d_L_law_1983
  · refine r_iconst (pc := 1953) (1 : Int32) d_L_law_1953 rfl ?_
    refine r_goto (pc := 1954) 1958 d_L_law_1954 (by decide) ?_
    refine q_cI (f := (oW Sh)) (av := [.ref 0, .int (1 : Int32)]) (st := []) (z_runV ck_X11_all rfl ml_L_218 ci_X11_all cv_X11_all (K_0 h0) (ci := 11) rfl rfl (Nat.le_of_ble_eq_true rfl) d_L_law_1958) (s_X11_all hst h0 (by omega)) kp_W (fun q10 _ => ?_)
    refine r_aload_n (pc := 1961) 2 d_L_law_1961 rfl rfl ?_
    refine r_aload_n (pc := 1962) 0 d_L_law_1962 rfl rfl ?_
    refine r_iload (pc := 1963) 4 d_L_law_1963 rfl ?_
    refine r_iconst (pc := 1965) (1 : Int32) d_L_law_1965 rfl ?_
    refine r_iadd (pc := 1966) d_L_law_1966 ?_
    refine r_ck (f := (oW Sh)) rfl (fun hc11 => ?_)
    refine r_scr (pc := 1967) (j := (v4 + (1 : Int32)).toNatClampNeg) hs hc11 rfl d_L_law_1967 ?_
    refine r_if_eq (f := (oW Sh)) (pc := 1968) 1975 d_L_law_1968 (by decide) (fun c12 => ?_) (fun c12 => ?_)
    · refine r_iconst (pc := 1975) (0 : Int32) d_L_law_1975 rfl ?_
      refine q_cI (f := (oW Sh)) (av := [.ref 102, .int (0 : Int32)]) (st := [.int q10.1]) (z_runV ck_X12_all rfl ml_L_222 ci_X12_all cv_X12_all (K_102 h0) (ci := 12) rfl rfl (Nat.le_of_ble_eq_true rfl) d_L_law_1976) (s_X12_all hst h0 (by omega)) kp_W (fun q13 _ => ?_)
      refine r_icmp_eq (f := (oW Sh)) (pc := 1979) 2076 d_L_law_1979 (by decide) (fun c14 => ?_) (fun c14 => ?_)
      · refine r_pick [0, 1, 2, 3, 4] (ls' := [(0, .ref 1006000), (1, .ref 0), (2, .ref 102), (3, .ref 206), (4, .int v4)]) rfl ?_
        exact hk Sh q13.2 h0
      · refine r_iconst (pc := 1982) (0 : Int32) d_L_law_1982 rfl ?_
        exact r_zret (pc := 1983) rfl (by decide) d_L_law_1983
    · refine r_iconst (pc := 1971) (1 : Int32) d_L_law_1971 rfl ?_
      refine r_goto (pc := 1972) 1976 d_L_law_1972 (by decide) ?_
      refine q_cI (f := (oW Sh)) (av := [.ref 102, .int (1 : Int32)]) (st := [.int q10.1]) (z_runV ck_X12_all rfl ml_L_222 ci_X12_all cv_X12_all (K_102 h0) (ci := 12) rfl rfl (Nat.le_of_ble_eq_true rfl) d_L_law_1976) (s_X12_all hst h0 (by omega)) kp_W (fun q15 _ => ?_)
      refine r_icmp_eq (f := (oW Sh)) (pc := 1979) 2076 d_L_law_1979 (by decide) (fun c16 => ?_) (fun c16 => ?_)
      · refine r_pick [0, 1, 2, 3, 4] (ls' := [(0, .ref 1006000), (1, .ref 0), (2, .ref 102), (3, .ref 206), (4, .int v4)]) rfl ?_
        exact hk Sh q15.2 h0
      · refine r_iconst (pc := 1982) (0 : Int32) d_L_law_1982 rfl ?_
        exact r_zret (pc := 1983) rfl (by decide) d_L_law_1983
def fc_35 (w : Nat → Int32) (nS : Nat) (k : zD → Option (Int32 × Nat × zD)) (v4 : Int32) (D : zD) : Option (Int32 × Nat × zD) := zck (v4 + (1 : Int32)) nS <| (if (w (v4 + (1 : Int32)).toNatClampNeg) = 0 then ((fn_X11_voyage (0 : Int32) D).bind fun q3 => zck (v4 + (1 : Int32)) nS <| (if (w (v4 + (1 : Int32)).toNatClampNeg) = 0 then ((fn_X12_voyage (0 : Int32) q3.2).bind fun q6 => (if q3.1 = q6.1 then ((k q6.2)) else ((some ((0 : Int32), 0, q6.2))))) else ((fn_X12_voyage (1 : Int32) q3.2).bind fun q8 => (if q3.1 = q8.1 then ((k q8.2)) else ((some ((0 : Int32), 0, q8.2))))))) else ((fn_X11_voyage (1 : Int32) D).bind fun q10 => zck (v4 + (1 : Int32)) nS <| (if (w (v4 + (1 : Int32)).toNatClampNeg) = 0 then ((fn_X12_voyage (0 : Int32) q10.2).bind fun q13 => (if q10.1 = q13.1 then ((k q13.2)) else ((some ((0 : Int32), 0, q13.2))))) else ((fn_X12_voyage (1 : Int32) q10.2).bind fun q15 => (if q10.1 = q15.1 then ((k q15.2)) else ((some ((0 : Int32), 0, q15.2))))))))
theorem lc_35 {X : zX} {d : Nat} {w : Nat → Int32} {nS : Nat} (hst : (zl X).stackTraces = false) (hs : zScr X nS w) (hd : 146 ≤ d) {k : zD → Option (Int32 × Nat × zD)} {v4 : Int32} (hk : ∀ (Sh : zSh) (D : zD), zSh0 Sh → Rn X m_L_law (d + 1) 2076 [(0, .ref 1006000), (1, .ref 0), (2, .ref 102), (3, .ref 206), (4, .int v4)] [] (Sh, D) (oW Sh (k D))) {Sh : zSh} (h0 : zSh0 Sh) {D : zD} : Rn X m_L_law (d + 1) 1984 [(0, .ref 1006000), (1, .ref 0), (2, .ref 102), (3, .ref 206), (4, .int v4)] [] (Sh, D) (oW Sh (fc_35 w nS k v4 D)) := by
  unfold fc_35
  refine r_aload_n (pc := 1984) 1 d_L_law_1984 rfl rfl ?_
  refine r_aload_n (pc := 1985) 0 d_L_law_1985 rfl rfl ?_
  refine r_iload (pc := 1986) 4 d_L_law_1986 rfl ?_
  refine r_iconst (pc := 1988) (1 : Int32) d_L_law_1988 rfl ?_
  refine r_iadd (pc := 1989) d_L_law_1989 ?_
  refine r_ck (f := (oW Sh)) rfl (fun hc1 => ?_)
  refine r_scr (pc := 1990) (j := (v4 + (1 : Int32)).toNatClampNeg) hs hc1 rfl d_L_law_1990 ?_
  refine r_if_eq (f := (oW Sh)) (pc := 1991) 1998 d_L_law_1991 (by decide) (fun c2 => ?_) (fun c2 => ?_)
  · refine r_iconst (pc := 1998) (0 : Int32) d_L_law_1998 rfl ?_
    refine q_cI (f := (oW Sh)) (av := [.ref 0, .int (0 : Int32)]) (st := []) (z_runV ck_X11_voyage rfl ml_L_223 ci_X11_voyage cv_X11_voyage (K_0 h0) (ci := 11) rfl rfl (Nat.le_of_ble_eq_true rfl) d_L_law_1999) (s_X11_voyage hst h0 (by omega)) kp_W (fun q3 _ => ?_)
    refine r_aload_n (pc := 2002) 2 d_L_law_2002 rfl rfl ?_
    refine r_aload_n (pc := 2003) 0 d_L_law_2003 rfl rfl ?_
    refine r_iload (pc := 2004) 4 d_L_law_2004 rfl ?_
    refine r_iconst (pc := 2006) (1 : Int32) d_L_law_2006 rfl ?_
    refine r_iadd (pc := 2007) d_L_law_2007 ?_
    refine r_ck (f := (oW Sh)) rfl (fun hc4 => ?_)
    refine r_scr (pc := 2008) (j := (v4 + (1 : Int32)).toNatClampNeg) hs hc4 rfl d_L_law_2008 ?_
    refine r_if_eq (f := (oW Sh)) (pc := 2009) 2016 d_L_law_2009 (by decide) (fun c5 => ?_) (fun c5 => ?_)
    · refine r_iconst (pc := 2016) (0 : Int32) d_L_law_2016 rfl ?_
      refine q_cI (f := (oW Sh)) (av := [.ref 102, .int (0 : Int32)]) (st := [.int q3.1]) (z_runV ck_X12_voyage rfl ml_L_226 ci_X12_voyage cv_X12_voyage (K_102 h0) (ci := 12) rfl rfl (Nat.le_of_ble_eq_true rfl) d_L_law_2017) (s_X12_voyage hst h0 (by omega)) kp_W (fun q6 _ => ?_)
      refine r_icmp_eq (f := (oW Sh)) (pc := 2020) 2076 d_L_law_2020 (by decide) (fun c7 => ?_) (fun c7 => ?_)
      · refine r_pick [0, 1, 2, 3, 4] (ls' := [(0, .ref 1006000), (1, .ref 0), (2, .ref 102), (3, .ref 206), (4, .int v4)]) rfl ?_
        exact hk Sh q6.2 h0
      · refine r_iconst (pc := 2023) (0 : Int32) d_L_law_2023 rfl ?_
        exact r_zret (pc := 2024) rfl (by decide) d_L_law_2024
    · refine r_iconst (pc := 2012) (1 : Int32) d_L_law_2012 rfl ?_
      refine r_goto (pc := 2013) 2017 d_L_law_2013 (by decide) ?_
      refine q_cI (f := (oW Sh)) (av := [.ref 102, .int (1 : Int32)]) (st := [.int q3.1]) (z_runV ck_X12_voyage rfl ml_L_226 ci_X12_voyage cv_X12_voyage (K_102 h0) (ci := 12) rfl rfl (Nat.le_of_ble_eq_true rfl) d_L_law_2017) (s_X12_voyage hst h0 (by omega)) kp_W (fun q8 _ => ?_)
      refine r_icmp_eq (f := (oW Sh)) (pc := 2020) 2076 d_L_law_2020 (by decide) (fun c9 => ?_) (fun c9 => ?_)
      · refine r_pick [0, 1, 2, 3, 4] (ls' := [(0, .ref 1006000), (1, .ref 0), (2, .ref 102), (3, .ref 206), (4, .int v4)]) rfl ?_
        exact hk Sh q8.2 h0
      · refine r_iconst (pc := 2023) (0 : Int32) d_L_law_2023 rfl ?_
        exact r_zret (pc := 2024) rfl (by decide) d_L_law_2024
  · refine r_iconst (pc := 1994) (1 : Int32) d_L_law_1994 rfl ?_
    refine r_goto (pc := 1995) 1999 d_L_law_1995 (by decide) ?_
    refine q_cI (f := (oW Sh)) (av := [.ref 0, .int (1 : Int32)]) (st := []) (z_runV ck_X11_voyage rfl ml_L_223 ci_X11_voyage cv_X11_voyage (K_0 h0) (ci := 11) rfl rfl (Nat.le_of_ble_eq_true rfl) d_L_law_1999) (s_X11_voyage hst h0 (by omega)) kp_W (fun q10 _ => ?_)
    refine r_aload_n (pc := 2002) 2 d_L_law_2002 rfl rfl ?_
    refine r_aload_n (pc := 2003) 0 d_L_law_2003 rfl rfl ?_
    refine r_iload (pc := 2004) 4 d_L_law_2004 rfl ?_
    refine r_iconst (pc := 2006) (1 : Int32) d_L_law_2006 rfl ?_
    refine r_iadd (pc := 2007) d_L_law_2007 ?_
    refine r_ck (f := (oW Sh)) rfl (fun hc11 => ?_)
    refine r_scr (pc := 2008) (j := (v4 + (1 : Int32)).toNatClampNeg) hs hc11 rfl d_L_law_2008 ?_
    refine r_if_eq (f := (oW Sh)) (pc := 2009) 2016 d_L_law_2009 (by decide) (fun c12 => ?_) (fun c12 => ?_)
    · refine r_iconst (pc := 2016) (0 : Int32) d_L_law_2016 rfl ?_
      refine q_cI (f := (oW Sh)) (av := [.ref 102, .int (0 : Int32)]) (st := [.int q10.1]) (z_runV ck_X12_voyage rfl ml_L_226 ci_X12_voyage cv_X12_voyage (K_102 h0) (ci := 12) rfl rfl (Nat.le_of_ble_eq_true rfl) d_L_law_2017) (s_X12_voyage hst h0 (by omega)) kp_W (fun q13 _ => ?_)
      refine r_icmp_eq (f := (oW Sh)) (pc := 2020) 2076 d_L_law_2020 (by decide) (fun c14 => ?_) (fun c14 => ?_)
      · refine r_pick [0, 1, 2, 3, 4] (ls' := [(0, .ref 1006000), (1, .ref 0), (2, .ref 102), (3, .ref 206), (4, .int v4)]) rfl ?_
        exact hk Sh q13.2 h0
      · refine r_iconst (pc := 2023) (0 : Int32) d_L_law_2023 rfl ?_
        exact r_zret (pc := 2024) rfl (by decide) d_L_law_2024
    · refine r_iconst (pc := 2012) (1 : Int32) d_L_law_2012 rfl ?_
      refine r_goto (pc := 2013) 2017 d_L_law_2013 (by decide) ?_
      refine q_cI (f := (oW Sh)) (av := [.ref 102, .int (1 : Int32)]) (st := [.int q10.1]) (z_runV ck_X12_voyage rfl ml_L_226 ci_X12_voyage cv_X12_voyage (K_102 h0) (ci := 12) rfl rfl (Nat.le_of_ble_eq_true rfl) d_L_law_2017) (s_X12_voyage hst h0 (by omega)) kp_W (fun q15 _ => ?_)
      refine r_icmp_eq (f := (oW Sh)) (pc := 2020) 2076 d_L_law_2020 (by decide) (fun c16 => ?_) (fun c16 => ?_)
      · refine r_pick [0, 1, 2, 3, 4] (ls' := [(0, .ref 1006000), (1, .ref 0), (2, .ref 102), (3, .ref 206), (4, .int v4)]) rfl ?_
        exact hk Sh q15.2 h0
      · refine r_iconst (pc := 2023) (0 : Int32) d_L_law_2023 rfl ?_
        exact r_zret (pc := 2024) rfl (by decide) d_L_law_2024
def fc_36 (w : Nat → Int32) (nS : Nat) (k : zD → Option (Int32 × Nat × zD)) (v4 : Int32) (D : zD) : Option (Int32 × Nat × zD) := (fn_X11_image D).bind fun q1 => (fn_X12_image q1.2).bind fun q2 => (if q1.1 = q2.1 then ((k q2.2)) else ((some ((0 : Int32), 0, q2.2))))
theorem lc_36 {X : zX} {d : Nat} {w : Nat → Int32} {nS : Nat} (hst : (zl X).stackTraces = false) (hs : zScr X nS w) (hd : 146 ≤ d) {k : zD → Option (Int32 × Nat × zD)} {v4 : Int32} (hk : ∀ (Sh : zSh) (D : zD), zSh0 Sh → Rn X m_L_law (d + 1) 2076 [(0, .ref 1006000), (1, .ref 0), (2, .ref 102), (3, .ref 206), (4, .int v4)] [] (Sh, D) (oW Sh (k D))) {Sh : zSh} (h0 : zSh0 Sh) {D : zD} : Rn X m_L_law (d + 1) 2025 [(0, .ref 1006000), (1, .ref 0), (2, .ref 102), (3, .ref 206), (4, .int v4)] [] (Sh, D) (oW Sh (fc_36 w nS k v4 D)) := by
  unfold fc_36
  refine r_aload_n (pc := 2025) 1 d_L_law_2025 rfl rfl ?_
  refine q_cI (f := (oW Sh)) (av := [.ref 0]) (st := []) (z_runV ck_X11_image rfl ml_L_227 ci_X11_image cv_X11_image (K_0 h0) (ci := 11) rfl rfl (Nat.le_of_ble_eq_true rfl) d_L_law_2026) (s_X11_image hst h0 (by omega)) kp_W (fun q1 _ => ?_)
  refine r_aload_n (pc := 2029) 2 d_L_law_2029 rfl rfl ?_
  refine q_cI (f := (oW Sh)) (av := [.ref 102]) (st := [.int q1.1]) (z_runV ck_X12_image rfl ml_L_230 ci_X12_image cv_X12_image (K_102 h0) (ci := 12) rfl rfl (Nat.le_of_ble_eq_true rfl) d_L_law_2030) (s_X12_image hst h0 (by omega)) kp_W (fun q2 _ => ?_)
  refine r_icmp_eq (f := (oW Sh)) (pc := 2033) 2076 d_L_law_2033 (by decide) (fun c3 => ?_) (fun c3 => ?_)
  · refine r_pick [0, 1, 2, 3, 4] (ls' := [(0, .ref 1006000), (1, .ref 0), (2, .ref 102), (3, .ref 206), (4, .int v4)]) rfl ?_
    exact hk Sh q2.2 h0
  · refine r_iconst (pc := 2036) (0 : Int32) d_L_law_2036 rfl ?_
    exact r_zret (pc := 2037) rfl (by decide) d_L_law_2037
def fc_37 (w : Nat → Int32) (nS : Nat) (k : zD → Option (Int32 × Nat × zD)) (v4 : Int32) (D : zD) : Option (Int32 × Nat × zD) := (fn_X11_restore D).bind fun q1 => (fn_X12_restore q1.2).bind fun q2 => (if q1.1 = q2.1 then ((k q2.2)) else ((some ((0 : Int32), 0, q2.2))))
theorem lc_37 {X : zX} {d : Nat} {w : Nat → Int32} {nS : Nat} (hst : (zl X).stackTraces = false) (hs : zScr X nS w) (hd : 146 ≤ d) {k : zD → Option (Int32 × Nat × zD)} {v4 : Int32} (hk : ∀ (Sh : zSh) (D : zD), zSh0 Sh → Rn X m_L_law (d + 1) 2076 [(0, .ref 1006000), (1, .ref 0), (2, .ref 102), (3, .ref 206), (4, .int v4)] [] (Sh, D) (oW Sh (k D))) {Sh : zSh} (h0 : zSh0 Sh) {D : zD} : Rn X m_L_law (d + 1) 2038 [(0, .ref 1006000), (1, .ref 0), (2, .ref 102), (3, .ref 206), (4, .int v4)] [] (Sh, D) (oW Sh (fc_37 w nS k v4 D)) := by
  unfold fc_37
  refine r_aload_n (pc := 2038) 1 d_L_law_2038 rfl rfl ?_
  refine q_cI (f := (oW Sh)) (av := [.ref 0]) (st := []) (z_runV ck_X11_restore rfl ml_L_231 ci_X11_restore cv_X11_restore (K_0 h0) (ci := 11) rfl rfl (Nat.le_of_ble_eq_true rfl) d_L_law_2039) (s_X11_restore hst h0 (by omega)) kp_W (fun q1 _ => ?_)
  refine r_aload_n (pc := 2042) 2 d_L_law_2042 rfl rfl ?_
  refine q_cI (f := (oW Sh)) (av := [.ref 102]) (st := [.int q1.1]) (z_runV ck_X12_restore rfl ml_L_234 ci_X12_restore cv_X12_restore (K_102 h0) (ci := 12) rfl rfl (Nat.le_of_ble_eq_true rfl) d_L_law_2043) (s_X12_restore hst h0 (by omega)) kp_W (fun q2 _ => ?_)
  refine r_icmp_eq (f := (oW Sh)) (pc := 2046) 2076 d_L_law_2046 (by decide) (fun c3 => ?_) (fun c3 => ?_)
  · refine r_pick [0, 1, 2, 3, 4] (ls' := [(0, .ref 1006000), (1, .ref 0), (2, .ref 102), (3, .ref 206), (4, .int v4)]) rfl ?_
    exact hk Sh q2.2 h0
  · refine r_iconst (pc := 2049) (0 : Int32) d_L_law_2049 rfl ?_
    exact r_zret (pc := 2050) rfl (by decide) d_L_law_2050
def fc_38 (w : Nat → Int32) (nS : Nat) (k : zD → Option (Int32 × Nat × zD)) (v4 : Int32) (D : zD) : Option (Int32 × Nat × zD) := zck (v4 + (1 : Int32)) nS <| (fn_X11_count (w (v4 + (1 : Int32)).toNatClampNeg) D).bind fun x2 => zck (v4 + (1 : Int32)) nS <| (fn_X12_count (w (v4 + (1 : Int32)).toNatClampNeg) D).bind fun q4 => (if x2 = q4.1 then ((k q4.2)) else ((some ((0 : Int32), 0, q4.2))))
theorem lc_38 {X : zX} {d : Nat} {w : Nat → Int32} {nS : Nat} (hst : (zl X).stackTraces = false) (hs : zScr X nS w) (hd : 146 ≤ d) {k : zD → Option (Int32 × Nat × zD)} {v4 : Int32} (hk : ∀ (Sh : zSh) (D : zD), zSh0 Sh → Rn X m_L_law (d + 1) 2076 [(0, .ref 1006000), (1, .ref 0), (2, .ref 102), (3, .ref 206), (4, .int v4)] [] (Sh, D) (oW Sh (k D))) {Sh : zSh} (h0 : zSh0 Sh) {D : zD} : Rn X m_L_law (d + 1) 2051 [(0, .ref 1006000), (1, .ref 0), (2, .ref 102), (3, .ref 206), (4, .int v4)] [] (Sh, D) (oW Sh (fc_38 w nS k v4 D)) := by
  unfold fc_38
  refine r_aload_n (pc := 2051) 1 d_L_law_2051 rfl rfl ?_
  refine r_aload_n (pc := 2052) 0 d_L_law_2052 rfl rfl ?_
  refine r_iload (pc := 2053) 4 d_L_law_2053 rfl ?_
  refine r_iconst (pc := 2055) (1 : Int32) d_L_law_2055 rfl ?_
  refine r_iadd (pc := 2056) d_L_law_2056 ?_
  refine r_ck (f := (oW Sh)) rfl (fun hc1 => ?_)
  refine r_scr (pc := 2057) (j := (v4 + (1 : Int32)).toNatClampNeg) hs hc1 rfl d_L_law_2057 ?_
  refine q_cP (f := (oW Sh)) (av := [.ref 0, .int (w (v4 + (1 : Int32)).toNatClampNeg)]) (st := []) (z_runV ck_X11_count rfl ml_L_235 ci_X11_count cv_X11_count (K_0 h0) (ci := 11) rfl rfl (Nat.le_of_ble_eq_true rfl) d_L_law_2058) (s_X11_count hst h0 (by omega)) kp_W (fun x2 _ => ?_)
  refine r_aload_n (pc := 2061) 2 d_L_law_2061 rfl rfl ?_
  refine r_aload_n (pc := 2062) 0 d_L_law_2062 rfl rfl ?_
  refine r_iload (pc := 2063) 4 d_L_law_2063 rfl ?_
  refine r_iconst (pc := 2065) (1 : Int32) d_L_law_2065 rfl ?_
  refine r_iadd (pc := 2066) d_L_law_2066 ?_
  refine r_ck (f := (oW Sh)) rfl (fun hc3 => ?_)
  refine r_scr (pc := 2067) (j := (v4 + (1 : Int32)).toNatClampNeg) hs hc3 rfl d_L_law_2067 ?_
  refine q_cI (f := (oW Sh)) (av := [.ref 102, .int (w (v4 + (1 : Int32)).toNatClampNeg)]) (st := [.int x2]) (z_runV ck_X12_count rfl ml_L_238 ci_X12_count cv_X12_count (K_102 h0) (ci := 12) rfl rfl (Nat.le_of_ble_eq_true rfl) d_L_law_2068) (s_X12_count hst h0 (by omega)) kp_W (fun q4 _ => ?_)
  refine r_icmp_eq (f := (oW Sh)) (pc := 2071) 2076 d_L_law_2071 (by decide) (fun c5 => ?_) (fun c5 => ?_)
  · refine r_pick [0, 1, 2, 3, 4] (ls' := [(0, .ref 1006000), (1, .ref 0), (2, .ref 102), (3, .ref 206), (4, .int v4)]) rfl ?_
    exact hk Sh q4.2 h0
  · refine r_iconst (pc := 2074) (0 : Int32) d_L_law_2074 rfl ?_
    exact r_zret (pc := 2075) rfl (by decide) d_L_law_2075
def fl_call (w : Nat → Int32) (nS : Nat) (k : zD → Option (Int32 × Nat × zD)) (v4 : Int32) (D : zD) (c : Int32) : Option (Int32 × Nat × zD) := if c = 0 then fc_0 w nS k v4 D else if c = 1 then fc_1 w nS k v4 D else if c = 2 then fc_2 w nS k v4 D else if c = 3 then fc_3 w nS k v4 D else if c = 4 then fc_4 w nS k v4 D else if c = 5 then fc_5 w nS k v4 D else if c = 6 then fc_6 w nS k v4 D else if c = 7 then fc_7 w nS k v4 D else if c = 8 then fc_8 w nS k v4 D else if c = 9 then fc_9 w nS k v4 D else if c = 10 then fc_10 w nS k v4 D else if c = 11 then fc_11 w nS k v4 D else if c = 12 then fc_12 w nS k v4 D else if c = 13 then fc_13 w nS k v4 D else if c = 14 then fc_14 w nS k v4 D else if c = 15 then fc_15 w nS k v4 D else if c = 16 then fc_16 w nS k v4 D else if c = 17 then fc_17 w nS k v4 D else if c = 18 then fc_18 w nS k v4 D else if c = 19 then fc_19 w nS k v4 D else if c = 20 then fc_20 w nS k v4 D else if c = 21 then fc_21 w nS k v4 D else if c = 22 then fc_22 w nS k v4 D else if c = 23 then fc_23 w nS k v4 D else if c = 24 then fc_24 w nS k v4 D else if c = 25 then fc_25 w nS k v4 D else if c = 26 then fc_26 w nS k v4 D else if c = 27 then fc_27 w nS k v4 D else if c = 28 then fc_28 w nS k v4 D else if c = 29 then fc_29 w nS k v4 D else if c = 30 then fc_30 w nS k v4 D else if c = 31 then fc_31 w nS k v4 D else if c = 32 then fc_32 w nS k v4 D else if c = 33 then fc_33 w nS k v4 D else if c = 34 then fc_34 w nS k v4 D else if c = 35 then fc_35 w nS k v4 D else if c = 36 then fc_36 w nS k v4 D else if c = 37 then fc_37 w nS k v4 D else if c = 38 then fc_38 w nS k v4 D else k D
def fl_loop (w : Nat → Int32) (nS : Nat) : Nat → Int32 → zD → Option (Int32 × Nat × zD)
  | 0, _, _ => none
  | n + 1, v4, D => if Int32.ofNat nS - 6 < v4 then some (1, 0, D) else zck v4 nS <| zlet (w v4.toNatClampNeg &&& 63) fun c => fl_call w nS (fun D => fl_loop w nS n (v4 + 6) D) v4 D c
theorem ll_loop {X : zX} {d : Nat} {w : Nat → Int32} {nS : Nat} (hst : (zl X).stackTraces = false) (hs : zScr X nS w) (hd : 146 ≤ d) : ∀ (n : Nat) (Sh : zSh) (h0 : zSh0 Sh) (v4 : Int32) (D : zD), Rn X m_L_law (d + 1) 23 [(0, .ref 1006000), (1, .ref 0), (2, .ref 102), (3, .ref 206), (4, .int v4)] [] (Sh, D) (oW Sh (fl_loop w nS n v4 D)) := by
  intro n
  induction n with
  | zero => intro Sh h0 v4 D; exact Rn_none rfl
  | succ n ih =>
    intro Sh h0 v4 D
    rw [fl_loop]
    have hk : ∀ (Sh : zSh) (D : zD), zSh0 Sh → Rn X m_L_law (d + 1) 2076 [(0, .ref 1006000), (1, .ref 0), (2, .ref 102), (3, .ref 206), (4, .int v4)] [] (Sh, D) (oW Sh ((fun D => fl_loop w nS n (v4 + 6) D) D)) := by
      intro Sh D h0
      refine r_iinc (v4 + (6 : Int32)) 4 (ls' := [(4, .int (v4 + (6 : Int32))), (0, .ref 1006000), (1, .ref 0), (2, .ref 102), (3, .ref 206)]) d_L_law_2076 rfl rfl (Nat.le_of_ble_eq_true rfl) rfl ?_
      refine r_goto 23 d_L_law_2079 (by decide) ?_
      refine r_pick [1, 2, 3, 4, 0] (ls' := [(0, .ref 1006000), (1, .ref 0), (2, .ref 102), (3, .ref 206), (4, .int (v4 + (6 : Int32)))]) rfl ?_
      exact ih Sh h0 (v4 + 6) D
    generalize (fun D => fl_loop w nS n (v4 + 6) D) = k at hk
    refine r_iload 4 d_L_law_23 rfl ?_
    refine r_aload_n 0 d_L_law_25 rfl rfl ?_
    refine r_sclen hs d_L_law_26 ?_
    refine r_bipush (6 : Int32) d_L_law_27 rfl ?_
    refine r_isub d_L_law_29 ?_
    refine r_icmp_gt (f := oW Sh) 2082 d_L_law_30 (by decide) (fun c => ?_) (fun c => ?_)
    · refine r_iconst (1 : Int32) d_L_law_2082 rfl ?_
      exact r_zret rfl (by decide) d_L_law_2083
    · refine r_aload_n 0 d_L_law_33 rfl rfl ?_
      refine r_iload 4 d_L_law_34 rfl ?_
      refine r_ck (f := oW Sh) rfl (fun hc => ?_)
      refine r_scr (j := v4.toNatClampNeg) hs hc rfl d_L_law_36 ?_
      refine r_bipush (63 : Int32) d_L_law_37 rfl ?_
      refine r_iand d_L_law_39 ?_
      refine r_leti (f := oW Sh) (fun x => ?_)
      unfold fl_call
      refine r_tsw d_L_law_40 rfl (fun i off tgt ho hx ht => ?_) (by decide) (fun hx tgt ht => ?_) (by decide)
      · match i, ho with
        | 0, ho =>
          obtain rfl : (172 : Int) = off := Option.some.inj ho
          obtain rfl : 212 = tgt := Int.ofNat.inj ht
          obtain rfl : x = (0 : Int32) := z_ieq hx
          rw [if_pos rfl]
          exact lc_0 hst hs hd hk h0
        | 1, ho =>
          obtain rfl : (245 : Int) = off := Option.some.inj ho
          obtain rfl : 285 = tgt := Int.ofNat.inj ht
          obtain rfl : x = (1 : Int32) := z_ieq hx
          rw [if_neg (by decide)]
          rw [if_pos rfl]
          exact lc_1 hst hs hd hk h0
        | 2, ho =>
          obtain rfl : (301 : Int) = off := Option.some.inj ho
          obtain rfl : 341 = tgt := Int.ofNat.inj ht
          obtain rfl : x = (2 : Int32) := z_ieq hx
          rw [if_neg (by decide)]
          rw [if_neg (by decide)]
          rw [if_pos rfl]
          exact lc_2 hst hs hd hk h0
        | 3, ho =>
          obtain rfl : (357 : Int) = off := Option.some.inj ho
          obtain rfl : 397 = tgt := Int.ofNat.inj ht
          obtain rfl : x = (3 : Int32) := z_ieq hx
          rw [if_neg (by decide)]
          rw [if_neg (by decide)]
          rw [if_neg (by decide)]
          rw [if_pos rfl]
          exact lc_3 hst hs hd hk h0
        | 4, ho =>
          obtain rfl : (370 : Int) = off := Option.some.inj ho
          obtain rfl : 410 = tgt := Int.ofNat.inj ht
          obtain rfl : x = (4 : Int32) := z_ieq hx
          rw [if_neg (by decide)]
          rw [if_neg (by decide)]
          rw [if_neg (by decide)]
          rw [if_neg (by decide)]
          rw [if_pos rfl]
          exact lc_4 hst hs hd hk h0
        | 5, ho =>
          obtain rfl : (426 : Int) = off := Option.some.inj ho
          obtain rfl : 466 = tgt := Int.ofNat.inj ht
          obtain rfl : x = (5 : Int32) := z_ieq hx
          rw [if_neg (by decide)]
          rw [if_neg (by decide)]
          rw [if_neg (by decide)]
          rw [if_neg (by decide)]
          rw [if_neg (by decide)]
          rw [if_pos rfl]
          exact lc_5 hst hs hd hk h0
        | 6, ho =>
          obtain rfl : (482 : Int) = off := Option.some.inj ho
          obtain rfl : 522 = tgt := Int.ofNat.inj ht
          obtain rfl : x = (6 : Int32) := z_ieq hx
          rw [if_neg (by decide)]
          rw [if_neg (by decide)]
          rw [if_neg (by decide)]
          rw [if_neg (by decide)]
          rw [if_neg (by decide)]
          rw [if_neg (by decide)]
          rw [if_pos rfl]
          exact lc_6 hst hs hd hk h0
        | 7, ho =>
          obtain rfl : (538 : Int) = off := Option.some.inj ho
          obtain rfl : 578 = tgt := Int.ofNat.inj ht
          obtain rfl : x = (7 : Int32) := z_ieq hx
          rw [if_neg (by decide)]
          rw [if_neg (by decide)]
          rw [if_neg (by decide)]
          rw [if_neg (by decide)]
          rw [if_neg (by decide)]
          rw [if_neg (by decide)]
          rw [if_neg (by decide)]
          rw [if_pos rfl]
          exact lc_7 hst hs hd hk h0
        | 8, ho =>
          obtain rfl : (606 : Int) = off := Option.some.inj ho
          obtain rfl : 646 = tgt := Int.ofNat.inj ht
          obtain rfl : x = (8 : Int32) := z_ieq hx
          rw [if_neg (by decide)]
          rw [if_neg (by decide)]
          rw [if_neg (by decide)]
          rw [if_neg (by decide)]
          rw [if_neg (by decide)]
          rw [if_neg (by decide)]
          rw [if_neg (by decide)]
          rw [if_neg (by decide)]
          rw [if_pos rfl]
          exact lc_8 hst hs hd hk h0
        | 9, ho =>
          obtain rfl : (662 : Int) = off := Option.some.inj ho
          obtain rfl : 702 = tgt := Int.ofNat.inj ht
          obtain rfl : x = (9 : Int32) := z_ieq hx
          rw [if_neg (by decide)]
          rw [if_neg (by decide)]
          rw [if_neg (by decide)]
          rw [if_neg (by decide)]
          rw [if_neg (by decide)]
          rw [if_neg (by decide)]
          rw [if_neg (by decide)]
          rw [if_neg (by decide)]
          rw [if_neg (by decide)]
          rw [if_pos rfl]
          exact lc_9 hst hs hd hk h0
        | 10, ho =>
          obtain rfl : (718 : Int) = off := Option.some.inj ho
          obtain rfl : 758 = tgt := Int.ofNat.inj ht
          obtain rfl : x = (10 : Int32) := z_ieq hx
          rw [if_neg (by decide)]
          rw [if_neg (by decide)]
          rw [if_neg (by decide)]
          rw [if_neg (by decide)]
          rw [if_neg (by decide)]
          rw [if_neg (by decide)]
          rw [if_neg (by decide)]
          rw [if_neg (by decide)]
          rw [if_neg (by decide)]
          rw [if_neg (by decide)]
          rw [if_pos rfl]
          exact lc_10 hst hs hd hk h0
        | 11, ho =>
          obtain rfl : (786 : Int) = off := Option.some.inj ho
          obtain rfl : 826 = tgt := Int.ofNat.inj ht
          obtain rfl : x = (11 : Int32) := z_ieq hx
          rw [if_neg (by decide)]
          rw [if_neg (by decide)]
          rw [if_neg (by decide)]
          rw [if_neg (by decide)]
          rw [if_neg (by decide)]
          rw [if_neg (by decide)]
          rw [if_neg (by decide)]
          rw [if_neg (by decide)]
          rw [if_neg (by decide)]
          rw [if_neg (by decide)]
          rw [if_neg (by decide)]
          rw [if_pos rfl]
          exact lc_11 hst hs hd hk h0
        | 12, ho =>
          obtain rfl : (799 : Int) = off := Option.some.inj ho
          obtain rfl : 839 = tgt := Int.ofNat.inj ht
          obtain rfl : x = (12 : Int32) := z_ieq hx
          rw [if_neg (by decide)]
          rw [if_neg (by decide)]
          rw [if_neg (by decide)]
          rw [if_neg (by decide)]
          rw [if_neg (by decide)]
          rw [if_neg (by decide)]
          rw [if_neg (by decide)]
          rw [if_neg (by decide)]
          rw [if_neg (by decide)]
          rw [if_neg (by decide)]
          rw [if_neg (by decide)]
          rw [if_neg (by decide)]
          rw [if_pos rfl]
          exact lc_12 hst hs hd hk h0
        | 13, ho =>
          obtain rfl : (855 : Int) = off := Option.some.inj ho
          obtain rfl : 895 = tgt := Int.ofNat.inj ht
          obtain rfl : x = (13 : Int32) := z_ieq hx
          rw [if_neg (by decide)]
          rw [if_neg (by decide)]
          rw [if_neg (by decide)]
          rw [if_neg (by decide)]
          rw [if_neg (by decide)]
          rw [if_neg (by decide)]
          rw [if_neg (by decide)]
          rw [if_neg (by decide)]
          rw [if_neg (by decide)]
          rw [if_neg (by decide)]
          rw [if_neg (by decide)]
          rw [if_neg (by decide)]
          rw [if_neg (by decide)]
          rw [if_pos rfl]
          exact lc_13 hst hs hd hk h0
        | 14, ho =>
          obtain rfl : (923 : Int) = off := Option.some.inj ho
          obtain rfl : 963 = tgt := Int.ofNat.inj ht
          obtain rfl : x = (14 : Int32) := z_ieq hx
          rw [if_neg (by decide)]
          rw [if_neg (by decide)]
          rw [if_neg (by decide)]
          rw [if_neg (by decide)]
          rw [if_neg (by decide)]
          rw [if_neg (by decide)]
          rw [if_neg (by decide)]
          rw [if_neg (by decide)]
          rw [if_neg (by decide)]
          rw [if_neg (by decide)]
          rw [if_neg (by decide)]
          rw [if_neg (by decide)]
          rw [if_neg (by decide)]
          rw [if_neg (by decide)]
          rw [if_pos rfl]
          exact lc_14 hst hs hd hk h0
        | 15, ho =>
          obtain rfl : (991 : Int) = off := Option.some.inj ho
          obtain rfl : 1031 = tgt := Int.ofNat.inj ht
          obtain rfl : x = (15 : Int32) := z_ieq hx
          rw [if_neg (by decide)]
          rw [if_neg (by decide)]
          rw [if_neg (by decide)]
          rw [if_neg (by decide)]
          rw [if_neg (by decide)]
          rw [if_neg (by decide)]
          rw [if_neg (by decide)]
          rw [if_neg (by decide)]
          rw [if_neg (by decide)]
          rw [if_neg (by decide)]
          rw [if_neg (by decide)]
          rw [if_neg (by decide)]
          rw [if_neg (by decide)]
          rw [if_neg (by decide)]
          rw [if_neg (by decide)]
          rw [if_pos rfl]
          exact lc_15 hst hs hd hk h0
        | 16, ho =>
          obtain rfl : (1059 : Int) = off := Option.some.inj ho
          obtain rfl : 1099 = tgt := Int.ofNat.inj ht
          obtain rfl : x = (16 : Int32) := z_ieq hx
          rw [if_neg (by decide)]
          rw [if_neg (by decide)]
          rw [if_neg (by decide)]
          rw [if_neg (by decide)]
          rw [if_neg (by decide)]
          rw [if_neg (by decide)]
          rw [if_neg (by decide)]
          rw [if_neg (by decide)]
          rw [if_neg (by decide)]
          rw [if_neg (by decide)]
          rw [if_neg (by decide)]
          rw [if_neg (by decide)]
          rw [if_neg (by decide)]
          rw [if_neg (by decide)]
          rw [if_neg (by decide)]
          rw [if_neg (by decide)]
          rw [if_pos rfl]
          exact lc_16 hst hs hd hk h0
        | 17, ho =>
          obtain rfl : (1127 : Int) = off := Option.some.inj ho
          obtain rfl : 1167 = tgt := Int.ofNat.inj ht
          obtain rfl : x = (17 : Int32) := z_ieq hx
          rw [if_neg (by decide)]
          rw [if_neg (by decide)]
          rw [if_neg (by decide)]
          rw [if_neg (by decide)]
          rw [if_neg (by decide)]
          rw [if_neg (by decide)]
          rw [if_neg (by decide)]
          rw [if_neg (by decide)]
          rw [if_neg (by decide)]
          rw [if_neg (by decide)]
          rw [if_neg (by decide)]
          rw [if_neg (by decide)]
          rw [if_neg (by decide)]
          rw [if_neg (by decide)]
          rw [if_neg (by decide)]
          rw [if_neg (by decide)]
          rw [if_neg (by decide)]
          rw [if_pos rfl]
          exact lc_17 hst hs hd hk h0
        | 18, ho =>
          obtain rfl : (1140 : Int) = off := Option.some.inj ho
          obtain rfl : 1180 = tgt := Int.ofNat.inj ht
          obtain rfl : x = (18 : Int32) := z_ieq hx
          rw [if_neg (by decide)]
          rw [if_neg (by decide)]
          rw [if_neg (by decide)]
          rw [if_neg (by decide)]
          rw [if_neg (by decide)]
          rw [if_neg (by decide)]
          rw [if_neg (by decide)]
          rw [if_neg (by decide)]
          rw [if_neg (by decide)]
          rw [if_neg (by decide)]
          rw [if_neg (by decide)]
          rw [if_neg (by decide)]
          rw [if_neg (by decide)]
          rw [if_neg (by decide)]
          rw [if_neg (by decide)]
          rw [if_neg (by decide)]
          rw [if_neg (by decide)]
          rw [if_neg (by decide)]
          rw [if_pos rfl]
          exact lc_18 hst hs hd hk h0
        | 19, ho =>
          obtain rfl : (1153 : Int) = off := Option.some.inj ho
          obtain rfl : 1193 = tgt := Int.ofNat.inj ht
          obtain rfl : x = (19 : Int32) := z_ieq hx
          rw [if_neg (by decide)]
          rw [if_neg (by decide)]
          rw [if_neg (by decide)]
          rw [if_neg (by decide)]
          rw [if_neg (by decide)]
          rw [if_neg (by decide)]
          rw [if_neg (by decide)]
          rw [if_neg (by decide)]
          rw [if_neg (by decide)]
          rw [if_neg (by decide)]
          rw [if_neg (by decide)]
          rw [if_neg (by decide)]
          rw [if_neg (by decide)]
          rw [if_neg (by decide)]
          rw [if_neg (by decide)]
          rw [if_neg (by decide)]
          rw [if_neg (by decide)]
          rw [if_neg (by decide)]
          rw [if_neg (by decide)]
          rw [if_pos rfl]
          exact lc_19 hst hs hd hk h0
        | 20, ho =>
          obtain rfl : (1178 : Int) = off := Option.some.inj ho
          obtain rfl : 1218 = tgt := Int.ofNat.inj ht
          obtain rfl : x = (20 : Int32) := z_ieq hx
          rw [if_neg (by decide)]
          rw [if_neg (by decide)]
          rw [if_neg (by decide)]
          rw [if_neg (by decide)]
          rw [if_neg (by decide)]
          rw [if_neg (by decide)]
          rw [if_neg (by decide)]
          rw [if_neg (by decide)]
          rw [if_neg (by decide)]
          rw [if_neg (by decide)]
          rw [if_neg (by decide)]
          rw [if_neg (by decide)]
          rw [if_neg (by decide)]
          rw [if_neg (by decide)]
          rw [if_neg (by decide)]
          rw [if_neg (by decide)]
          rw [if_neg (by decide)]
          rw [if_neg (by decide)]
          rw [if_neg (by decide)]
          rw [if_neg (by decide)]
          rw [if_pos rfl]
          exact lc_20 hst hs hd hk h0
        | 21, ho =>
          obtain rfl : (1246 : Int) = off := Option.some.inj ho
          obtain rfl : 1286 = tgt := Int.ofNat.inj ht
          obtain rfl : x = (21 : Int32) := z_ieq hx
          rw [if_neg (by decide)]
          rw [if_neg (by decide)]
          rw [if_neg (by decide)]
          rw [if_neg (by decide)]
          rw [if_neg (by decide)]
          rw [if_neg (by decide)]
          rw [if_neg (by decide)]
          rw [if_neg (by decide)]
          rw [if_neg (by decide)]
          rw [if_neg (by decide)]
          rw [if_neg (by decide)]
          rw [if_neg (by decide)]
          rw [if_neg (by decide)]
          rw [if_neg (by decide)]
          rw [if_neg (by decide)]
          rw [if_neg (by decide)]
          rw [if_neg (by decide)]
          rw [if_neg (by decide)]
          rw [if_neg (by decide)]
          rw [if_neg (by decide)]
          rw [if_neg (by decide)]
          rw [if_pos rfl]
          exact lc_21 hst hs hd hk h0
        | 22, ho =>
          obtain rfl : (1302 : Int) = off := Option.some.inj ho
          obtain rfl : 1342 = tgt := Int.ofNat.inj ht
          obtain rfl : x = (22 : Int32) := z_ieq hx
          rw [if_neg (by decide)]
          rw [if_neg (by decide)]
          rw [if_neg (by decide)]
          rw [if_neg (by decide)]
          rw [if_neg (by decide)]
          rw [if_neg (by decide)]
          rw [if_neg (by decide)]
          rw [if_neg (by decide)]
          rw [if_neg (by decide)]
          rw [if_neg (by decide)]
          rw [if_neg (by decide)]
          rw [if_neg (by decide)]
          rw [if_neg (by decide)]
          rw [if_neg (by decide)]
          rw [if_neg (by decide)]
          rw [if_neg (by decide)]
          rw [if_neg (by decide)]
          rw [if_neg (by decide)]
          rw [if_neg (by decide)]
          rw [if_neg (by decide)]
          rw [if_neg (by decide)]
          rw [if_neg (by decide)]
          rw [if_pos rfl]
          exact lc_22 hst hs hd hk h0
        | 23, ho =>
          obtain rfl : (1370 : Int) = off := Option.some.inj ho
          obtain rfl : 1410 = tgt := Int.ofNat.inj ht
          obtain rfl : x = (23 : Int32) := z_ieq hx
          rw [if_neg (by decide)]
          rw [if_neg (by decide)]
          rw [if_neg (by decide)]
          rw [if_neg (by decide)]
          rw [if_neg (by decide)]
          rw [if_neg (by decide)]
          rw [if_neg (by decide)]
          rw [if_neg (by decide)]
          rw [if_neg (by decide)]
          rw [if_neg (by decide)]
          rw [if_neg (by decide)]
          rw [if_neg (by decide)]
          rw [if_neg (by decide)]
          rw [if_neg (by decide)]
          rw [if_neg (by decide)]
          rw [if_neg (by decide)]
          rw [if_neg (by decide)]
          rw [if_neg (by decide)]
          rw [if_neg (by decide)]
          rw [if_neg (by decide)]
          rw [if_neg (by decide)]
          rw [if_neg (by decide)]
          rw [if_neg (by decide)]
          rw [if_pos rfl]
          exact lc_23 hst hs hd hk h0
        | 24, ho =>
          obtain rfl : (1383 : Int) = off := Option.some.inj ho
          obtain rfl : 1423 = tgt := Int.ofNat.inj ht
          obtain rfl : x = (24 : Int32) := z_ieq hx
          rw [if_neg (by decide)]
          rw [if_neg (by decide)]
          rw [if_neg (by decide)]
          rw [if_neg (by decide)]
          rw [if_neg (by decide)]
          rw [if_neg (by decide)]
          rw [if_neg (by decide)]
          rw [if_neg (by decide)]
          rw [if_neg (by decide)]
          rw [if_neg (by decide)]
          rw [if_neg (by decide)]
          rw [if_neg (by decide)]
          rw [if_neg (by decide)]
          rw [if_neg (by decide)]
          rw [if_neg (by decide)]
          rw [if_neg (by decide)]
          rw [if_neg (by decide)]
          rw [if_neg (by decide)]
          rw [if_neg (by decide)]
          rw [if_neg (by decide)]
          rw [if_neg (by decide)]
          rw [if_neg (by decide)]
          rw [if_neg (by decide)]
          rw [if_neg (by decide)]
          rw [if_pos rfl]
          exact lc_24 hst hs hd hk h0
        | 25, ho =>
          obtain rfl : (1439 : Int) = off := Option.some.inj ho
          obtain rfl : 1479 = tgt := Int.ofNat.inj ht
          obtain rfl : x = (25 : Int32) := z_ieq hx
          rw [if_neg (by decide)]
          rw [if_neg (by decide)]
          rw [if_neg (by decide)]
          rw [if_neg (by decide)]
          rw [if_neg (by decide)]
          rw [if_neg (by decide)]
          rw [if_neg (by decide)]
          rw [if_neg (by decide)]
          rw [if_neg (by decide)]
          rw [if_neg (by decide)]
          rw [if_neg (by decide)]
          rw [if_neg (by decide)]
          rw [if_neg (by decide)]
          rw [if_neg (by decide)]
          rw [if_neg (by decide)]
          rw [if_neg (by decide)]
          rw [if_neg (by decide)]
          rw [if_neg (by decide)]
          rw [if_neg (by decide)]
          rw [if_neg (by decide)]
          rw [if_neg (by decide)]
          rw [if_neg (by decide)]
          rw [if_neg (by decide)]
          rw [if_neg (by decide)]
          rw [if_neg (by decide)]
          rw [if_pos rfl]
          exact lc_25 hst hs hd hk h0
        | 26, ho =>
          obtain rfl : (1452 : Int) = off := Option.some.inj ho
          obtain rfl : 1492 = tgt := Int.ofNat.inj ht
          obtain rfl : x = (26 : Int32) := z_ieq hx
          rw [if_neg (by decide)]
          rw [if_neg (by decide)]
          rw [if_neg (by decide)]
          rw [if_neg (by decide)]
          rw [if_neg (by decide)]
          rw [if_neg (by decide)]
          rw [if_neg (by decide)]
          rw [if_neg (by decide)]
          rw [if_neg (by decide)]
          rw [if_neg (by decide)]
          rw [if_neg (by decide)]
          rw [if_neg (by decide)]
          rw [if_neg (by decide)]
          rw [if_neg (by decide)]
          rw [if_neg (by decide)]
          rw [if_neg (by decide)]
          rw [if_neg (by decide)]
          rw [if_neg (by decide)]
          rw [if_neg (by decide)]
          rw [if_neg (by decide)]
          rw [if_neg (by decide)]
          rw [if_neg (by decide)]
          rw [if_neg (by decide)]
          rw [if_neg (by decide)]
          rw [if_neg (by decide)]
          rw [if_neg (by decide)]
          rw [if_pos rfl]
          exact lc_26 hst hs hd hk h0
        | 27, ho =>
          obtain rfl : (1508 : Int) = off := Option.some.inj ho
          obtain rfl : 1548 = tgt := Int.ofNat.inj ht
          obtain rfl : x = (27 : Int32) := z_ieq hx
          rw [if_neg (by decide)]
          rw [if_neg (by decide)]
          rw [if_neg (by decide)]
          rw [if_neg (by decide)]
          rw [if_neg (by decide)]
          rw [if_neg (by decide)]
          rw [if_neg (by decide)]
          rw [if_neg (by decide)]
          rw [if_neg (by decide)]
          rw [if_neg (by decide)]
          rw [if_neg (by decide)]
          rw [if_neg (by decide)]
          rw [if_neg (by decide)]
          rw [if_neg (by decide)]
          rw [if_neg (by decide)]
          rw [if_neg (by decide)]
          rw [if_neg (by decide)]
          rw [if_neg (by decide)]
          rw [if_neg (by decide)]
          rw [if_neg (by decide)]
          rw [if_neg (by decide)]
          rw [if_neg (by decide)]
          rw [if_neg (by decide)]
          rw [if_neg (by decide)]
          rw [if_neg (by decide)]
          rw [if_neg (by decide)]
          rw [if_neg (by decide)]
          rw [if_pos rfl]
          exact lc_27 hst hs hd hk h0
        | 28, ho =>
          obtain rfl : (1521 : Int) = off := Option.some.inj ho
          obtain rfl : 1561 = tgt := Int.ofNat.inj ht
          obtain rfl : x = (28 : Int32) := z_ieq hx
          rw [if_neg (by decide)]
          rw [if_neg (by decide)]
          rw [if_neg (by decide)]
          rw [if_neg (by decide)]
          rw [if_neg (by decide)]
          rw [if_neg (by decide)]
          rw [if_neg (by decide)]
          rw [if_neg (by decide)]
          rw [if_neg (by decide)]
          rw [if_neg (by decide)]
          rw [if_neg (by decide)]
          rw [if_neg (by decide)]
          rw [if_neg (by decide)]
          rw [if_neg (by decide)]
          rw [if_neg (by decide)]
          rw [if_neg (by decide)]
          rw [if_neg (by decide)]
          rw [if_neg (by decide)]
          rw [if_neg (by decide)]
          rw [if_neg (by decide)]
          rw [if_neg (by decide)]
          rw [if_neg (by decide)]
          rw [if_neg (by decide)]
          rw [if_neg (by decide)]
          rw [if_neg (by decide)]
          rw [if_neg (by decide)]
          rw [if_neg (by decide)]
          rw [if_neg (by decide)]
          rw [if_pos rfl]
          exact lc_28 hst hs hd hk h0
        | 29, ho =>
          obtain rfl : (1534 : Int) = off := Option.some.inj ho
          obtain rfl : 1574 = tgt := Int.ofNat.inj ht
          obtain rfl : x = (29 : Int32) := z_ieq hx
          rw [if_neg (by decide)]
          rw [if_neg (by decide)]
          rw [if_neg (by decide)]
          rw [if_neg (by decide)]
          rw [if_neg (by decide)]
          rw [if_neg (by decide)]
          rw [if_neg (by decide)]
          rw [if_neg (by decide)]
          rw [if_neg (by decide)]
          rw [if_neg (by decide)]
          rw [if_neg (by decide)]
          rw [if_neg (by decide)]
          rw [if_neg (by decide)]
          rw [if_neg (by decide)]
          rw [if_neg (by decide)]
          rw [if_neg (by decide)]
          rw [if_neg (by decide)]
          rw [if_neg (by decide)]
          rw [if_neg (by decide)]
          rw [if_neg (by decide)]
          rw [if_neg (by decide)]
          rw [if_neg (by decide)]
          rw [if_neg (by decide)]
          rw [if_neg (by decide)]
          rw [if_neg (by decide)]
          rw [if_neg (by decide)]
          rw [if_neg (by decide)]
          rw [if_neg (by decide)]
          rw [if_neg (by decide)]
          rw [if_pos rfl]
          exact lc_29 hst hs hd hk h0
        | 30, ho =>
          obtain rfl : (1614 : Int) = off := Option.some.inj ho
          obtain rfl : 1654 = tgt := Int.ofNat.inj ht
          obtain rfl : x = (30 : Int32) := z_ieq hx
          rw [if_neg (by decide)]
          rw [if_neg (by decide)]
          rw [if_neg (by decide)]
          rw [if_neg (by decide)]
          rw [if_neg (by decide)]
          rw [if_neg (by decide)]
          rw [if_neg (by decide)]
          rw [if_neg (by decide)]
          rw [if_neg (by decide)]
          rw [if_neg (by decide)]
          rw [if_neg (by decide)]
          rw [if_neg (by decide)]
          rw [if_neg (by decide)]
          rw [if_neg (by decide)]
          rw [if_neg (by decide)]
          rw [if_neg (by decide)]
          rw [if_neg (by decide)]
          rw [if_neg (by decide)]
          rw [if_neg (by decide)]
          rw [if_neg (by decide)]
          rw [if_neg (by decide)]
          rw [if_neg (by decide)]
          rw [if_neg (by decide)]
          rw [if_neg (by decide)]
          rw [if_neg (by decide)]
          rw [if_neg (by decide)]
          rw [if_neg (by decide)]
          rw [if_neg (by decide)]
          rw [if_neg (by decide)]
          rw [if_neg (by decide)]
          rw [if_pos rfl]
          exact lc_30 hst hs hd hk h0
        | 31, ho =>
          obtain rfl : (1627 : Int) = off := Option.some.inj ho
          obtain rfl : 1667 = tgt := Int.ofNat.inj ht
          obtain rfl : x = (31 : Int32) := z_ieq hx
          rw [if_neg (by decide)]
          rw [if_neg (by decide)]
          rw [if_neg (by decide)]
          rw [if_neg (by decide)]
          rw [if_neg (by decide)]
          rw [if_neg (by decide)]
          rw [if_neg (by decide)]
          rw [if_neg (by decide)]
          rw [if_neg (by decide)]
          rw [if_neg (by decide)]
          rw [if_neg (by decide)]
          rw [if_neg (by decide)]
          rw [if_neg (by decide)]
          rw [if_neg (by decide)]
          rw [if_neg (by decide)]
          rw [if_neg (by decide)]
          rw [if_neg (by decide)]
          rw [if_neg (by decide)]
          rw [if_neg (by decide)]
          rw [if_neg (by decide)]
          rw [if_neg (by decide)]
          rw [if_neg (by decide)]
          rw [if_neg (by decide)]
          rw [if_neg (by decide)]
          rw [if_neg (by decide)]
          rw [if_neg (by decide)]
          rw [if_neg (by decide)]
          rw [if_neg (by decide)]
          rw [if_neg (by decide)]
          rw [if_neg (by decide)]
          rw [if_neg (by decide)]
          rw [if_pos rfl]
          exact lc_31 hst hs hd hk h0
        | 32, ho =>
          obtain rfl : (1723 : Int) = off := Option.some.inj ho
          obtain rfl : 1763 = tgt := Int.ofNat.inj ht
          obtain rfl : x = (32 : Int32) := z_ieq hx
          rw [if_neg (by decide)]
          rw [if_neg (by decide)]
          rw [if_neg (by decide)]
          rw [if_neg (by decide)]
          rw [if_neg (by decide)]
          rw [if_neg (by decide)]
          rw [if_neg (by decide)]
          rw [if_neg (by decide)]
          rw [if_neg (by decide)]
          rw [if_neg (by decide)]
          rw [if_neg (by decide)]
          rw [if_neg (by decide)]
          rw [if_neg (by decide)]
          rw [if_neg (by decide)]
          rw [if_neg (by decide)]
          rw [if_neg (by decide)]
          rw [if_neg (by decide)]
          rw [if_neg (by decide)]
          rw [if_neg (by decide)]
          rw [if_neg (by decide)]
          rw [if_neg (by decide)]
          rw [if_neg (by decide)]
          rw [if_neg (by decide)]
          rw [if_neg (by decide)]
          rw [if_neg (by decide)]
          rw [if_neg (by decide)]
          rw [if_neg (by decide)]
          rw [if_neg (by decide)]
          rw [if_neg (by decide)]
          rw [if_neg (by decide)]
          rw [if_neg (by decide)]
          rw [if_neg (by decide)]
          rw [if_pos rfl]
          exact lc_32 hst hs hd hk h0
        | 33, ho =>
          obtain rfl : (1819 : Int) = off := Option.some.inj ho
          obtain rfl : 1859 = tgt := Int.ofNat.inj ht
          obtain rfl : x = (33 : Int32) := z_ieq hx
          rw [if_neg (by decide)]
          rw [if_neg (by decide)]
          rw [if_neg (by decide)]
          rw [if_neg (by decide)]
          rw [if_neg (by decide)]
          rw [if_neg (by decide)]
          rw [if_neg (by decide)]
          rw [if_neg (by decide)]
          rw [if_neg (by decide)]
          rw [if_neg (by decide)]
          rw [if_neg (by decide)]
          rw [if_neg (by decide)]
          rw [if_neg (by decide)]
          rw [if_neg (by decide)]
          rw [if_neg (by decide)]
          rw [if_neg (by decide)]
          rw [if_neg (by decide)]
          rw [if_neg (by decide)]
          rw [if_neg (by decide)]
          rw [if_neg (by decide)]
          rw [if_neg (by decide)]
          rw [if_neg (by decide)]
          rw [if_neg (by decide)]
          rw [if_neg (by decide)]
          rw [if_neg (by decide)]
          rw [if_neg (by decide)]
          rw [if_neg (by decide)]
          rw [if_neg (by decide)]
          rw [if_neg (by decide)]
          rw [if_neg (by decide)]
          rw [if_neg (by decide)]
          rw [if_neg (by decide)]
          rw [if_neg (by decide)]
          rw [if_pos rfl]
          exact lc_33 hst hs hd hk h0
        | 34, ho =>
          obtain rfl : (1903 : Int) = off := Option.some.inj ho
          obtain rfl : 1943 = tgt := Int.ofNat.inj ht
          obtain rfl : x = (34 : Int32) := z_ieq hx
          rw [if_neg (by decide)]
          rw [if_neg (by decide)]
          rw [if_neg (by decide)]
          rw [if_neg (by decide)]
          rw [if_neg (by decide)]
          rw [if_neg (by decide)]
          rw [if_neg (by decide)]
          rw [if_neg (by decide)]
          rw [if_neg (by decide)]
          rw [if_neg (by decide)]
          rw [if_neg (by decide)]
          rw [if_neg (by decide)]
          rw [if_neg (by decide)]
          rw [if_neg (by decide)]
          rw [if_neg (by decide)]
          rw [if_neg (by decide)]
          rw [if_neg (by decide)]
          rw [if_neg (by decide)]
          rw [if_neg (by decide)]
          rw [if_neg (by decide)]
          rw [if_neg (by decide)]
          rw [if_neg (by decide)]
          rw [if_neg (by decide)]
          rw [if_neg (by decide)]
          rw [if_neg (by decide)]
          rw [if_neg (by decide)]
          rw [if_neg (by decide)]
          rw [if_neg (by decide)]
          rw [if_neg (by decide)]
          rw [if_neg (by decide)]
          rw [if_neg (by decide)]
          rw [if_neg (by decide)]
          rw [if_neg (by decide)]
          rw [if_neg (by decide)]
          rw [if_pos rfl]
          exact lc_34 hst hs hd hk h0
        | 35, ho =>
          obtain rfl : (1944 : Int) = off := Option.some.inj ho
          obtain rfl : 1984 = tgt := Int.ofNat.inj ht
          obtain rfl : x = (35 : Int32) := z_ieq hx
          rw [if_neg (by decide)]
          rw [if_neg (by decide)]
          rw [if_neg (by decide)]
          rw [if_neg (by decide)]
          rw [if_neg (by decide)]
          rw [if_neg (by decide)]
          rw [if_neg (by decide)]
          rw [if_neg (by decide)]
          rw [if_neg (by decide)]
          rw [if_neg (by decide)]
          rw [if_neg (by decide)]
          rw [if_neg (by decide)]
          rw [if_neg (by decide)]
          rw [if_neg (by decide)]
          rw [if_neg (by decide)]
          rw [if_neg (by decide)]
          rw [if_neg (by decide)]
          rw [if_neg (by decide)]
          rw [if_neg (by decide)]
          rw [if_neg (by decide)]
          rw [if_neg (by decide)]
          rw [if_neg (by decide)]
          rw [if_neg (by decide)]
          rw [if_neg (by decide)]
          rw [if_neg (by decide)]
          rw [if_neg (by decide)]
          rw [if_neg (by decide)]
          rw [if_neg (by decide)]
          rw [if_neg (by decide)]
          rw [if_neg (by decide)]
          rw [if_neg (by decide)]
          rw [if_neg (by decide)]
          rw [if_neg (by decide)]
          rw [if_neg (by decide)]
          rw [if_neg (by decide)]
          rw [if_pos rfl]
          exact lc_35 hst hs hd hk h0
        | 36, ho =>
          obtain rfl : (1985 : Int) = off := Option.some.inj ho
          obtain rfl : 2025 = tgt := Int.ofNat.inj ht
          obtain rfl : x = (36 : Int32) := z_ieq hx
          rw [if_neg (by decide)]
          rw [if_neg (by decide)]
          rw [if_neg (by decide)]
          rw [if_neg (by decide)]
          rw [if_neg (by decide)]
          rw [if_neg (by decide)]
          rw [if_neg (by decide)]
          rw [if_neg (by decide)]
          rw [if_neg (by decide)]
          rw [if_neg (by decide)]
          rw [if_neg (by decide)]
          rw [if_neg (by decide)]
          rw [if_neg (by decide)]
          rw [if_neg (by decide)]
          rw [if_neg (by decide)]
          rw [if_neg (by decide)]
          rw [if_neg (by decide)]
          rw [if_neg (by decide)]
          rw [if_neg (by decide)]
          rw [if_neg (by decide)]
          rw [if_neg (by decide)]
          rw [if_neg (by decide)]
          rw [if_neg (by decide)]
          rw [if_neg (by decide)]
          rw [if_neg (by decide)]
          rw [if_neg (by decide)]
          rw [if_neg (by decide)]
          rw [if_neg (by decide)]
          rw [if_neg (by decide)]
          rw [if_neg (by decide)]
          rw [if_neg (by decide)]
          rw [if_neg (by decide)]
          rw [if_neg (by decide)]
          rw [if_neg (by decide)]
          rw [if_neg (by decide)]
          rw [if_neg (by decide)]
          rw [if_pos rfl]
          exact lc_36 hst hs hd hk h0
        | 37, ho =>
          obtain rfl : (1998 : Int) = off := Option.some.inj ho
          obtain rfl : 2038 = tgt := Int.ofNat.inj ht
          obtain rfl : x = (37 : Int32) := z_ieq hx
          rw [if_neg (by decide)]
          rw [if_neg (by decide)]
          rw [if_neg (by decide)]
          rw [if_neg (by decide)]
          rw [if_neg (by decide)]
          rw [if_neg (by decide)]
          rw [if_neg (by decide)]
          rw [if_neg (by decide)]
          rw [if_neg (by decide)]
          rw [if_neg (by decide)]
          rw [if_neg (by decide)]
          rw [if_neg (by decide)]
          rw [if_neg (by decide)]
          rw [if_neg (by decide)]
          rw [if_neg (by decide)]
          rw [if_neg (by decide)]
          rw [if_neg (by decide)]
          rw [if_neg (by decide)]
          rw [if_neg (by decide)]
          rw [if_neg (by decide)]
          rw [if_neg (by decide)]
          rw [if_neg (by decide)]
          rw [if_neg (by decide)]
          rw [if_neg (by decide)]
          rw [if_neg (by decide)]
          rw [if_neg (by decide)]
          rw [if_neg (by decide)]
          rw [if_neg (by decide)]
          rw [if_neg (by decide)]
          rw [if_neg (by decide)]
          rw [if_neg (by decide)]
          rw [if_neg (by decide)]
          rw [if_neg (by decide)]
          rw [if_neg (by decide)]
          rw [if_neg (by decide)]
          rw [if_neg (by decide)]
          rw [if_neg (by decide)]
          rw [if_pos rfl]
          exact lc_37 hst hs hd hk h0
        | 38, ho =>
          obtain rfl : (2011 : Int) = off := Option.some.inj ho
          obtain rfl : 2051 = tgt := Int.ofNat.inj ht
          obtain rfl : x = (38 : Int32) := z_ieq hx
          rw [if_neg (by decide)]
          rw [if_neg (by decide)]
          rw [if_neg (by decide)]
          rw [if_neg (by decide)]
          rw [if_neg (by decide)]
          rw [if_neg (by decide)]
          rw [if_neg (by decide)]
          rw [if_neg (by decide)]
          rw [if_neg (by decide)]
          rw [if_neg (by decide)]
          rw [if_neg (by decide)]
          rw [if_neg (by decide)]
          rw [if_neg (by decide)]
          rw [if_neg (by decide)]
          rw [if_neg (by decide)]
          rw [if_neg (by decide)]
          rw [if_neg (by decide)]
          rw [if_neg (by decide)]
          rw [if_neg (by decide)]
          rw [if_neg (by decide)]
          rw [if_neg (by decide)]
          rw [if_neg (by decide)]
          rw [if_neg (by decide)]
          rw [if_neg (by decide)]
          rw [if_neg (by decide)]
          rw [if_neg (by decide)]
          rw [if_neg (by decide)]
          rw [if_neg (by decide)]
          rw [if_neg (by decide)]
          rw [if_neg (by decide)]
          rw [if_neg (by decide)]
          rw [if_neg (by decide)]
          rw [if_neg (by decide)]
          rw [if_neg (by decide)]
          rw [if_neg (by decide)]
          rw [if_neg (by decide)]
          rw [if_neg (by decide)]
          rw [if_neg (by decide)]
          rw [if_pos rfl]
          exact lc_38 hst hs hd hk h0
        | i + 39, ho => exact absurd ho (by simp)
      · obtain rfl : 2076 = tgt := Int.ofNat.inj ht
        rw [if_neg (show ¬ x = 0 from z_ine hx 0 (by decide) (by decide))]
        rw [if_neg (show ¬ x = 1 from z_ine hx 1 (by decide) (by decide))]
        rw [if_neg (show ¬ x = 2 from z_ine hx 2 (by decide) (by decide))]
        rw [if_neg (show ¬ x = 3 from z_ine hx 3 (by decide) (by decide))]
        rw [if_neg (show ¬ x = 4 from z_ine hx 4 (by decide) (by decide))]
        rw [if_neg (show ¬ x = 5 from z_ine hx 5 (by decide) (by decide))]
        rw [if_neg (show ¬ x = 6 from z_ine hx 6 (by decide) (by decide))]
        rw [if_neg (show ¬ x = 7 from z_ine hx 7 (by decide) (by decide))]
        rw [if_neg (show ¬ x = 8 from z_ine hx 8 (by decide) (by decide))]
        rw [if_neg (show ¬ x = 9 from z_ine hx 9 (by decide) (by decide))]
        rw [if_neg (show ¬ x = 10 from z_ine hx 10 (by decide) (by decide))]
        rw [if_neg (show ¬ x = 11 from z_ine hx 11 (by decide) (by decide))]
        rw [if_neg (show ¬ x = 12 from z_ine hx 12 (by decide) (by decide))]
        rw [if_neg (show ¬ x = 13 from z_ine hx 13 (by decide) (by decide))]
        rw [if_neg (show ¬ x = 14 from z_ine hx 14 (by decide) (by decide))]
        rw [if_neg (show ¬ x = 15 from z_ine hx 15 (by decide) (by decide))]
        rw [if_neg (show ¬ x = 16 from z_ine hx 16 (by decide) (by decide))]
        rw [if_neg (show ¬ x = 17 from z_ine hx 17 (by decide) (by decide))]
        rw [if_neg (show ¬ x = 18 from z_ine hx 18 (by decide) (by decide))]
        rw [if_neg (show ¬ x = 19 from z_ine hx 19 (by decide) (by decide))]
        rw [if_neg (show ¬ x = 20 from z_ine hx 20 (by decide) (by decide))]
        rw [if_neg (show ¬ x = 21 from z_ine hx 21 (by decide) (by decide))]
        rw [if_neg (show ¬ x = 22 from z_ine hx 22 (by decide) (by decide))]
        rw [if_neg (show ¬ x = 23 from z_ine hx 23 (by decide) (by decide))]
        rw [if_neg (show ¬ x = 24 from z_ine hx 24 (by decide) (by decide))]
        rw [if_neg (show ¬ x = 25 from z_ine hx 25 (by decide) (by decide))]
        rw [if_neg (show ¬ x = 26 from z_ine hx 26 (by decide) (by decide))]
        rw [if_neg (show ¬ x = 27 from z_ine hx 27 (by decide) (by decide))]
        rw [if_neg (show ¬ x = 28 from z_ine hx 28 (by decide) (by decide))]
        rw [if_neg (show ¬ x = 29 from z_ine hx 29 (by decide) (by decide))]
        rw [if_neg (show ¬ x = 30 from z_ine hx 30 (by decide) (by decide))]
        rw [if_neg (show ¬ x = 31 from z_ine hx 31 (by decide) (by decide))]
        rw [if_neg (show ¬ x = 32 from z_ine hx 32 (by decide) (by decide))]
        rw [if_neg (show ¬ x = 33 from z_ine hx 33 (by decide) (by decide))]
        rw [if_neg (show ¬ x = 34 from z_ine hx 34 (by decide) (by decide))]
        rw [if_neg (show ¬ x = 35 from z_ine hx 35 (by decide) (by decide))]
        rw [if_neg (show ¬ x = 36 from z_ine hx 36 (by decide) (by decide))]
        rw [if_neg (show ¬ x = 37 from z_ine hx 37 (by decide) (by decide))]
        rw [if_neg (show ¬ x = 38 from z_ine hx 38 (by decide) (by decide))]
        exact hk Sh D h0
